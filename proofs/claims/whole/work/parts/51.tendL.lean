/-- the table of the m last rows -/
def ICb (ρ : Nat → Int) (m : Nat) (M : ZM) : Prop := ∀ m', m' ≤ m → ∀ st, st ≤ q_T ρ → M 114 ((q_n ρ 2 - m') * 366 + st) = (q_bt (q_n ρ) m' (q_dg st) : Int)
theorem ICb.congr {ρ : Nat → Int} {m : Nat} {M M' : ZM} (h : ICb ρ m M) (e : M' 114 = M 114) : ICb ρ m M' := by
  unfold ICb at h ⊢
  rw [e]
  exact h
def q_fv : Option Nat → Int
  | some a => (a : Int)
  | none => -2
theorem q_fv_ne {o : Option Nat} : q_fv o = -2 ↔ o = none := by
  cases o with
  | none => exact ⟨fun _ => rfl, fun _ => rfl⟩
  | some a => exact ⟨fun h => by have : (a : Int) = -2 := h; omega, fun h => by cases h⟩
theorem q_first_step {p : Nat → Bool} {i : Nat} (h : q_first p i = none) (hp : p i = true) : q_first p (i + 1) = some i := by
  show (match q_first p i with
      | some i => some i
      | none => if p i then some i else none) = _
  rw [h]
  show (if p i then some i else none) = _
  rw [if_pos hp]
theorem q_first_skip {p : Nat → Bool} {i : Nat} (hp : ¬ p i = true) : q_first p (i + 1) = q_first p i := by
  show (match q_first p i with
      | some i => some i
      | none => if p i then some i else none) = _
  cases q_first p i with
  | some w => rfl
  | none =>
    show (if p i then some i else none) = _
    rw [if_neg hp]
theorem q_first_keep {p : Nat → Bool} {i w : Nat} (h : q_first p i = some w) : q_first p (i + 1) = some w := by
  show (match q_first p i with
      | some i => some i
      | none => if p i then some i else none) = _
  rw [h]
theorem q_fv_le {p : Nat → Bool} {i : Nat} : -2 ≤ q_fv (q_first p i) ∧ q_fv (q_first p i) < 2 + (i : Int) := by
  cases h : q_first p i with
  | none => exact ⟨by show (-2 : Int) ≤ -2; decide, by show (-2 : Int) < _; omega⟩
  | some w =>
    have := (q_first_some h).1
    exact ⟨by show (-2 : Int) ≤ (w : Int); omega, by show (w : Int) < _; omega⟩
theorem l_followI {l : Launch} {X : ZX} {M : ZM} {c : Nat} (hc : isC c) {ρ : Nat → Int} {h : Int} (hW : zWc M) (hC : ICc ρ h c M) (hR : wfR ρ) (hB : ICb ρ (q_n ρ 2) M) {s st m : Nat} (hm : s + (m + 1) = q_n ρ 2) (hst : st ≤ q_T ρ) {Q : Option ZV → ZM → Prop} (hQ : zP l X 3 tX9_follow 106 [some (zr 112), some (zr (c : Int)), some (zi (st : Int)), some (zi (s : Int)), some (zi (q_n ρ 3 : Int))] [] (zset M 113 s (q_fv (q_who (q_n ρ) m (q_dg st)))) Q) : ∀ (j i : Nat), i + j = q_n ρ 3 → zP l X 3 tX9_follow 34 [some (zr 112), some (zr (c : Int)), some (zi (st : Int)), some (zi (s : Int)), some (zi (i : Int))] [] (zset M 113 s (q_fv (q_first (q_whop (q_n ρ) m (q_dg st)) i))) (Q) := by
  have e2 : ρ 2 = (q_n ρ 2 : Int) := hR.n (by decide)
  have b2 := hR.2.1.2.2.1
  have e3 : ρ 3 = (q_n ρ 3 : Int) := hR.n (by decide)
  have b3 := hR.2.1.2.2.2.1
  have hcl := hc.lt
  have hT := q_T_le hR (n := q_n ρ 3) (by omega)
  change q_T ρ ≤ 365 at hT
  have hse : s = q_n ρ 2 - (m + 1) := by omega
  intro j
  induction j with
  | zero =>
    intro i hi
    have hW9 : zWc (zset M 113 s (q_fv (q_first (q_whop (q_n ρ) m (q_dg st)) i))) := hW.setc (by decide +kernel)
    refine p_iload 36 dX9_follow_34 rfl ?_
    refine p_aload_n 37 dX9_follow_36 rfl rfl (by omega) ?_
    refine p_getR (c) 40 dX9_follow_37 fX9_26 hc.tt2.1 (hc.wire2 hW9).2.1 ?_
    refine p_getI (c + 6) 43 dX9_follow_40 fX9_32 hc.tt2.2.2.1 ?_
    rw [zset_ne _ (by omega), hC.1.2.2.2.2.1]
    refine p_icmp_ge 106 46 dX9_follow_43 (by omega) (by omega) (by omega) (by omega) (fun h43 => ?_) (fun h43 => absurd (by omega) (fun h9 : False => h9))
    rw [Nat.add_zero] at hi
    subst hi
    exact hQ
  | succ j ih =>
    intro i hi
    have hW9 : zWc (zset M 113 s (q_fv (q_first (q_whop (q_n ρ) m (q_dg st)) i))) := hW.setc (by decide +kernel)
    have hC9 : ICc ρ h c (zset M 113 s (q_fv (q_first (q_whop (q_n ρ) m (q_dg st)) i))) := hC.congr (fun a g1 g2 => zset_ne _ (by omega))
    have hfl := q_fv_le (p := (q_whop (q_n ρ) m (q_dg st))) (i := i)
    have hBs : M 114 (s * 366 + st) = (q_bt (q_n ρ) (m + 1) (q_dg st) : Int) := by
      have := hB (m + 1) (by omega) st hst
      rw [← hse] at this
      exact this
    refine p_iload 36 dX9_follow_34 rfl ?_
    refine p_aload_n 37 dX9_follow_36 rfl rfl (by omega) ?_
    refine p_getR (c) 40 dX9_follow_37 fX9_26 hc.tt2.1 (hc.wire2 hW9).2.1 ?_
    refine p_getI (c + 6) 43 dX9_follow_40 fX9_32 hc.tt2.2.2.1 ?_
    rw [zset_ne _ (by omega), hC.1.2.2.2.2.1]
    refine p_icmp_ge 106 46 dX9_follow_43 (by omega) (by omega) (by omega) (by omega) (fun h43 => absurd (by omega) (fun h9 : False => h9)) (fun h43 => ?_)
    refine p_aload_n 47 dX9_follow_46 rfl rfl (by decide) ?_
    refine p_getR 112 50 dX9_follow_47 fX9_9 rfl (hW9 (112, 3, 113) (by decide)) ?_
    refine p_iload_n 51 dX9_follow_50 rfl rfl ?_
    refine p_ialdn 113 52 (s) dX9_follow_51 rfl (by omega) (by omega) ?_
    rw [zset_at]
    refine p_bipush 54 dX9_follow_52 rfl ?_
    refine p_icmp_ne 100 57 dX9_follow_54 (by omega) (by omega) (by omega) (by omega) (fun h54 => ?_) (fun h54 => ?_)
    · have hns : q_first (q_whop (q_n ρ) m (q_dg st)) (i + 1) = q_first (q_whop (q_n ρ) m (q_dg st)) i := by
        cases hq : q_first (q_whop (q_n ρ) m (q_dg st)) i with
        | none => exact absurd (q_fv_ne.mpr hq) h54
        | some w => exact q_first_keep hq
      refine p_iinc 103 dX9_follow_100 rfl rfl rfl ?_
      dsimp only [List.set]
      refine p_goto 34 dX9_follow_103 ?_
      first
        | (have e := ih (i + 1) (by omega)
           rw [hns] at e
           exact e)
        | (have e := ih (i + 1) (by omega)
           rw [hyes] at e
           rw [zset_zset]
           exact e)
    · have hno : q_first (q_whop (q_n ρ) m (q_dg st)) i = none := q_fv_ne.mp (Decidable.not_not.mp h54)
      refine p_aload_n 58 dX9_follow_57 rfl rfl (by omega) ?_
      refine p_iload 60 dX9_follow_58 rfl ?_
      refine p_iload_n 61 dX9_follow_60 rfl rfl ?_
      refine p_iload_n 62 dX9_follow_61 rfl rfl ?_
      refine p_callS4i 65 dX9_follow_62 (s_canTake hc hW9 hC9 hR (u := i) (s := s) (st := st) (by omega) (by omega) (by omega)) lk_X9_59 mX9_canTake (by decide) (Nat.le_of_ble_eq_true rfl) ?_
      rintro _ _ ⟨rfl, e9⟩
      have e9 := e9.symm
      subst e9
      refine p_if_eq 100 68 dX9_follow_65 (by split <;> omega) (by split <;> omega) (fun h65 => ?_) (fun h65 => ?_)
      · have hn : ¬ (decide (0 < q_dg st i) && q_reach (q_n ρ) i s) = true := if_eq0 h65
        have hns : q_first (q_whop (q_n ρ) m (q_dg st)) (i + 1) = q_first (q_whop (q_n ρ) m (q_dg st)) i := q_first_skip (by
          unfold q_whop
          rw [← hse, Bool.eq_false_iff.mpr hn]
          simp)
        refine p_iinc 103 dX9_follow_100 rfl rfl rfl ?_
        dsimp only [List.set]
        refine p_goto 34 dX9_follow_103 ?_
        first
          | (have e := ih (i + 1) (by omega)
             rw [hns] at e
             exact e)
          | (have e := ih (i + 1) (by omega)
             rw [hyes] at e
             rw [zset_zset]
             exact e)
      · have hy : (decide (0 < q_dg st i) && q_reach (q_n ρ) i s) = true := if_neq0 h65
        have hy0 : 0 < q_dg st i := by
          rw [Bool.and_eq_true, decide_eq_true_eq] at hy
          exact hy.1
        obtain ⟨hq8, -, hq3⟩ := q_bt_sub (ρ := ρ) (m := m) (a := i) (st := st) (by omega) (by omega) (by omega) hy0
        have hbl := q_bt_le hR m (q_hd1 (q_dg st) i)
        have hwl := q_wt_le hR (s := s) (by omega)
        have hbl2 := q_bt_le hR (m + 1) (q_dg st)
        refine p_aload_n 69 dX9_follow_68 rfl rfl (by decide) ?_
        refine p_aload_n 70 dX9_follow_69 rfl rfl (by omega) ?_
        refine p_iload 72 dX9_follow_70 rfl ?_
        refine p_iload_n 73 dX9_follow_72 rfl rfl ?_
        refine p_iload_n 74 dX9_follow_73 rfl rfl ?_
        refine p_callV4i 112 77 dX9_follow_74 (s_tendedFor hc hW9 hC9 hR (a := i) (s := s) (st := st) (m := m) (p := 8 ^ i) (by omega) hm hst rfl hq8 (by rw [zset_ne _ (by decide), show s + 1 = q_n ρ 2 - m by omega]; exact hB m (by omega) _ (Nat.le_trans (Nat.sub_le _ _) hst))) lk_X9_63 mX9_tendedFor rfl rfl (by decide) (Nat.le_of_ble_eq_true rfl) ?_
        rintro _ _ ⟨rfl, e9⟩
        have e9 := e9.symm
        subst e9
        rw [hq3]
        refine p_aload_n 78 dX9_follow_77 rfl rfl (by decide) ?_
        refine p_getR 112 81 dX9_follow_78 fX9_15 rfl (hW9 (112, 4, 114) (by decide)) ?_
        refine p_iload_n 82 dX9_follow_81 rfl rfl ?_
        refine p_sipush 85 dX9_follow_82 rfl ?_
        refine p_imul 86 dX9_follow_85 ?_
        refine p_iload_n 87 dX9_follow_86 rfl rfl ?_
        refine p_iadd 88 dX9_follow_87 ?_
        refine p_ialdn 114 89 (s * 366 + st) dX9_follow_88 rfl (by omega) (by omega) ?_
        rw [zset_ne _ (by decide), hBs]
        refine p_icmp_ne 100 92 dX9_follow_89 (by omega) (by omega) (by omega) (by omega) (fun h89 => ?_) (fun h89 => ?_)
        · have hns : q_first (q_whop (q_n ρ) m (q_dg st)) (i + 1) = q_first (q_whop (q_n ρ) m (q_dg st)) i := q_first_skip (by
            unfold q_whop
            rw [← hse, decide_eq_false (show ¬ (q_wt (q_n ρ) s + q_bt (q_n ρ) m (q_hd1 (q_dg st) i) = q_bt (q_n ρ) (m + 1) (q_dg st)) by omega)]
            simp)
          refine p_iinc 103 dX9_follow_100 rfl rfl rfl ?_
          dsimp only [List.set]
          refine p_goto 34 dX9_follow_103 ?_
          first
            | (have e := ih (i + 1) (by omega)
               rw [hns] at e
               exact e)
            | (have e := ih (i + 1) (by omega)
               rw [hyes] at e
               rw [zset_zset]
               exact e)
        · have hyes : q_first (q_whop (q_n ρ) m (q_dg st)) (i + 1) = some i := q_first_step hno (by
            unfold q_whop
            rw [← hse, hy, decide_eq_true (by omega)]
            rfl)
          refine p_aload_n 93 dX9_follow_92 rfl rfl (by decide) ?_
          refine p_getR 112 96 dX9_follow_93 fX9_9 rfl (hW9 (112, 3, 113) (by decide)) ?_
          refine p_iload_n 97 dX9_follow_96 rfl rfl ?_
          refine p_iload 99 dX9_follow_97 rfl ?_
          refine p_iastn 113 100 (s) dX9_follow_99 rfl (by omega) (by omega) ?_
          refine p_iinc 103 dX9_follow_100 rfl rfl rfl ?_
          dsimp only [List.set]
          refine p_goto 34 dX9_follow_103 ?_
          first
            | (have e := ih (i + 1) (by omega)
               rw [hns] at e
               exact e)
            | (have e := ih (i + 1) (by omega)
               rw [hyes] at e
               rw [zset_zset]
               exact e)
/-- how far the tending is followed: the sleepers below i are done, the hands st are left -/
def FOs (ρ : Nat → Int) (N M : ZM) (i st : Nat) : Prop := (∀ a, a ≠ 112 → a ≠ 113 → M a = N a) ∧ (∀ k, k ≠ 2 → M 112 k = N 112 k) ∧ M 112 2 = (q_set (fun s => decide (q_tends (q_n ρ) (q_n ρ 2) (q_hands (q_n ρ)) s ≠ 0)) i : Int) ∧ (∀ x, x < i → M 113 x = q_tnd (q_tends (q_n ρ) (q_n ρ 2) (q_hands (q_n ρ)) x : Int)) ∧ st ≤ q_T ρ ∧ ∀ x, i ≤ x → q_tends (q_n ρ) (q_n ρ 2) (q_hands (q_n ρ)) x = q_tends (q_n ρ) (q_n ρ 2 - i) (q_dg st) x
theorem FOs.who {ρ : Nat → Int} {N M : ZM} {s st m : Nat} (h : FOs ρ N M s st) (hm : s + (m + 1) = q_n ρ 2) : q_tends (q_n ρ) (q_n ρ 2) (q_hands (q_n ρ)) s = q_tv (q_who (q_n ρ) m (q_dg st)) ∧ ∀ x, s + 1 ≤ x → q_tends (q_n ρ) (q_n ρ 2) (q_hands (q_n ρ)) x = q_tends (q_n ρ) m (q_hdw (q_dg st) (q_who (q_n ρ) m (q_dg st))) x := by
  have h6 := h.2.2.2.2.2
  have e : q_n ρ 2 - s = m + 1 := by omega
  rw [e] at h6
  refine ⟨?_, fun x hx => ?_⟩
  · rw [h6 s (Nat.le_refl s), q_tends_succ, if_pos (by omega)]
  · rw [h6 x (by omega), q_tends_succ, if_neg (by omega)]
theorem FOs.none {ρ : Nat → Int} {N M : ZM} {s st m : Nat} (h : FOs ρ N M s st) (hm : s + (m + 1) = q_n ρ 2) (hw : q_who (q_n ρ) m (q_dg st) = none) : FOs ρ N (zset M 113 s (-2)) (s + 1) st := by
  obtain ⟨k1, k2⟩ := h.who hm
  rw [hw] at k1 k2
  obtain ⟨h1, h2, h3, h4, h5, -⟩ := h
  refine ⟨fun a g1 g2 => by rw [zset_ne _ g2]; exact h1 a g1 g2, fun k hk => by rw [zset_ne _ (by decide)]; exact h2 k hk, ?_, fun x hx => ?_, h5, fun x hx => ?_⟩
  · rw [zset_ne _ (by decide), h3]
    have e : q_set (fun s => decide (q_tends (q_n ρ) (q_n ρ 2) (q_hands (q_n ρ)) s ≠ 0)) (s + 1) = q_set (fun s => decide (q_tends (q_n ρ) (q_n ρ 2) (q_hands (q_n ρ)) s ≠ 0)) s := by
      show (if (fun s => decide (q_tends (q_n ρ) (q_n ρ 2) (q_hands (q_n ρ)) s ≠ 0)) s then _ else _) = _
      have : (fun s => decide (q_tends (q_n ρ) (q_n ρ 2) (q_hands (q_n ρ)) s ≠ 0)) s = false := by
        show decide (_ ≠ 0) = false
        rw [k1]
        rfl
      rw [this, if_neg (by decide)]
    rw [e]
  · by_cases e : x = s
    · subst e
      rw [zset_at, k1]
      rfl
    · rw [zset_k e]
      exact h4 x (by omega)
  · rw [k2 x hx, show q_n ρ 2 - (s + 1) = m by omega]
    rfl
theorem FOs.some {ρ : Nat → Int} {N M : ZM} {s st m w : Nat} (h : FOs ρ N M s st) (h3 : q_n ρ 3 ≤ 3) (hT : q_T ρ ≤ 365) (hm : s + (m + 1) = q_n ρ 2) (hw : q_who (q_n ρ) m (q_dg st) = some w) : 8 ^ w ≤ st ∧ FOs ρ N (zset (zset M 113 s (w : Int)) 112 2 ((q_set (fun s => decide (q_tends (q_n ρ) (q_n ρ 2) (q_hands (q_n ρ)) s ≠ 0)) s ||| 2 ^ s : Nat) : Int)) (s + 1) (st - 8 ^ w) := by
  obtain ⟨k1, k2⟩ := h.who hm
  rw [hw] at k1 k2
  obtain ⟨h1, h2, h3', h4, h5, -⟩ := h
  obtain ⟨w1, w2, -⟩ := q_first_some hw
  have hd : 0 < q_dg st w := by
    have w3 : q_whop (q_n ρ) m (q_dg st) w = true := w2
    unfold q_whop at w3
    rw [Bool.and_eq_true, Bool.and_eq_true, decide_eq_true_eq] at w3
    exact w3.1.1
  obtain ⟨q1, q2, -⟩ := q_bt_sub (ρ := ρ) (m := m) (a := w) (st := st) h3 w1 (by omega) hd
  refine ⟨q1, fun a g1 g2 => by rw [zset_ne _ g1, zset_ne _ g2]; exact h1 a g1 g2, fun k hk => by rw [zset_k hk, zset_ne _ (by decide)]; exact h2 k hk, ?_, fun x hx => ?_, Nat.le_trans (Nat.sub_le _ _) h5, fun x hx => ?_⟩
  · rw [zset_at]
    have e : q_set (fun s => decide (q_tends (q_n ρ) (q_n ρ 2) (q_hands (q_n ρ)) s ≠ 0)) (s + 1) = q_set (fun s => decide (q_tends (q_n ρ) (q_n ρ 2) (q_hands (q_n ρ)) s ≠ 0)) s ||| 2 ^ s := by
      show (if (fun s => decide (q_tends (q_n ρ) (q_n ρ 2) (q_hands (q_n ρ)) s ≠ 0)) s then _ else _) = _
      have : (fun s => decide (q_tends (q_n ρ) (q_n ρ 2) (q_hands (q_n ρ)) s ≠ 0)) s = true := by
        show decide (_ ≠ 0) = true
        rw [k1]
        exact decide_eq_true (Nat.succ_ne_zero w)
      rw [this, if_pos rfl]
    rw [e]
  · rw [zset_ne _ (by decide)]
    by_cases e : x = s
    · subst e
      rw [zset_at, k1]
      show (w : Int) = q_tnd (((w + 1 : Nat)) : Int)
      unfold q_tnd
      rw [if_neg (by omega)]
      omega
    · rw [zset_k e]
      exact h4 x (by omega)
  · rw [k2 x hx, show q_n ρ 2 - (s + 1) = m by omega]
    exact (q_tends_congr m (fun b hb => (q2 b hb).symm) x)
theorem l_follow {l : Launch} {X : ZX} {M : ZM} {c : Nat} (hc : isC c) {ρ : Nat → Int} {h : Int} {N : ZM} (hW : zWc N) (hC : ICc ρ h c N) (hR : wfR ρ) (hB : ICb ρ (q_n ρ 2) N) : ∀ (j i : Nat), i + j = q_n ρ 2 → ∀ {M : ZM} (st : Nat) (o4 : Option ZV), FOs ρ N M i st → zP l X 3 tX9_follow 12 [some (zr 112), some (zr (c : Int)), some (zi (st : Int)), some (zi (i : Int)), o4] [] M (fun r M' => r = none ∧ (∀ a, a ≠ 112 → a ≠ 113 → M' a = N a) ∧ (∀ k, k ≠ 2 → M' 112 k = N 112 k) ∧ M' 112 2 = (q_set (fun s => decide (q_tends (q_n ρ) (q_n ρ 2) (q_hands (q_n ρ)) s ≠ 0)) (q_n ρ 2) : Int) ∧ (∀ x, x < q_n ρ 2 → M' 113 x = q_tnd (q_tends (q_n ρ) (q_n ρ 2) (q_hands (q_n ρ)) x : Int))) := by
  have e2 : ρ 2 = (q_n ρ 2 : Int) := hR.n (by decide)
  have b2 := hR.2.1.2.2.1
  have e3 : ρ 3 = (q_n ρ 3 : Int) := hR.n (by decide)
  have b3 := hR.2.1.2.2.2.1
  have hcl := hc.lt
  have hT := q_T_le hR (n := q_n ρ 3) (by omega)
  change q_T ρ ≤ 365 at hT
  intro j
  induction j with
  | zero =>
    intro i hi M st o4 hO
    have hW9 : zWc M := hW.fr (fun q hq => by
      have hr : ∀ q ∈ zwC, q.1 ≠ 113 ∧ (q.1 = 112 → q.2.1 ≠ 2) := by decide +kernel
      by_cases e : q.1 = 112
      · rw [e]
        exact hO.2.1 _ ((hr q hq).2 e)
      · rw [hO.1 _ e (hr q hq).1])
    refine p_iload_n 13 dX9_follow_12 rfl rfl ?_
    refine p_aload_n 14 dX9_follow_13 rfl rfl (by omega) ?_
    refine p_getR (c) 17 dX9_follow_14 fX9_44 hc.tt2.1 (hc.wire2 hW9).1 ?_
    refine p_getI (c + 1) 20 dX9_follow_17 fX9_48 hc.tt2.2.1 ?_
    rw [hO.1 (c + 1) (by omega) (by omega), hC.1.2.2.2.1]
    refine p_icmp_ge 149 23 dX9_follow_20 (by omega) (by omega) (by omega) (by omega) (fun h20 => ?_) (fun h20 => absurd (by omega) (fun h9 : False => h9))
    refine p_vret dX9_follow_149 rfl ?_
    rw [Nat.add_zero] at hi
    subst hi
    exact ⟨rfl, hO.1, hO.2.1, hO.2.2.1, hO.2.2.2.1⟩
  | succ j ih =>
    intro i hi M st o4 hO
    have hW9 : zWc M := hW.fr (fun q hq => by
      have hr : ∀ q ∈ zwC, q.1 ≠ 113 ∧ (q.1 = 112 → q.2.1 ≠ 2) := by decide +kernel
      by_cases e : q.1 = 112
      · rw [e]
        exact hO.2.1 _ ((hr q hq).2 e)
      · rw [hO.1 _ e (hr q hq).1])
    have hC9 : ICc ρ h c M := hC.congr (fun a g1 g2 => hO.1 a (by omega) (by omega))
    have hB9 : ICb ρ (q_n ρ 2) M := hB.congr (hO.1 114 (by decide) (by decide))
    obtain ⟨m, hm⟩ : ∃ m, i + (m + 1) = q_n ρ 2 := ⟨q_n ρ 2 - i - 1, by omega⟩
    have hst := hO.2.2.2.2.1
    have h2i : 2 ^ i < 128 := p7w (by omega)
    have hsl := q_set_lt (fun s => decide (q_tends (q_n ρ) (q_n ρ 2) (q_hands (q_n ρ)) s ≠ 0)) i
    have hfl := q_fv_le (p := q_whop (q_n ρ) m (q_dg st)) (i := q_n ρ 3)
    change -2 ≤ q_fv (q_who (q_n ρ) m (q_dg st)) ∧ q_fv (q_who (q_n ρ) m (q_dg st)) < 2 + (q_n ρ 3 : Int) at hfl
    refine p_iload_n 13 dX9_follow_12 rfl rfl ?_
    refine p_aload_n 14 dX9_follow_13 rfl rfl (by omega) ?_
    refine p_getR (c) 17 dX9_follow_14 fX9_44 hc.tt2.1 (hc.wire2 hW9).1 ?_
    refine p_getI (c + 1) 20 dX9_follow_17 fX9_48 hc.tt2.2.1 ?_
    rw [hO.1 (c + 1) (by omega) (by omega), hC.1.2.2.2.1]
    refine p_icmp_ge 149 23 dX9_follow_20 (by omega) (by omega) (by omega) (by omega) (fun h20 => absurd (by omega) (fun h9 : False => h9)) (fun h20 => ?_)
    refine p_aload_n 24 dX9_follow_23 rfl rfl (by decide) ?_
    refine p_getR 112 27 dX9_follow_24 fX9_9 rfl (hW9 (112, 3, 113) (by decide)) ?_
    refine p_iload_n 28 dX9_follow_27 rfl rfl ?_
    refine p_bipush 30 dX9_follow_28 rfl ?_
    refine p_iastn 113 31 (i) dX9_follow_30 rfl (by omega) (by omega) ?_
    refine p_iconst 32 dX9_follow_31 ?_
    refine p_istore 34 dX9_follow_32 (Nat.le_of_ble_eq_true rfl) rfl rfl ?_
    dsimp only [List.set]
    refine l_followI (l := l) (X := X) (M := M) hc hW9 hC9 hR hB9 (s := i) (st := st) (m := m) hm hO.2.2.2.2.1 ?_ (q_n ρ 3) 0 (Nat.zero_add _)
    have hW8 : zWc (zset M 113 i (q_fv (q_who (q_n ρ) m (q_dg st)))) := hW9.setc (by decide +kernel)
    refine p_aload_n 107 dX9_follow_106 rfl rfl (by decide) ?_
    refine p_getR 112 110 dX9_follow_107 fX9_9 rfl (hW8 (112, 3, 113) (by decide)) ?_
    refine p_iload_n 111 dX9_follow_110 rfl rfl ?_
    refine p_ialdn 113 112 (i) dX9_follow_111 rfl (by omega) (by omega) ?_
    rw [zset_at]
    refine p_bipush 114 dX9_follow_112 rfl ?_
    refine p_icmp_eq 143 117 dX9_follow_114 (by omega) (by omega) (by omega) (by omega) (fun h114 => ?_) (fun h114 => ?_)
    · have hwn : q_who (q_n ρ) m (q_dg st) = none := q_fv_ne.mp h114
      have hO2 := hO.none hm hwn
      rw [hwn]
      refine p_iinc 146 dX9_follow_143 rfl rfl rfl ?_
      dsimp only [List.set]
      refine p_goto 12 dX9_follow_146 ?_
      first
        | exact ih (i + 1) (by omega) st (some (zi (q_n ρ 3 : Int))) hO2
        | (have e := ih (i + 1) (by omega) (st - 8 ^ w) (some (zi (q_n ρ 3 : Int))) hO2
           rw [show ((st - 8 ^ w : Nat) : Int) = (st : Int) - ((8 ^ w : Nat) : Int) from Int.ofNat_sub hq8] at e
           exact e)
    · obtain ⟨w, hwe⟩ : ∃ w, q_who (q_n ρ) m (q_dg st) = some w := by
        cases hq : q_who (q_n ρ) m (q_dg st) with
        | none => exact absurd (q_fv_ne.mpr hq) h114
        | some w => exact ⟨w, rfl⟩
      have hqw : q_fv (q_who (q_n ρ) m (q_dg st)) = (w : Int) := by rw [hwe]; rfl
      obtain ⟨hq8, hO2⟩ := hO.some (by omega) hT hm hwe
      have hw3 := (q_first_some hwe).1
      refine p_iload_n 118 dX9_follow_117 rfl rfl ?_
      refine p_aload_n 119 dX9_follow_118 rfl rfl (by decide) ?_
      refine p_getR 112 122 dX9_follow_119 fX9_9 rfl (hW8 (112, 3, 113) (by decide)) ?_
      refine p_iload_n 123 dX9_follow_122 rfl rfl ?_
      refine p_ialdn 113 124 (i) dX9_follow_123 rfl (by omega) (by omega) ?_
      rw [zset_at, hqw]
      refine p_iconst 125 dX9_follow_124 ?_
      refine p_callN2i 128 dX9_follow_125 (s_handsAt (i := w) (v := 1) (by omega) (by decide)) ln_X9_40 mX11_handsAt (by decide) (Nat.le_of_ble_eq_true rfl) ?_
      rintro _ _ ⟨rfl, e9⟩
      have e9 := e9.symm
      subst e9
      rw [Nat.one_mul]
      refine p_isub 129 dX9_follow_128 ?_
      refine p_istore_n 130 dX9_follow_129 rfl (Nat.le_of_ble_eq_true rfl) rfl rfl ?_
      dsimp only [List.set]
      refine p_aload_n 131 dX9_follow_130 rfl rfl (by decide) ?_
      refine p_dupR 132 dX9_follow_131 ?_
      refine p_getI 112 135 dX9_follow_132 fX9_80 rfl ?_
      rw [zset_ne _ (by decide), hO.2.2.1]
      refine p_iload_n 136 dX9_follow_135 rfl rfl ?_
      refine p_callN1i 139 dX9_follow_136 (s_bit (i := i) (by omega)) ln_X9_83 mX11_bit (by decide) (Nat.le_of_ble_eq_true rfl) ?_
      rintro _ _ ⟨rfl, e9⟩
      have e9 := e9.symm
      subst e9
      refine p_ior 140 dX9_follow_139 ?_
      rw [z_ior_n (q_set (fun s => decide (q_tends (q_n ρ) (q_n ρ 2) (q_hands (q_n ρ)) s ≠ 0)) i) (2 ^ i) (by omega) (by omega)]
      refine p_putI 112 143 dX9_follow_140 wX9_80 rfl ?_
      refine p_iinc 146 dX9_follow_143 rfl rfl rfl ?_
      dsimp only [List.set]
      refine p_goto 12 dX9_follow_146 ?_
      first
        | exact ih (i + 1) (by omega) st (some (zi (q_n ρ 3 : Int))) hO2
        | (have e := ih (i + 1) (by omega) (st - 8 ^ w) (some (zi (q_n ρ 3 : Int))) hO2
           rw [show ((st - 8 ^ w : Nat) : Int) = (st : Int) - ((8 ^ w : Nat) : Int) from Int.ofNat_sub hq8] at e
           exact e)
theorem s_follow {l : Launch} {X : ZX} {M : ZM} {c : Nat} (hc : isC c) {ρ : Nat → Int} {h : Int} (hW : zWc M) (hC : ICc ρ h c M) (hR : wfR ρ) (hB : ICb ρ (q_n ρ 2) M) (ha : M 112 1 = (q_allHands (q_n ρ) : Int)) : zCv l X 3 yX9_follow tX9_follow [zr 112, zr (c : Int)] M (fun M' => (∀ a, a ≠ 112 → a ≠ 113 → M' a = M a) ∧ (∀ k, k ≠ 2 → M' 112 k = M 112 k) ∧ M' 112 2 = (q_set (fun s => decide (q_tends (q_n ρ) (q_n ρ 2) (q_hands (q_n ρ)) s ≠ 0)) (q_n ρ 2) : Int) ∧ (∀ x, x < q_n ρ 2 → M' 113 x = q_tnd (q_tends (q_n ρ) (q_n ρ 2) (q_hands (q_n ρ)) x : Int))) := by
  have e2 : ρ 2 = (q_n ρ 2 : Int) := hR.n (by decide)
  have b2 := hR.2.1.2.2.1
  have e3 : ρ 3 = (q_n ρ 3 : Int) := hR.n (by decide)
  have b3 := hR.2.1.2.2.2.1
  have hcl := hc.lt
  have hT := q_T_le hR (n := q_n ρ 3) (by omega)
  change q_T ρ ≤ 365 at hT
  refine zC.of [some (zr 112), some (zr (c : Int)), none, none, none] (by decide +kernel) rfl rfl (Nat.le_of_ble_eq_true rfl) rfl ?_
  refine p_aload_n 1 dX9_follow_0 rfl rfl (by decide) ?_
  refine p_getI 112 4 dX9_follow_1 fX9_22 rfl ?_
  rw [ha]
  refine p_istore_n 5 dX9_follow_4 rfl (Nat.le_of_ble_eq_true rfl) rfl rfl ?_
  dsimp only [List.set]
  refine p_aload_n 6 dX9_follow_5 rfl rfl (by decide) ?_
  refine p_iconst 7 dX9_follow_6 ?_
  refine p_putI 112 10 dX9_follow_7 wX9_80 rfl ?_
  refine p_iconst 11 dX9_follow_10 ?_
  refine p_istore_n 12 dX9_follow_11 rfl (Nat.le_of_ble_eq_true rfl) rfl rfl ?_
  dsimp only [List.set]
  refine (l_follow (M := M) (N := zset M 112 2 0) hc (hW.set (by decide +kernel)) (hC.congr (fun a g1 g2 => zset_ne _ (by omega))) hR (hB.congr (zset_ne _ (by decide))) (q_n ρ 2) 0 (Nat.zero_add _) (q_allHands (q_n ρ)) none ⟨fun _ _ _ => rfl, fun _ _ => rfl, rfl, fun x hx => absurd hx (by omega), q_all_le_T ρ, fun x _ => q_tends_congr _ (q_dg_all hR) x⟩).mono (fun r M9 h9 => ?_)
  obtain ⟨g0, g1, g2, g3, g4⟩ := h9
  exact ⟨g0, fun a k1 k2 => (g1 a k1 k2).trans (zset_ne _ k1), fun k hk => (g2 k hk).trans (zset_k hk), g3, g4⟩
