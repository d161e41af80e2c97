/-! THE READER, the class's: which word must come before which -/
def q_nab (ρ : Nat → Int) (x y w : Nat) : Nat := if w = y ∨ (q_ab (q_n ρ) w).testBit y = true then q_ab (q_n ρ) w ||| (q_ab (q_n ρ) x ||| 2 ^ x) else q_ab (q_n ρ) w
def LB (ρ : Nat → Int) (c x y i : Nat) (N M : ZM) : Prop := (∀ z, z ≠ c + 16 → M z = N z) ∧ (∀ w, w < i → M (c + 16) w = (q_nab ρ x y w : Int)) ∧ ∀ w, i ≤ w → w < q_n ρ 4 → M (c + 16) w = (q_ab (q_n ρ) w : Int)
theorem LB.wc {ρ : Nat → Int} {c x y i : Nat} {N M : ZM} (hc : isC c) (h : LB ρ c x y i N M) (hW : zWc N) : zWc M := hW.fr (fun q hq => by
  have hr : ∀ q ∈ zwC, q.1 ≠ 18 ∧ q.1 ≠ 41 := by decide +kernel
  have g := hr q hq
  rw [h.1 q.1 (by rcases hc with e | e <;> omega)])
theorem LB.upd {ρ : Nat → Int} {c x y i : Nat} {N M : ZM} (h : LB ρ c x y i N M) (hy : i = y ∨ (q_ab (q_n ρ) i).testBit y = true) : LB ρ c x y (i + 1) N (zset M (c + 16) i ((q_ab (q_n ρ) i ||| (q_ab (q_n ρ) x ||| 2 ^ x) : Nat) : Int)) := by
  refine ⟨fun z hz => (zset_ne M hz).trans (h.1 z hz), fun w hw => ?_, fun w h1 h2 => ?_⟩
  · by_cases e : w = i
    · subst e
      rw [zset_at]
      unfold q_nab
      rw [if_pos hy]
    · rw [zset_k e]
      exact h.2.1 w (by omega)
  · rw [zset_k (by omega)]
    exact h.2.2 w (by omega) h2
theorem LB.stay {ρ : Nat → Int} {c x y i : Nat} {N M : ZM} (h : LB ρ c x y i N M) (hi : i < q_n ρ 4) (hy : ¬ (i = y ∨ (q_ab (q_n ρ) i).testBit y = true)) : LB ρ c x y (i + 1) N M := by
  refine ⟨h.1, fun w hw => ?_, fun w h1 h2 => h.2.2 w (by omega) h2⟩
  by_cases e : w = i
  · subst e
    unfold q_nab
    rw [if_neg hy]
    exact h.2.2 w (by omega) hi
  · exact h.2.1 w (by omega)
theorem RW.big {t : Nat → Int} {n c p : Nat} {N M M' : ZM} (hc : isC c) (h : RW t n c p N M) (hw : zWc M') (hx : ∀ x, x < c ∨ c + 22 < x → M' x = M x) : RW t n c p N M' := by
  obtain ⟨⟨-, b1, b2, b3, b4⟩, ⟨t3, t4, t5, t6, t7⟩, hfr, hf0⟩ := h
  have hcl := hc.lt
  have e48 : M' 48 = M 48 := hx 48 (by omega)
  have e1 : M' 1 = M 1 := hx 1 (by omega)
  refine ⟨⟨hw, ?_, ?_, ?_, ?_⟩, ⟨?_, ?_, ?_, ?_, ?_⟩, ?_, ?_⟩
  · rw [e48]; exact b1
  · rw [e48]; exact b2
  · rw [e48]; exact b3
  · rw [e1]; exact b4
  · rw [e48]; exact t3
  · rw [e48]; exact t4
  · rw [e48]; exact t5
  · rw [e48]; exact t6
  · rw [e48]; exact t7
  · intro a h1 h2
    rw [hx a h2]
    exact hfr a h1 h2
  · rw [e48]; exact hf0
theorem q_or128 {x y : Nat} (hx : x < 128) (hy : y < 128) : x ||| y < 128 := Nat.or_lt_two_pow (n := 7) hx hy
theorem q_pow128 {x : Nat} (hx : x < 7) : 2 ^ x < 128 := Nat.pow_lt_pow_right (a := 2) (by decide) hx
def q_rho (ρ : Nat → Int) (x y : Nat) : Nat → Int := q_up (q_up ρ (38 + 3 * y + 2) ((q_n ρ (38 + 3 * y + 2) ||| 2 ^ x : Nat) : Int)) 5 (ρ 5 + 1)
theorem q_rho_ab {ρ : Nat → Int} (hR : wfR ρ) {x y : Nat} (hx : x < 7) (hy : y < 7) (hxy : x ≠ y) (hno : (q_ab (q_n ρ) x).testBit y = false) {w : Nat} (hw : w < 7) : q_ab (q_n (q_rho ρ x y)) w = q_nab ρ x y w := by
  have hr : ∀ k, k < 7 → q_row (q_n ρ) k < 128 := fun k hk => hR.ab k hk
  rw [ab_congr (r' := q_edge (q_n ρ) x y) (fun k hk => ?_) hw, ab_edge hr hx hy hxy hno hw]
  · rfl
  · rw [q_edge_row]
    unfold q_row q_rho
    by_cases e : k = y
    · subst e
      rw [if_pos rfl]
      show (q_up _ _ _ (38 + 3 * k + 2)).toNat = _
      rw [q_up_ne (by omega), q_up_at, Int.toNat_natCast]
    · rw [if_neg e]
      show (q_up _ _ _ (38 + 3 * k + 2)).toNat = _
      rw [q_up_ne (by omega), q_up_ne (by omega)]
      rfl
theorem RS.edge {t : Nat → Int} {n c p : Nat} {ρ : Nat → Int} {N M M9 : ZM} {x y : Nat} (hc : isC c) (hS : RS t n c p ρ N M) (hP : PI ρ) (hx : x < q_n ρ 4) (hy : y < q_n ρ 4) (hxy : x ≠ y) (hno : (q_ab (q_n ρ) x).testBit y = false) (hL : LB ρ c x y (q_n ρ 4) (zset M (c + 15) y ((q_n ρ (38 + 3 * y + 2) ||| 2 ^ x : Nat) : Int)) M9) : RS t n c p (q_rho ρ x y) N (zset M9 (c + 11) 1 (ρ 5 + 1)) := by
  have hR := hP.1
  have b := hR.2.1
  have e4 : ρ 4 = (q_n ρ 4 : Int) := hR.n (by decide)
  have hW9 : zWc M9 := hL.wc hc (hS.1.1.cty hc (by omega))
  have o : ∀ z, z ≠ c + 11 → z ≠ c + 15 → z ≠ c + 16 → zset M9 (c + 11) 1 (ρ 5 + 1) z = M z := fun z h1 h2 h3 => by rw [zset_ne _ h1, hL.1 z h3, zset_ne _ h2]
  have o11 : ∀ j, j ≠ 1 → zset M9 (c + 11) 1 (ρ 5 + 1) (c + 11) j = M (c + 11) j := fun j hj => by rw [zset_k hj, hL.1 _ (by omega), zset_ne _ (by omega)]
  have eo : ∀ i, i ≠ 5 → i ≠ 38 + 3 * y + 2 → q_rho ρ x y i = ρ i := fun i h1 h2 => by unfold q_rho; rw [q_up_ne h1, q_up_ne h2]
  have e5 : q_rho ρ x y 5 = ρ 5 + 1 := q_up_at _ _ _
  refine RS.of (hS.w.big hc (hW9.cnt hc (by decide)) (fun z hz => o z (by omega) (by omega) (by omega))) (ICr_iff.mpr ?_)
  obtain ⟨⟨a0, a1, a2, a3, a4, a5, a6, a7, a8⟩, h2, h3, h4, h6, h7⟩ := ICr_iff.mp hS.2.2.1
  refine ⟨⟨?_, ?_, ?_, ?_, ?_, ?_, ?_, ?_, ?_⟩, fun s hs => ?_, fun s hs => ?_, fun s hs => ?_, fun s hs => ?_, fun s hs => ?_⟩
  · rw [q_tld_of (eo 0 (by omega) (by omega)), o c (by omega) (by omega) (by omega)]; exact a0
  · rw [eo 0 (by omega) (by omega), o c (by omega) (by omega) (by omega)]; exact a1
  · rw [eo 1 (by omega) (by omega), o c (by omega) (by omega) (by omega)]; exact a2
  · rw [eo 2 (by omega) (by omega), o _ (by omega) (by omega) (by omega)]; exact a3
  · rw [eo 3 (by omega) (by omega), o _ (by omega) (by omega) (by omega)]; exact a4
  · rw [eo 4 (by omega) (by omega), o11 0 (by omega)]; exact a5
  · rw [zset_at, e5]
  · rw [eo 6 (by omega) (by omega), o _ (by omega) (by omega) (by omega)]; exact a7
  · rw [eo 7 (by omega) (by omega), o _ (by omega) (by omega) (by omega)]; exact a8
  · rw [eo 2 (by omega) (by omega)] at hs
    exact (h2 s hs).congr (hP.2.2.1 s (by omega)).1 (fun k k1 k2 => congrFun (o _ (by omega) (by omega) (by omega)) _) (fun i hi => eo i (by omega) (by omega))
  · rw [eo 3 (by omega) (by omega)] at hs
    exact (h3 s hs).congr (hP.2.2.1 (7 + s) (by omega)).1 (fun k k1 k2 => congrFun (o _ (by omega) (by omega) (by omega)) _) (fun i hi => eo i (by omega) (by omega))
  · rw [eo 4 (by omega) (by omega)] at hs
    obtain ⟨g1, g2, g3, g4, g5⟩ := h4 s hs
    refine ⟨?_, ?_, ?_, ?_, ?_⟩
    · rw [o _ (by omega) (by omega) (by omega), q_nmp_congr (hP.2.2.1 (10 + s) (by omega)).1 (fun i hi => eo i (by omega) (by omega))]; exact g1
    · rw [o _ (by omega) (by omega) (by omega), eo _ (by omega) (by omega)]; exact g2
    · rw [o _ (by omega) (by omega) (by omega), eo _ (by omega) (by omega)]; exact g3
    · rw [zset_ne _ (by omega), hL.1 _ (by omega)]
      by_cases e : s = y
      · subst e
        rw [zset_at]
        unfold q_rho
        rw [q_up_ne (by omega), q_up_at]
      · rw [zset_k e, eo _ (by omega) (by omega)]; exact g4
    · rw [zset_ne _ (by omega), q_rho_ab hR (by omega) (by omega) hxy hno (by omega)]
      exact hL.2.1 s (by omega)
  · rw [eo 6 (by omega) (by omega)] at hs
    exact (h6 s hs).congr (hR.2.2.2.2.2.1 s (by omega)).2.1.1 (hR.2.2.2.2.2.1 s (by omega)).2.2.1 (fun k k1 k2 => congrFun (o _ (by omega) (by omega) (by omega)) _) (fun i hi => eo i (by omega) (by omega))
  · rw [eo 7 (by omega) (by omega)] at hs
    exact (h7 s hs).congr (hR.2.2.2.2.2.2 s (by omega)).2.1.1 (hR.2.2.2.2.2.2 s (by omega)).2.2.1 (fun k k1 k2 => congrFun (o _ (by omega) (by omega) (by omega)) _) (fun i hi => eo i (by omega) (by omega))
theorem q_mn_sm (w : Nat) : q_mn (some w) = (w : Int) := rfl
theorem l_putB {l : Launch} {X : ZX} {M : ZM} {c : Nat} (hc : isC c) (hW : zWc M) {ρ : Nat → Int} (hR : wfR ρ) (hn : M (c + 11) 0 = (q_n ρ 4 : Int)) (hn7 : q_n ρ 4 ≤ 7) (h5 : M (c + 11) 1 = ρ 5) {x y : Nat} (hx : x < 7) (hy7 : y < 7) : ∀ (j i : Nat), i + j = q_n ρ 4 → ∀ (M9 : ZM), LB ρ c x y i M M9 → zP l X 1 tX10_putBefore 28 [some (zr ((c + 11 : Nat) : Int)), some (zi (x : Int)), some (zi (y : Int)), some (zi ((q_ab (q_n ρ) x ||| 2 ^ x : Nat) : Int)), some (zi (i : Int))] [] M9 (fun r M' => r = none ∧ ∃ M9, LB ρ c x y (q_n ρ 4) M M9 ∧ M' = zset M9 (c + 11) 1 (ρ 5 + 1)) := by
  have hcl := hc.lt
  have hah : q_ab (q_n ρ) x ||| 2 ^ x < 128 := q_or128 (q_ab128 hR hx) (q_pow128 hx)
  intro j
  induction j with
  | zero =>
    intro i hi M9 hL
    have hW9 := hL.wc hc hW
    refine p_iload 30 dX10_putBefore_28 rfl ?_
    refine p_aload_n 31 dX10_putBefore_30 rfl rfl (by omega) ?_
    refine p_getI (c + 11) 34 dX10_putBefore_31 fX10_28 (tt_11 hc) ?_
    rw [hL.1 (c + 11) (by omega), hn]
    refine p_icmp_ge 75 37 dX10_putBefore_34 (by omega) (by omega) (by omega) (by omega) (fun h34 => ?_) (fun h34 => absurd (by omega) (fun h9 : False => h9))
    refine p_aload_n 76 dX10_putBefore_75 rfl rfl (by omega) ?_
    refine p_dupR 77 dX10_putBefore_76 ?_
    refine p_getI (c + 11) 80 dX10_putBefore_77 fX10_36 (tt_11 hc) ?_
    rw [hL.1 (c + 11) (by omega), h5]
    refine p_iconst 81 dX10_putBefore_80 ?_
    refine p_iadd 82 dX10_putBefore_81 ?_
    refine p_putI (c + 11) 85 dX10_putBefore_82 wX10_36 (tt_11 hc) ?_
    refine p_vret dX10_putBefore_85 rfl ?_
    rw [show i = q_n ρ 4 by omega] at hL
    exact ⟨rfl, M9, hL, rfl⟩
  | succ j ih =>
    intro i hi M9 hL
    have hW9 := hL.wc hc hW
    have hb1 := q_ab128 hR (w := i) (by omega)
    refine p_iload 30 dX10_putBefore_28 rfl ?_
    refine p_aload_n 31 dX10_putBefore_30 rfl rfl (by omega) ?_
    refine p_getI (c + 11) 34 dX10_putBefore_31 fX10_28 (tt_11 hc) ?_
    rw [hL.1 (c + 11) (by omega), hn]
    refine p_icmp_ge 75 37 dX10_putBefore_34 (by omega) (by omega) (by omega) (by omega) (fun h34 => absurd (by omega) (fun h9 : False => h9)) (fun h34 => ?_)
    refine p_iload 39 dX10_putBefore_37 rfl ?_
    refine p_iload_n 40 dX10_putBefore_39 rfl rfl ?_
    refine p_icmp_eq 58 43 dX10_putBefore_40 (by omega) (by omega) (by omega) (by omega) (fun h40 => ?_) (fun h40 => ?_)
    · have hy : i = y ∨ (q_ab (q_n ρ) i).testBit y = true := Or.inl (by omega)
      refine p_aload_n 59 dX10_putBefore_58 rfl rfl (by omega) ?_
      refine p_getR (c + 11) 62 dX10_putBefore_59 fX10_25 (tt_11 hc) (wi_11_6 hc hW9) ?_
      refine p_iload 64 dX10_putBefore_62 rfl ?_
      refine p_dup2 65 dX10_putBefore_64 ?_
      refine p_ialdn (c + 16) 66 (i) dX10_putBefore_65 (tt_16 hc) (by omega) (by omega) ?_
      rw [hL.2.2 i (by omega) (by omega)]
      refine p_iload_n 67 dX10_putBefore_66 rfl rfl ?_
      refine p_ior 68 dX10_putBefore_67 ?_
      rw [z_ior_n _ _ (by omega) (by omega)]
      refine p_iastn (c + 16) 69 (i) dX10_putBefore_68 (tt_16 hc) (by omega) (by omega) ?_
      refine p_iinc 72 dX10_putBefore_69 rfl rfl rfl ?_
      dsimp only [List.set]
      refine p_goto 28 dX10_putBefore_72 ?_
      first
        | exact ih (i + 1) (by omega) _ (hL.upd hy)
        | exact ih (i + 1) (by omega) _ (hL.stay (by omega) hy)
    · refine p_aload_n 44 dX10_putBefore_43 rfl rfl (by omega) ?_
      refine p_getR (c + 11) 47 dX10_putBefore_44 fX10_25 (tt_11 hc) (wi_11_6 hc hW9) ?_
      refine p_iload 49 dX10_putBefore_47 rfl ?_
      refine p_ialdn (c + 16) 50 (i) dX10_putBefore_49 (tt_16 hc) (by omega) (by omega) ?_
      rw [hL.2.2 i (by omega) (by omega)]
      refine p_iload_n 51 dX10_putBefore_50 rfl rfl ?_
      refine p_callN1i 54 dX10_putBefore_51 (s_bit (i := y) (by omega)) ln_X10_32 mX11_bit (by decide) (Nat.le_of_ble_eq_true rfl) ?_
      rintro _ _ ⟨rfl, e9⟩
      have e9 := e9.symm
      subst e9
      refine p_iand 55 dX10_putBefore_54 ?_
      have zb := z_bit0 (a := q_ab (q_n ρ) i) (i := y) (by omega) (by omega)
      refine p_if_eq 69 58 dX10_putBefore_55 (by omega) (by omega) (fun h55 => ?_) (fun h55 => ?_)
      · have hy : ¬ (i = y ∨ (q_ab (q_n ρ) i).testBit y = true) := fun g => g.elim (fun g => by omega) (fun g => by rw [zb.1.mp h55] at g; cases g)
        refine p_iinc 72 dX10_putBefore_69 rfl rfl rfl ?_
        dsimp only [List.set]
        refine p_goto 28 dX10_putBefore_72 ?_
        first
          | exact ih (i + 1) (by omega) _ (hL.upd hy)
          | exact ih (i + 1) (by omega) _ (hL.stay (by omega) hy)
      · have hy : i = y ∨ (q_ab (q_n ρ) i).testBit y = true := Or.inr (by cases hb : (q_ab (q_n ρ) i).testBit y with | true => rfl | false => exact absurd (zb.1.mpr hb) h55)
        refine p_aload_n 59 dX10_putBefore_58 rfl rfl (by omega) ?_
        refine p_getR (c + 11) 62 dX10_putBefore_59 fX10_25 (tt_11 hc) (wi_11_6 hc hW9) ?_
        refine p_iload 64 dX10_putBefore_62 rfl ?_
        refine p_dup2 65 dX10_putBefore_64 ?_
        refine p_ialdn (c + 16) 66 (i) dX10_putBefore_65 (tt_16 hc) (by omega) (by omega) ?_
        rw [hL.2.2 i (by omega) (by omega)]
        refine p_iload_n 67 dX10_putBefore_66 rfl rfl ?_
        refine p_ior 68 dX10_putBefore_67 ?_
        rw [z_ior_n _ _ (by omega) (by omega)]
        refine p_iastn (c + 16) 69 (i) dX10_putBefore_68 (tt_16 hc) (by omega) (by omega) ?_
        refine p_iinc 72 dX10_putBefore_69 rfl rfl rfl ?_
        dsimp only [List.set]
        refine p_goto 28 dX10_putBefore_72 ?_
        first
          | exact ih (i + 1) (by omega) _ (hL.upd hy)
          | exact ih (i + 1) (by omega) _ (hL.stay (by omega) hy)
theorem s_putBefore {l : Launch} {X : ZX} {M : ZM} {t : Nat → Int} {n c p : Nat} {ρ : Nat → Int} {N : ZM} (hc : isC c) (hS : RS t n c p ρ N M) (hP : PI ρ) {x y : Nat} (hx : x < q_n ρ 4) (hy : y < q_n ρ 4) (hxy : x ≠ y) (hno : (q_ab (q_n ρ) x).testBit y = false) : zCv l X 1 yX10_putBefore tX10_putBefore [zr ((c + 11 : Nat) : Int), zi (x : Int), zi (y : Int)] M (fun M' => RS t n c p (q_rho ρ x y) N M') := by
  have hR := hP.1
  have e4 : ρ 4 = (q_n ρ 4 : Int) := hR.n (by decide)
  have b4 := hR.2.1.2.2.2.2.1
  have hcl := hc.lt
  have hab := q_ab128 hR (w := x) (by omega)
  have htd : q_n ρ (38 + 3 * y + 2) < 128 := hR.ab y (by omega)
  have hpx := q_pow128 (x := x) (by omega)
  refine zC.of [some (zr ((c + 11 : Nat) : Int)), some (zi (x : Int)), some (zi (y : Int)), none, none] (by decide +kernel) rfl rfl (Nat.le_of_ble_eq_true rfl) rfl ?_
  refine p_aload_n 1 dX10_putBefore_0 rfl rfl (by omega) ?_
  refine p_getR (c + 11) 4 dX10_putBefore_1 fX10_22 (tt_11 hc) (wi_11_5 hc hS.1.1) ?_
  refine p_iload_n 5 dX10_putBefore_4 rfl rfl ?_
  refine p_dup2 6 dX10_putBefore_5 ?_
  refine p_ialdn (c + 15) 7 (y) dX10_putBefore_6 (tt_15 hc) (by omega) (by omega) ?_
  rw [(hS.2.2.1.2.2.2 y (by omega)).2, hR.n (i := 38 + 3 * y + 2) (by omega)]
  refine p_iload_n 8 dX10_putBefore_7 rfl rfl ?_
  refine p_callN1i 11 dX10_putBefore_8 (s_bit (i := x) (by omega)) ln_X10_32 mX11_bit (by decide) (Nat.le_of_ble_eq_true rfl) ?_
  rintro _ _ ⟨rfl, e9⟩
  have e9 := e9.symm
  subst e9
  refine p_ior 12 dX10_putBefore_11 ?_
  rw [z_ior_n _ _ (by omega) (by omega)]
  refine p_iastn (c + 15) 13 (y) dX10_putBefore_12 (tt_15 hc) (by omega) (by omega) ?_
  have hW1 : zWc (zset M (c + 15) y ((q_n ρ (38 + 3 * y + 2) ||| 2 ^ x : Nat) : Int)) := hS.1.1.cty hc (by omega)
  refine p_aload_n 14 dX10_putBefore_13 rfl rfl (by omega) ?_
  refine p_getR (c + 11) 17 dX10_putBefore_14 fX10_25 (tt_11 hc) (wi_11_6 hc hW1) ?_
  refine p_iload_n 18 dX10_putBefore_17 rfl rfl ?_
  refine p_ialdn (c + 16) 19 (x) dX10_putBefore_18 (tt_16 hc) (by omega) (by omega) ?_
  rw [zset_ne _ (by omega), (hS.2.2.1.1.2.2.2.1 x (by omega)).2.2]
  refine p_iload_n 20 dX10_putBefore_19 rfl rfl ?_
  refine p_callN1i 23 dX10_putBefore_20 (s_bit (i := x) (by omega)) ln_X10_32 mX11_bit (by decide) (Nat.le_of_ble_eq_true rfl) ?_
  rintro _ _ ⟨rfl, e9⟩
  have e9 := e9.symm
  subst e9
  refine p_ior 24 dX10_putBefore_23 ?_
  rw [z_ior_n _ _ (by omega) (by omega)]
  refine p_istore_n 25 dX10_putBefore_24 rfl (Nat.le_of_ble_eq_true rfl) rfl rfl ?_
  dsimp only [List.set]
  refine p_iconst 26 dX10_putBefore_25 ?_
  refine p_istore 28 dX10_putBefore_26 (Nat.le_of_ble_eq_true rfl) rfl rfl ?_
  dsimp only [List.set]
  refine (l_putB (M := zset M (c + 15) y ((q_n ρ (38 + 3 * y + 2) ||| 2 ^ x : Nat) : Int)) hc hW1 hR (by rw [zset_ne _ (by omega)]; exact (hS.2.2.1.1.1.2.2.2.2.2.1).trans e4) (by omega) (by rw [zset_ne _ (by omega)]; exact hS.2.2.1.1.1.2.2.2.2.2.2.1) (by omega) (by omega) (q_n ρ 4) 0 (Nat.zero_add _) _ ⟨fun _ _ => rfl, fun w hw => absurd hw (by omega), fun w _ hw => ?_⟩).mono (fun r M8 h8 => ?_)
  · rw [zset_ne _ (by omega)]
    exact (hS.2.2.1.1.2.2.2.1 w (by omega)).2.2
  · obtain ⟨e8, M9, hL, rfl⟩ := h8
    exact ⟨e8, hS.edge hc hP hx hy hxy hno hL⟩
theorem s_takeBefore {l : Launch} {X : ZX} {M : ZM} {t : Nat → Int} {n c : Nat} (hn : n ≤ 900) (ht : ∀ i, i < n → 0 ≤ t i ∧ t i < 256) (hc : isC c) {p : Nat} (hp : p ≤ n) {ρ : Nat → Int} {N : ZM} (hS : RS t n c p ρ N M) (hP : PI ρ) : zCi l X 7 yX6_takeBefore tX6_takeBefore [zr 48] M (fun a M' => PL t n c N (q_lbefore t n p ρ) a M') := by
  have hR := hP.1
  have e2 : ρ 2 = (q_n ρ 2 : Int) := hR.n (by decide)
  have e3 : ρ 3 = (q_n ρ 3 : Int) := hR.n (by decide)
  have e4 : ρ 4 = (q_n ρ 4 : Int) := hR.n (by decide)
  have e5 : ρ 5 = (q_n ρ 5 : Int) := hR.n (by decide)
  have e6 : ρ 6 = (q_n ρ 6 : Int) := hR.n (by decide)
  have e7 : ρ 7 = (q_n ρ 7 : Int) := hR.n (by decide)
  have hcl := hc.lt
  have b4 := hR.2.1.2.2.2.2.1
  have hp1 := q_en_n t hp
  have hp2 := q_en_n t hp1
  refine zC.of [some (zr 48), none, none, none] (by decide +kernel) rfl rfl (Nat.le_of_ble_eq_true rfl) rfl ?_
  refine p_aload_n 1 dX6_takeBefore_0 rfl rfl (by decide) ?_
  refine p_getR 48 4 dX6_takeBefore_1 fX6_19 rfl hS.1.2.2.2.1 ?_
  refine p_getR (c) 7 dX6_takeBefore_4 fX6_134 (tt_c hc) (wi_0_5 hc hS.1.1) ?_
  refine p_astore_n 8 dX6_takeBefore_7 rfl (Nat.le_of_ble_eq_true rfl) rfl (by omega) rfl ?_
  dsimp only [List.set]
  refine p_aload_n 9 dX6_takeBefore_8 rfl rfl (by decide) ?_
  refine p_callV0i 48 12 dX6_takeBefore_9 (s_isToldWord hn ht hc hp hS hP) lk_X6_250 mX6_isToldWord rfl rfl (by decide) (Nat.le_of_ble_eq_true rfl) ?_
  intro a1 M1 hd1
  have ha1 : 0 ≤ a1 ∧ a1 ≤ 1 := by
    rcases hd1 with ⟨_, -, -, -, -, h, -⟩ | ⟨_, -, h, -⟩ <;> omega
  refine p_if_ne 17 15 dX6_takeBefore_12 (by omega) (by omega) (fun h12 => ?_) (fun h12 => ?_)
  · obtain ⟨wa, hwa, hkwa, htwa, hfwa, -, e9⟩ := hd1.resolve_right (fun g => by obtain ⟨_, _, g, _⟩ := g; exact h12 g)
    have e9 := e9.symm
    subst e9
    have hwbwa := q_wd_bd hp hkwa
    refine p_aload_n 18 dX6_takeBefore_17 rfl rfl (by omega) ?_
    refine p_aload_n 19 dX6_takeBefore_18 rfl rfl (by decide) ?_
    refine p_getJ 48 22 dX6_takeBefore_19 fX6_76 rfl ?_
    rw [hS.2.1.2.2.2.1 hkwa]
    refine p_callV1i (c + 11) 25 dX6_takeBefore_22 (s_findG hc hS.1.1 (n := q_n ρ 4) (g := fun w => q_nmp ρ (10 + w)) (hS.2.2.1.1.1.2.2.2.2.2.1.trans e4) (by omega) (fun k hk => (hS.2.2.1.2.2.2 k (by omega)).1) (fun k hk => hP.nm (by omega)) (sh := q_wd t n p) (by omega)) lk_X6_246 mX10_find (tt_11 hc) rfl (by decide) (Nat.le_of_ble_eq_true rfl) ?_
    rintro _ _ ⟨rfl, e9⟩
    have e9 := e9.symm
    subst e9
    rw [hfwa, q_mn_sm]
    refine p_istore_n 26 dX6_takeBefore_25 rfl (Nat.le_of_ble_eq_true rfl) rfl rfl ?_
    dsimp only [List.set]
    refine p_aload_n 27 dX6_takeBefore_26 rfl rfl (by decide) ?_
    refine p_callV0v 48 30 dX6_takeBefore_27 (s_advance hn ht hS.1 (p := (q_en t n p)) hp1 hS.2.1.1) lk_X6_37 mX6_advance rfl rfl (by decide) (Nat.le_of_ble_eq_true rfl) ?_
    intro M9 h9
    obtain ⟨kk, hT9⟩ := h9
    have hS := hS.adv hc kk hT9
    refine p_aload_n 31 dX6_takeBefore_30 rfl rfl (by decide) ?_
    refine p_callV0i 48 34 dX6_takeBefore_31 (s_isToldWord hn ht hc hp1 hS hP) lk_X6_250 mX6_isToldWord rfl rfl (by decide) (Nat.le_of_ble_eq_true rfl) ?_
    intro a1 M1 hd1
    have ha1 : 0 ≤ a1 ∧ a1 ≤ 1 := by
      rcases hd1 with ⟨_, -, -, -, -, h, -⟩ | ⟨_, -, h, -⟩ <;> omega
    refine p_if_ne 39 37 dX6_takeBefore_34 (by omega) (by omega) (fun h34 => ?_) (fun h34 => ?_)
    · obtain ⟨wb, hwb, hkwb, htwb, hfwb, -, e9⟩ := hd1.resolve_right (fun g => by obtain ⟨_, _, g, _⟩ := g; exact h34 g)
      have e9 := e9.symm
      subst e9
      have hwbwb := q_wd_bd hp1 hkwb
      refine p_aload_n 40 dX6_takeBefore_39 rfl rfl (by omega) ?_
      refine p_aload_n 41 dX6_takeBefore_40 rfl rfl (by decide) ?_
      refine p_getJ 48 44 dX6_takeBefore_41 fX6_76 rfl ?_
      rw [hS.2.1.2.2.2.1 hkwb]
      refine p_callV1i (c + 11) 47 dX6_takeBefore_44 (s_findG hc hS.1.1 (n := q_n ρ 4) (g := fun w => q_nmp ρ (10 + w)) (hS.2.2.1.1.1.2.2.2.2.2.1.trans e4) (by omega) (fun k hk => (hS.2.2.1.2.2.2 k (by omega)).1) (fun k hk => hP.nm (by omega)) (sh := q_wd t n (q_en t n p)) (by omega)) lk_X6_246 mX10_find (tt_11 hc) rfl (by decide) (Nat.le_of_ble_eq_true rfl) ?_
      rintro _ _ ⟨rfl, e9⟩
      have e9 := e9.symm
      subst e9
      rw [hfwb, q_mn_sm]
      refine p_istore_n 48 dX6_takeBefore_47 rfl (Nat.le_of_ble_eq_true rfl) rfl rfl ?_
      dsimp only [List.set]
      refine p_iload_n 49 dX6_takeBefore_48 rfl rfl ?_
      refine p_iload_n 50 dX6_takeBefore_49 rfl rfl ?_
      refine p_icmp_eq 67 53 dX6_takeBefore_50 (by omega) (by omega) (by omega) (by omega) (fun h50 => ?_) (fun h50 => ?_)
      · have hz : q_lbefore t n p ρ = .inl (3, (q_at t n (q_en t n p) : Int)) := by
          unfold q_lbefore
          rw [q_bindW_r htwa, q_bindW_r htwb, if_pos (Or.inl (by omega))]
        refine p_aload_n 68 dX6_takeBefore_67 rfl rfl (by decide) ?_
        refine p_iconst 69 dX6_takeBefore_68 ?_
        refine p_callV1i 48 72 dX6_takeBefore_69 (s_failR hn ht hc hp1 hS.w) lk_X6_47 mX6_fail rfl rfl (by decide) (Nat.le_of_ble_eq_true rfl) ?_
        rintro _ M9 ⟨rfl, hF⟩
        refine p_zret dX6_takeBefore_72 rfl (by decide) ?_
        exact ⟨_, rfl, PL.l hz hF⟩
      · refine p_aload_n 54 dX6_takeBefore_53 rfl rfl (by omega) ?_
        refine p_getR (c + 11) 57 dX6_takeBefore_54 fX6_241 (tt_11 hc) (wi_11_5 hc hS.1.1) ?_
        refine p_iload_n 58 dX6_takeBefore_57 rfl rfl ?_
        refine p_ialdn (c + 15) 59 (wb) dX6_takeBefore_58 (tt_15 hc) (by omega) (by omega) ?_
        rw [(hS.2.2.1.2.2.2 wb (by omega)).2, hR.n (i := 38 + 3 * wb + 2) (by omega)]
        have htd : q_n ρ (38 + 3 * wb + 2) < 128 := hR.ab wb (by omega)
        refine p_iload_n 60 dX6_takeBefore_59 rfl rfl ?_
        refine p_callN1i 63 dX6_takeBefore_60 (s_bit (i := wa) (by omega)) ln_X6_253 mX11_bit (by decide) (Nat.le_of_ble_eq_true rfl) ?_
        rintro _ _ ⟨rfl, e9⟩
        have e9 := e9.symm
        subst e9
        refine p_iand 64 dX6_takeBefore_63 ?_
        have zb := z_bit0 (a := q_n ρ (38 + 3 * wb + 2)) (i := wa) (by omega) (by omega)
        refine p_if_eq 73 67 dX6_takeBefore_64 (by omega) (by omega) (fun h64 => ?_) (fun h64 => ?_)
        · have hnt : ¬ (wa = wb ∨ (q_n ρ (38 + 3 * wb + 2)).testBit wa = true) := fun g => g.elim (fun g => by omega) (fun g => by rw [zb.1.mp h64] at g; cases g)
          refine p_aload_n 74 dX6_takeBefore_73 rfl rfl (by omega) ?_
          refine p_getR (c + 11) 77 dX6_takeBefore_74 fX6_244 (tt_11 hc) (wi_11_6 hc hS.1.1) ?_
          refine p_iload_n 78 dX6_takeBefore_77 rfl rfl ?_
          refine p_ialdn (c + 16) 79 (wa) dX6_takeBefore_78 (tt_16 hc) (by omega) (by omega) ?_
          rw [(hS.2.2.1.1.2.2.2.1 wa (by omega)).2.2]
          have hab := q_ab128 hR (w := wa) (by omega)
          refine p_iload_n 80 dX6_takeBefore_79 rfl rfl ?_
          refine p_callN1i 83 dX6_takeBefore_80 (s_bit (i := wb) (by omega)) ln_X6_253 mX11_bit (by decide) (Nat.le_of_ble_eq_true rfl) ?_
          rintro _ _ ⟨rfl, e9⟩
          have e9 := e9.symm
          subst e9
          refine p_iand 84 dX6_takeBefore_83 ?_
          have zc := z_bit0 (a := q_ab (q_n ρ) wa) (i := wb) (by omega) (by omega)
          refine p_if_eq 94 87 dX6_takeBefore_84 (by omega) (by omega) (fun h84 => ?_) (fun h84 => ?_)
          · have hno := zc.1.mp h84
            refine p_aload_n 95 dX6_takeBefore_94 rfl rfl (by omega) ?_
            refine p_iload_n 96 dX6_takeBefore_95 rfl rfl ?_
            refine p_iload_n 97 dX6_takeBefore_96 rfl rfl ?_
            refine p_callV2v (c + 11) 100 dX6_takeBefore_97 (s_putBefore hc hS hP hwa hwb (by omega) hno) lk_X6_257 mX10_putBefore (tt_11 hc) rfl (by decide) (Nat.le_of_ble_eq_true rfl) ?_
            intro M9 hS9
            have hS := hS9
            refine p_aload_n 101 dX6_takeBefore_100 rfl rfl (by decide) ?_
            refine p_callV0v 48 104 dX6_takeBefore_101 (s_advance hn ht hS.1 (p := (q_en t n (q_en t n p))) hp2 hS.2.1.1) lk_X6_37 mX6_advance rfl rfl (by decide) (Nat.le_of_ble_eq_true rfl) ?_
            intro M9 h9
            obtain ⟨kk, hT9⟩ := h9
            have hS := hS.adv hc kk hT9
            refine p_iconst 105 dX6_takeBefore_104 ?_
            refine p_zret dX6_takeBefore_105 rfl (by decide) ?_
            have hz : q_lbefore t n p ρ = .inr (q_en t n (q_en t n p), q_rho ρ wa wb) := by
              unfold q_lbefore
              rw [q_bindW_r htwa, q_bindW_r htwb, if_neg hnt, if_neg (by rw [hno]; decide)]
              rfl
            exact ⟨_, rfl, PL.r hz hS⟩
          · have hz : q_lbefore t n p ρ = .inl (7, (q_at t n (q_en t n p) : Int)) := by
              unfold q_lbefore
              rw [q_bindW_r htwa, q_bindW_r htwb, if_neg hnt, if_pos (by cases hb : (q_ab (q_n ρ) wa).testBit wb with | true => rfl | false => exact absurd (zc.1.mpr hb) h84)]
            refine p_aload_n 88 dX6_takeBefore_87 rfl rfl (by decide) ?_
            refine p_bipush 90 dX6_takeBefore_88 rfl ?_
            refine p_callV1i 48 93 dX6_takeBefore_90 (s_failR hn ht hc hp1 hS.w) lk_X6_47 mX6_fail rfl rfl (by decide) (Nat.le_of_ble_eq_true rfl) ?_
            rintro _ M9 ⟨rfl, hF⟩
            refine p_zret dX6_takeBefore_93 rfl (by decide) ?_
            exact ⟨_, rfl, PL.l hz hF⟩
        · have hz : q_lbefore t n p ρ = .inl (3, (q_at t n (q_en t n p) : Int)) := by
            unfold q_lbefore
            rw [q_bindW_r htwa, q_bindW_r htwb, if_pos (Or.inr (by cases hb : (q_n ρ (38 + 3 * wb + 2)).testBit wa with | true => rfl | false => exact absurd (zb.1.mpr hb) h64))]
          refine p_aload_n 68 dX6_takeBefore_67 rfl rfl (by decide) ?_
          refine p_iconst 69 dX6_takeBefore_68 ?_
          refine p_callV1i 48 72 dX6_takeBefore_69 (s_failR hn ht hc hp1 hS.w) lk_X6_47 mX6_fail rfl rfl (by decide) (Nat.le_of_ble_eq_true rfl) ?_
          rintro _ M9 ⟨rfl, hF⟩
          refine p_zret dX6_takeBefore_72 rfl (by decide) ?_
          exact ⟨_, rfl, PL.l hz hF⟩
    · obtain ⟨e, hq, -, hF⟩ := hd1.resolve_left (fun g => by obtain ⟨_, _, _, _, _, g, _⟩ := g; omega)
      have hz : q_lbefore t n p ρ = .inl e := by
        unfold q_lbefore
        rw [q_bindW_r htwa, q_bindW_l hq]
      refine p_iconst 38 dX6_takeBefore_37 ?_
      refine p_zret dX6_takeBefore_38 rfl (by decide) ?_
      exact ⟨_, rfl, PL.l hz hF⟩
  · obtain ⟨e, hq, -, hF⟩ := hd1.resolve_left (fun g => by obtain ⟨_, _, _, _, _, g, _⟩ := g; omega)
    have hz : q_lbefore t n p ρ = .inl e := by
      unfold q_lbefore
      rw [q_bindW_l hq]
    refine p_iconst 16 dX6_takeBefore_15 ?_
    refine p_zret dX6_takeBefore_16 rfl (by decide) ?_
    exact ⟨_, rfl, PL.l hz hF⟩
