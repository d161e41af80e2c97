/-! ORDERS, the class's -/
theorem q_pk_bd {g : Nat → Int} : ∀ n, (∀ j, j < n → 97 ≤ g j ∧ g j ≤ 122) → 0 ≤ q_pk g n ∧ q_pk g n < ((32 ^ n : Nat) : Int) := by
  intro n
  induction n with
  | zero => intro _; exact ⟨Int.le_refl 0, by show (0 : Int) < ((1 : Nat) : Int); decide⟩
  | succ n ih =>
    intro h
    have h1 := ih (fun j hj => h j (by omega))
    have h2 := h n (by omega)
    have e : q_pk g (n + 1) = 32 * q_pk g n + (g n - 96) := rfl
    have e2 : 32 ^ (n + 1) = 32 ^ n * 32 := Nat.pow_succ ..
    rw [e, e2]
    omega
theorem q_sign_bd {ρ : Nat → Int} {f : Nat} (h0 : 0 ≤ ρ f) (h : q_wordOk ρ f) : 0 ≤ q_sign ρ f ∧ q_sign ρ f < 1099511627776 := by
  obtain ⟨h1, h2⟩ := h
  have hb := q_pk_bd (g := fun j => ρ (f + 1 + j)) (ρ f).toNat (fun j hj => h2 j (by omega))
  have hp : 32 ^ (ρ f).toNat ≤ 32 ^ 8 := Nat.pow_le_pow_right (by decide) (by omega)
  have e8 : (32 : Nat) ^ 8 = 1099511627776 := by decide
  unfold q_sign
  omega
theorem q_sg_bd {ρ : Nat → Int} (hR : wfR ρ) {k : Nat} (hk : k < 6) : 0 ≤ q_sg ρ k ∧ q_sg ρ k < 1099511627776 := q_sign_bd (hR.1 _ (by omega)) (hR.2.2.2.2.2.1 k hk).2.1
theorem q_dd_bd {ρ : Nat → Int} (hR : wfR ρ) {k : Nat} (hk : k < 6) : 0 ≤ q_dd ρ k ∧ q_dd ρ k < 1099511627776 := q_sign_bd (hR.1 _ (by omega)) (hR.2.2.2.2.2.1 k hk).2.2
theorem q_ss_bd {ρ : Nat → Int} (hR : wfR ρ) {k : Nat} (hk : k < 5) : 0 ≤ q_ss ρ k ∧ q_ss ρ k < 1099511627776 := q_sign_bd (hR.1 _ (by omega)) (hR.2.2.2.2.2.2 k hk).2.1
theorem q_sd_bd {ρ : Nat → Int} (hR : wfR ρ) {k : Nat} (hk : k < 5) : 0 ≤ q_sd ρ k ∧ q_sd ρ k < 1099511627776 := by
  unfold q_sd
  split
  · exact ⟨by decide, by decide⟩
  · exact q_sign_bd (hR.1 _ (by omega)) (hR.2.2.2.2.2.2 k hk).2.2
theorem z_lc {a b : Int} (ha : 0 ≤ a ∧ a < 1099511627776) (hb : 0 ≤ b ∧ b < 1099511627776) : (z_lcmp a b = 0 ↔ a = b) ∧ -1 ≤ z_lcmp a b ∧ z_lcmp a b ≤ 1 := by
  unfold z_lcmp
  rw [w64_id (n := a) (by omega) (by omega), w64_id (n := b) (by omega) (by omega)]
  (repeat' split) <;> omega
theorem q_deed_bd {ρ : Nat → Int} (hR : wfR ρ) (sh : Int) (S : Nat) : ∀ n, n ≤ 6 → (q_deed (q_sg ρ) (q_dd ρ) (q_rk ρ) sh S n).1 ≤ 9 ∧ 0 ≤ (q_deed (q_sg ρ) (q_dd ρ) (q_rk ρ) sh S n).2 ∧ (q_deed (q_sg ρ) (q_dd ρ) (q_rk ρ) sh S n).2 < 1099511627776 := by
  intro n
  induction n with
  | zero => intro _; exact ⟨Nat.zero_le _, Int.le_refl 0, by show (0 : Int) < 1099511627776; decide⟩
  | succ n ih =>
    intro hn
    have e : q_deed (q_sg ρ) (q_dd ρ) (q_rk ρ) sh S (n + 1) = if S.testBit n = true ∧ q_sg ρ n = sh ∧ (q_deed (q_sg ρ) (q_dd ρ) (q_rk ρ) sh S n).1 < q_rk ρ n then (q_rk ρ n, q_dd ρ n) else q_deed (q_sg ρ) (q_dd ρ) (q_rk ρ) sh S n := rfl
    rw [e]
    split
    · have h1 := (hR.2.2.2.2.2.1 n (by omega)).1
      have h2 := q_dd_bd hR (k := n) (by omega)
      refine ⟨?_, h2.1, h2.2⟩
      show (ρ (59 + 19 * n)).toNat ≤ 9
      omega
    · exact ih (by omega)
theorem q_done_bd {ρ : Nat → Int} (hR : wfR ρ) (sh : Int) (S : Nat) : 0 ≤ q_done ρ sh S ∧ q_done ρ sh S < 1099511627776 := by
  have e6 : ρ 6 = (q_n ρ 6 : Int) := hR.n (by decide)
  have b6 := hR.2.1.2.2.2.2.2.2.1
  have h := q_deed_bd hR sh S (q_n ρ 6) (by omega)
  exact h.2
theorem isC.tt3 {c : Nat} (h : isC c) : zTT[c + 17]? = some (.inl 4) ∧ zTT[c + 18]? = some (.inr (2, 6)) ∧ zTT[c + 19]? = some (.inr (2, 6)) ∧ zTT[c + 20]? = some (.inr (0, 6)) ∧ zTT[c + 21]? = some (.inr (2, 5)) ∧ zTT[c + 22]? = some (.inr (2, 5)) := by
  rcases h with rfl | rfl <;> exact ⟨rfl, rfl, rfl, rfl, rfl, rfl⟩
theorem isC.wire3 {c : Nat} (h : isC c) {M : ZM} (hW : zWc M) : M (c + 17) 1 = ((c + 18 : Nat) : Int) ∧ M (c + 17) 2 = ((c + 19 : Nat) : Int) ∧ M (c + 17) 3 = ((c + 20 : Nat) : Int) ∧ M (c + 17) 5 = ((c + 21 : Nat) : Int) ∧ M (c + 17) 6 = ((c + 22 : Nat) : Int) := by
  rcases h with rfl | rfl
  · exact ⟨hW (19, 1, 20) (by decide +kernel), hW (19, 2, 21) (by decide +kernel), hW (19, 3, 22) (by decide +kernel), hW (19, 5, 23) (by decide +kernel), hW (19, 6, 24) (by decide +kernel)⟩
  · exact ⟨hW (42, 1, 43) (by decide +kernel), hW (42, 2, 44) (by decide +kernel), hW (42, 3, 45) (by decide +kernel), hW (42, 5, 46) (by decide +kernel), hW (42, 6, 47) (by decide +kernel)⟩
theorem q_all_succ (p : Nat → Bool) (n : Nat) : q_all p (n + 1) = (q_all p n && p n) := rfl
theorem q_all_iff {p : Nat → Bool} {n : Nat} : q_all p n = true ↔ ∀ i, i < n → p i = true := by
  induction n with
  | zero => exact ⟨fun _ i hi => absurd hi (by omega), fun _ => rfl⟩
  | succ n ih =>
    rw [q_all_succ, Bool.and_eq_true, ih]
    refine ⟨fun h i hi => ?_, fun h => ⟨fun i hi => h i (by omega), h n (by omega)⟩⟩
    by_cases e : i = n
    · subst e; exact h.2
    · exact h.1 i (by omega)
def q_unl (ρ : Nat → Int) (S : Nat) : Option Nat := q_first (fun n => !(decide (q_done ρ (q_ss ρ n) S = q_sd ρ n))) (q_n ρ 7)
theorem q_unl_fit (ρ : Nat → Int) (S : Nat) : q_fv (q_unl ρ S) = -2 ↔ q_fit ρ S = true := by
  rw [q_fv_ne]
  unfold q_fit
  rw [q_all_iff]
  constructor
  · intro h i hi
    have := q_first_none h i hi
    simpa using this
  · intro h
    cases hq : q_unl ρ S with
    | none => rfl
    | some w =>
      obtain ⟨w1, w2, -⟩ := q_first_some hq
      have := h w w1
      simp at w2 this
      exact absurd this w2
theorem l_deedBy {l : Launch} {X : ZX} {M : ZM} {c : Nat} (hc : isC c) {ρ : Nat → Int} {h : Int} (hW : zWc M) (hC : ICc ρ h c M) (hR : wfR ρ) {sh : Int} (hsh : 0 ≤ sh ∧ sh < 1099511627776) {S : Nat} (hS : S < 2147483648) : ∀ (j i : Nat), i + j = q_n ρ 6 → zP l X 1 tX4_deedBy 9 [some (zr ((c + 17 : Nat) : Int)), some (zl sh), none, some (zi (S : Int)), some (zl (q_deed (q_sg ρ) (q_dd ρ) (q_rk ρ) sh S i).2), none, some (zi ((q_deed (q_sg ρ) (q_dd ρ) (q_rk ρ) sh S i).1 : Int)), some (zi (i : Int))] [] M (fun r M' => ∃ a, r = some (zl a) ∧ (a = q_done ρ sh S ∧ M' = M)) := by
  have e6 : ρ 6 = (q_n ρ 6 : Int) := hR.n (by decide)
  have b6 := hR.2.1.2.2.2.2.2.2.1
  have e7 : ρ 7 = (q_n ρ 7 : Int) := hR.n (by decide)
  have b7 := hR.2.1.2.2.2.2.2.2.2
  have hcl := hc.lt
  intro j
  induction j with
  | zero =>
    intro i hi
    refine p_iload 11 dX4_deedBy_9 rfl ?_
    refine p_aload_n 12 dX4_deedBy_11 rfl rfl (by omega) ?_
    refine p_getI (c + 17) 15 dX4_deedBy_12 fX4_28 hc.tt3.1 ?_
    rw [hC.1.2.2.2.2.2.2.2.1]
    refine p_icmp_ge 76 18 dX4_deedBy_15 (by omega) (by omega) (by omega) (by omega) (fun h15 => ?_) (fun h15 => absurd (by omega) (fun h9 : False => h9))
    refine p_lload 78 dX4_deedBy_76 rfl ?_
    refine p_lret dX4_deedBy_78 rfl ?_
    rw [Nat.add_zero] at hi
    subst hi
    exact ⟨_, rfl, rfl, rfl⟩
  | succ j ih =>
    intro i hi
    have zb := z_bit0 (a := S) (i := i) (by omega) (by omega)
    have hsg := q_sg_bd hR (k := i) (by omega)
    have hdb := q_deed_bd hR sh S i (by omega)
    have hr9 := (hR.2.2.2.2.2.1 i (by omega)).1
    have er : ρ (59 + 19 * i) = (q_rk ρ i : Int) := hR.n (by omega)
    have ed : q_deed (q_sg ρ) (q_dd ρ) (q_rk ρ) sh S (i + 1) = if S.testBit i = true ∧ q_sg ρ i = sh ∧ (q_deed (q_sg ρ) (q_dd ρ) (q_rk ρ) sh S i).1 < q_rk ρ i then (q_rk ρ i, q_dd ρ i) else (q_deed (q_sg ρ) (q_dd ρ) (q_rk ρ) sh S i) := rfl
    refine p_iload 11 dX4_deedBy_9 rfl ?_
    refine p_aload_n 12 dX4_deedBy_11 rfl rfl (by omega) ?_
    refine p_getI (c + 17) 15 dX4_deedBy_12 fX4_28 hc.tt3.1 ?_
    rw [hC.1.2.2.2.2.2.2.2.1]
    refine p_icmp_ge 76 18 dX4_deedBy_15 (by omega) (by omega) (by omega) (by omega) (fun h15 => absurd (by omega) (fun h9 : False => h9)) (fun h15 => ?_)
    refine p_iload_n 19 dX4_deedBy_18 rfl rfl ?_
    refine p_iload 21 dX4_deedBy_19 rfl ?_
    refine p_callN1i 24 dX4_deedBy_21 (s_bit (i := i) (by omega)) ln_X4_35 mX11_bit (by decide) (Nat.le_of_ble_eq_true rfl) ?_
    rintro _ _ ⟨rfl, e9⟩
    have e9 := e9.symm
    subst e9
    refine p_iand 25 dX4_deedBy_24 ?_
    refine p_if_eq 70 28 dX4_deedBy_25 (by omega) (by omega) (fun h25 => ?_) (fun h25 => ?_)
    · have hno : ¬ (S.testBit i = true ∧ q_sg ρ i = sh ∧ (q_deed (q_sg ρ) (q_dd ρ) (q_rk ρ) sh S i).1 < q_rk ρ i) := fun g => by rw [zb.1.mp h25] at g; cases g.1
      refine p_iinc 73 dX4_deedBy_70 rfl rfl rfl ?_
      dsimp only [List.set]
      refine p_goto 9 dX4_deedBy_73 ?_
      have e := ih (i + 1) (by omega)
      first
        | (rw [ed, if_neg hno] at e; exact e)
        | (rw [ed, if_pos hyes] at e; exact e)
    · have hb : S.testBit i = true := by
        cases g : S.testBit i with
        | false => exact absurd (zb.1.mpr g) h25
        | true => rfl
      refine p_aload_n 29 dX4_deedBy_28 rfl rfl (by omega) ?_
      refine p_getR (c + 17) 32 dX4_deedBy_29 fX4_9 hc.tt3.1 (hc.wire3 hW).1 ?_
      refine p_iload 34 dX4_deedBy_32 rfl ?_
      refine p_laldn (c + 18) 35 (i) dX4_deedBy_34 hc.tt3.2.1 (by omega) (by omega) ?_
      rw [(hC.2.2.2.2.1 i (by omega)).1]
      have zc := z_lc hsg hsh
      refine p_lload_n 36 dX4_deedBy_35 rfl rfl ?_
      refine p_lcmp 37 dX4_deedBy_36 ?_
      refine p_if_ne 70 40 dX4_deedBy_37 (by omega) (by omega) (fun h37 => ?_) (fun h37 => ?_)
      · have hno : ¬ (S.testBit i = true ∧ q_sg ρ i = sh ∧ (q_deed (q_sg ρ) (q_dd ρ) (q_rk ρ) sh S i).1 < q_rk ρ i) := fun g => h37 (zc.1.mpr g.2.1)
        refine p_iinc 73 dX4_deedBy_70 rfl rfl rfl ?_
        dsimp only [List.set]
        refine p_goto 9 dX4_deedBy_73 ?_
        have e := ih (i + 1) (by omega)
        first
          | (rw [ed, if_neg hno] at e; exact e)
          | (rw [ed, if_pos hyes] at e; exact e)
      · have hse : q_sg ρ i = sh := zc.1.mp (Decidable.not_not.mp h37)
        refine p_aload_n 41 dX4_deedBy_40 rfl rfl (by omega) ?_
        refine p_getR (c + 17) 44 dX4_deedBy_41 fX4_18 hc.tt3.1 (hc.wire3 hW).2.2.1 ?_
        refine p_iload 46 dX4_deedBy_44 rfl ?_
        refine p_ialdn (c + 20) 47 (i) dX4_deedBy_46 hc.tt3.2.2.2.1 (by omega) (by omega) ?_
        rw [(hC.2.2.2.2.1 i (by omega)).2.2, er]
        refine p_iload 49 dX4_deedBy_47 rfl ?_
        refine p_icmp_le 70 52 dX4_deedBy_49 (by omega) (by omega) (by omega) (by omega) (fun h49 => ?_) (fun h49 => ?_)
        · have hno : ¬ (S.testBit i = true ∧ q_sg ρ i = sh ∧ (q_deed (q_sg ρ) (q_dd ρ) (q_rk ρ) sh S i).1 < q_rk ρ i) := fun g => by have := g.2.2; omega
          refine p_iinc 73 dX4_deedBy_70 rfl rfl rfl ?_
          dsimp only [List.set]
          refine p_goto 9 dX4_deedBy_73 ?_
          have e := ih (i + 1) (by omega)
          first
            | (rw [ed, if_neg hno] at e; exact e)
            | (rw [ed, if_pos hyes] at e; exact e)
        · have hyes : S.testBit i = true ∧ q_sg ρ i = sh ∧ (q_deed (q_sg ρ) (q_dd ρ) (q_rk ρ) sh S i).1 < q_rk ρ i := ⟨hb, hse, by omega⟩
          refine p_aload_n 53 dX4_deedBy_52 rfl rfl (by omega) ?_
          refine p_getR (c + 17) 56 dX4_deedBy_53 fX4_18 hc.tt3.1 (hc.wire3 hW).2.2.1 ?_
          refine p_iload 58 dX4_deedBy_56 rfl ?_
          refine p_ialdn (c + 20) 59 (i) dX4_deedBy_58 hc.tt3.2.2.2.1 (by omega) (by omega) ?_
          rw [(hC.2.2.2.2.1 i (by omega)).2.2, er]
          refine p_istore 61 dX4_deedBy_59 (Nat.le_of_ble_eq_true rfl) rfl rfl ?_
          dsimp only [List.set]
          refine p_aload_n 62 dX4_deedBy_61 rfl rfl (by omega) ?_
          refine p_getR (c + 17) 65 dX4_deedBy_62 fX4_15 hc.tt3.1 (hc.wire3 hW).2.1 ?_
          refine p_iload 67 dX4_deedBy_65 rfl ?_
          refine p_laldn (c + 19) 68 (i) dX4_deedBy_67 hc.tt3.2.2.1 (by omega) (by omega) ?_
          rw [(hC.2.2.2.2.1 i (by omega)).2.1]
          refine p_lstore 70 dX4_deedBy_68 (Nat.le_of_ble_eq_true rfl) rfl rfl ?_
          dsimp only [List.set]
          refine p_iinc 73 dX4_deedBy_70 rfl rfl rfl ?_
          dsimp only [List.set]
          refine p_goto 9 dX4_deedBy_73 ?_
          have e := ih (i + 1) (by omega)
          first
            | (rw [ed, if_neg hno] at e; exact e)
            | (rw [ed, if_pos hyes] at e; exact e)
theorem s_deedBy {l : Launch} {X : ZX} {M : ZM} {c : Nat} (hc : isC c) {ρ : Nat → Int} {h : Int} (hW : zWc M) (hC : ICc ρ h c M) (hR : wfR ρ) {sh : Int} (hsh : 0 ≤ sh ∧ sh < 1099511627776) {S : Nat} (hS : S < 2147483648) : zCl l X 1 yX4_deedBy tX4_deedBy [zr ((c + 17 : Nat) : Int), zl sh, zi (S : Int)] M (fun a M' => a = q_done ρ sh S ∧ M' = M) := by
  refine zC.of [some (zr ((c + 17 : Nat) : Int)), some (zl sh), none, some (zi (S : Int)), none, none, none, none] (by decide +kernel) rfl rfl (Nat.le_of_ble_eq_true rfl) rfl ?_
  refine p_lconst (z := 0) 1 dX4_deedBy_0 rfl ?_
  refine p_lstore 3 dX4_deedBy_1 (Nat.le_of_ble_eq_true rfl) rfl rfl ?_
  dsimp only [List.set]
  refine p_iconst 4 dX4_deedBy_3 ?_
  refine p_istore 6 dX4_deedBy_4 (Nat.le_of_ble_eq_true rfl) rfl rfl ?_
  dsimp only [List.set]
  refine p_iconst 7 dX4_deedBy_6 ?_
  refine p_istore 9 dX4_deedBy_7 (Nat.le_of_ble_eq_true rfl) rfl rfl ?_
  dsimp only [List.set]
  exact l_deedBy hc hW hC hR hsh hS (q_n ρ 6) 0 (Nat.zero_add _)
theorem l_firstUnlike {l : Launch} {X : ZX} {M : ZM} {c : Nat} (hc : isC c) {ρ : Nat → Int} {h : Int} (hW : zWc M) (hC : ICc ρ h c M) (hR : wfR ρ) {S : Nat} (hS : S < 2147483648) : ∀ (j i : Nat), i + j = q_n ρ 7 → (∀ v, v < i → (fun n => !(decide (q_done ρ (q_ss ρ n) S = q_sd ρ n))) v = false) → zP l X 2 tX4_firstUnlike 2 [some (zr ((c + 17 : Nat) : Int)), some (zi (S : Int)), some (zi (i : Int))] [] M (fun r M' => ∃ a, r = some (zi a) ∧ (a = q_fv (q_unl ρ S) ∧ M' = M)) := by
  have e6 : ρ 6 = (q_n ρ 6 : Int) := hR.n (by decide)
  have b6 := hR.2.1.2.2.2.2.2.2.1
  have e7 : ρ 7 = (q_n ρ 7 : Int) := hR.n (by decide)
  have b7 := hR.2.1.2.2.2.2.2.2.2
  have hcl := hc.lt
  intro j
  induction j with
  | zero =>
    intro i hi hv
    refine p_iload_n 3 dX4_firstUnlike_2 rfl rfl ?_
    refine p_aload_n 4 dX4_firstUnlike_3 rfl rfl (by omega) ?_
    refine p_getI (c + 17) 7 dX4_firstUnlike_4 fX4_32 hc.tt3.1 ?_
    rw [hC.1.2.2.2.2.2.2.2.2]
    refine p_icmp_ge 39 10 dX4_firstUnlike_7 (by omega) (by omega) (by omega) (by omega) (fun h7 => ?_) (fun h7 => absurd (by omega) (fun h9 : False => h9))
    refine p_bipush 41 dX4_firstUnlike_39 rfl ?_
    refine p_iret dX4_firstUnlike_41 rfl ?_
    refine ⟨_, rfl, ?_, rfl⟩
    cases hq : q_unl ρ S with
    | none => rfl
    | some w =>
      obtain ⟨a, b, -⟩ := q_first_some hq
      have b2 := (hv w (by omega)).symm.trans b
      cases b2
  | succ j ih =>
    intro i hi hv
    refine p_iload_n 3 dX4_firstUnlike_2 rfl rfl ?_
    refine p_aload_n 4 dX4_firstUnlike_3 rfl rfl (by omega) ?_
    refine p_getI (c + 17) 7 dX4_firstUnlike_4 fX4_32 hc.tt3.1 ?_
    rw [hC.1.2.2.2.2.2.2.2.2]
    refine p_icmp_ge 39 10 dX4_firstUnlike_7 (by omega) (by omega) (by omega) (by omega) (fun h7 => absurd (by omega) (fun h9 : False => h9)) (fun h7 => ?_)
    refine p_aload_n 11 dX4_firstUnlike_10 rfl rfl (by omega) ?_
    refine p_aload_n 12 dX4_firstUnlike_11 rfl rfl (by omega) ?_
    refine p_getR (c + 17) 15 dX4_firstUnlike_12 fX4_22 hc.tt3.1 (hc.wire3 hW).2.2.2.1 ?_
    refine p_iload_n 16 dX4_firstUnlike_15 rfl rfl ?_
    refine p_laldn (c + 21) 17 (i) dX4_firstUnlike_16 hc.tt3.2.2.2.2.1 (by omega) (by omega) ?_
    rw [(hC.2.2.2.2.2 i (by omega)).1]
    refine p_iload_n 18 dX4_firstUnlike_17 rfl rfl ?_
    refine p_callV2l (c + 17) 21 dX4_firstUnlike_18 (s_deedBy hc hW hC hR (sh := q_ss ρ i) (q_ss_bd hR (by omega)) hS) lk_X4_39 mX4_deedBy hc.tt3.1 rfl (by decide) (Nat.le_of_ble_eq_true rfl) ?_
    rintro _ _ ⟨rfl, e9⟩
    have e9 := e9.symm
    subst e9
    refine p_aload_n 22 dX4_firstUnlike_21 rfl rfl (by omega) ?_
    refine p_getR (c + 17) 25 dX4_firstUnlike_22 fX4_25 hc.tt3.1 (hc.wire3 hW).2.2.2.2 ?_
    refine p_iload_n 26 dX4_firstUnlike_25 rfl rfl ?_
    refine p_laldn (c + 22) 27 (i) dX4_firstUnlike_26 hc.tt3.2.2.2.2.2 (by omega) (by omega) ?_
    rw [(hC.2.2.2.2.2 i (by omega)).2]
    have zc := z_lc (q_done_bd hR (q_ss ρ i) S) (q_sd_bd hR (k := i) (by omega))
    refine p_lcmp 28 dX4_firstUnlike_27 ?_
    refine p_if_eq 33 31 dX4_firstUnlike_28 (by omega) (by omega) (fun h28 => ?_) (fun h28 => ?_)
    · refine p_iinc 36 dX4_firstUnlike_33 rfl rfl rfl ?_
      dsimp only [List.set]
      refine p_goto 2 dX4_firstUnlike_36 ?_
      refine ih (i + 1) (by omega) (fun v hv2 => ?_)
      by_cases e : v = i
      · subst e
        show (!(decide (q_done ρ (q_ss ρ v) S = q_sd ρ v))) = false
        rw [decide_eq_true (zc.1.mp h28)]
        rfl
      · exact hv v (by omega)
    · refine p_iload_n 32 dX4_firstUnlike_31 rfl rfl ?_
      refine p_iret dX4_firstUnlike_32 rfl ?_
      refine ⟨_, rfl, ?_, rfl⟩
      have hy : (fun n => !(decide (q_done ρ (q_ss ρ n) S = q_sd ρ n))) i = true := by
        show (!(decide (q_done ρ (q_ss ρ i) S = q_sd ρ i))) = true
        rw [decide_eq_false (fun g => h28 (zc.1.mpr g))]
        rfl
      unfold q_unl
      rw [q_first_is (by omega) hy hv]
      rfl
theorem s_firstUnlike {l : Launch} {X : ZX} {M : ZM} {c : Nat} (hc : isC c) {ρ : Nat → Int} {h : Int} (hW : zWc M) (hC : ICc ρ h c M) (hR : wfR ρ) {S : Nat} (hS : S < 2147483648) : zCi l X 2 yX4_firstUnlike tX4_firstUnlike [zr ((c + 17 : Nat) : Int), zi (S : Int)] M (fun a M' => a = q_fv (q_unl ρ S) ∧ M' = M) := by
  refine zC.of [some (zr ((c + 17 : Nat) : Int)), some (zi (S : Int)), none] (by decide +kernel) rfl rfl (Nat.le_of_ble_eq_true rfl) rfl ?_
  refine p_iconst 1 dX4_firstUnlike_0 ?_
  refine p_istore_n 2 dX4_firstUnlike_1 rfl (Nat.le_of_ble_eq_true rfl) rfl rfl ?_
  dsimp only [List.set]
  exact l_firstUnlike hc hW hC hR hS (q_n ρ 7) 0 (Nat.zero_add _) (fun v hv => absurd hv (by omega))
theorem l_isFirstOfSign {l : Launch} {X : ZX} {M : ZM} {c : Nat} (hc : isC c) {ρ : Nat → Int} {h : Int} (hW : zWc M) (hC : ICc ρ h c M) (hR : wfR ρ) {o : Nat} (ho : (o : Int) < ρ 6) : ∀ (j i : Nat), i + j = o → q_all (fun p => decide (q_sg ρ p ≠ q_sg ρ o)) i = true → zP l X 0 tX4_isFirstOfSign 2 [some (zr ((c + 17 : Nat) : Int)), some (zi (o : Int)), some (zi (i : Int))] [] M (fun r M' => ∃ a, r = some (zi a) ∧ (a = (if q_all (fun p => decide (q_sg ρ p ≠ q_sg ρ o)) o = true then 1 else 0) ∧ M' = M)) := by
  have e6 : ρ 6 = (q_n ρ 6 : Int) := hR.n (by decide)
  have b6 := hR.2.1.2.2.2.2.2.2.1
  have e7 : ρ 7 = (q_n ρ 7 : Int) := hR.n (by decide)
  have b7 := hR.2.1.2.2.2.2.2.2.2
  have hcl := hc.lt
  intro j
  induction j with
  | zero =>
    intro i hi hv
    refine p_iload_n 3 dX4_isFirstOfSign_2 rfl rfl ?_
    refine p_iload_n 4 dX4_isFirstOfSign_3 rfl rfl ?_
    refine p_icmp_ge 31 7 dX4_isFirstOfSign_4 (by omega) (by omega) (by omega) (by omega) (fun h4 => ?_) (fun h4 => absurd (by omega) (fun h9 : False => h9))
    refine p_iconst 32 dX4_isFirstOfSign_31 ?_
    refine p_zret dX4_isFirstOfSign_32 rfl (by decide) ?_
    rw [Nat.add_zero] at hi
    subst hi
    exact ⟨_, rfl, by rw [if_pos hv], rfl⟩
  | succ j ih =>
    intro i hi hv
    refine p_iload_n 3 dX4_isFirstOfSign_2 rfl rfl ?_
    refine p_iload_n 4 dX4_isFirstOfSign_3 rfl rfl ?_
    refine p_icmp_ge 31 7 dX4_isFirstOfSign_4 (by omega) (by omega) (by omega) (by omega) (fun h4 => absurd (by omega) (fun h9 : False => h9)) (fun h4 => ?_)
    refine p_aload_n 8 dX4_isFirstOfSign_7 rfl rfl (by omega) ?_
    refine p_getR (c + 17) 11 dX4_isFirstOfSign_8 fX4_9 hc.tt3.1 (hc.wire3 hW).1 ?_
    refine p_iload_n 12 dX4_isFirstOfSign_11 rfl rfl ?_
    refine p_laldn (c + 18) 13 (i) dX4_isFirstOfSign_12 hc.tt3.2.1 (by omega) (by omega) ?_
    rw [(hC.2.2.2.2.1 i (by omega)).1]
    refine p_aload_n 14 dX4_isFirstOfSign_13 rfl rfl (by omega) ?_
    refine p_getR (c + 17) 17 dX4_isFirstOfSign_14 fX4_9 hc.tt3.1 (hc.wire3 hW).1 ?_
    refine p_iload_n 18 dX4_isFirstOfSign_17 rfl rfl ?_
    refine p_laldn (c + 18) 19 (o) dX4_isFirstOfSign_18 hc.tt3.2.1 (by omega) (by omega) ?_
    rw [(hC.2.2.2.2.1 o (by omega)).1]
    have zc := z_lc (q_sg_bd hR (k := i) (by omega)) (q_sg_bd hR (k := o) (by omega))
    refine p_lcmp 20 dX4_isFirstOfSign_19 ?_
    refine p_if_ne 25 23 dX4_isFirstOfSign_20 (by omega) (by omega) (fun h20 => ?_) (fun h20 => ?_)
    · refine p_iinc 28 dX4_isFirstOfSign_25 rfl rfl rfl ?_
      dsimp only [List.set]
      refine p_goto 2 dX4_isFirstOfSign_28 ?_
      refine ih (i + 1) (by omega) ?_
      rw [q_all_succ, hv, decide_eq_true (p := q_sg ρ i ≠ q_sg ρ o) (fun g => h20 (zc.1.mpr g))]
      rfl
    · refine p_iconst 24 dX4_isFirstOfSign_23 ?_
      refine p_zret dX4_isFirstOfSign_24 rfl (by decide) ?_
      refine ⟨_, rfl, ?_, rfl⟩
      rw [if_neg]
      intro g
      have := q_all_iff.mp g i (by omega)
      rw [decide_eq_true_eq] at this
      exact this (zc.1.mp (by omega))
theorem s_isFirstOfSign {l : Launch} {X : ZX} {M : ZM} {c : Nat} (hc : isC c) {ρ : Nat → Int} {h : Int} (hW : zWc M) (hC : ICc ρ h c M) (hR : wfR ρ) {o : Nat} (ho : (o : Int) < ρ 6) : zCi l X 0 yX4_isFirstOfSign tX4_isFirstOfSign [zr ((c + 17 : Nat) : Int), zi (o : Int)] M (fun a M' => a = (if q_all (fun p => decide (q_sg ρ p ≠ q_sg ρ o)) o = true then 1 else 0) ∧ M' = M) := by
  refine zC.of [some (zr ((c + 17 : Nat) : Int)), some (zi (o : Int)), none] (by decide +kernel) rfl rfl (Nat.le_of_ble_eq_true rfl) rfl ?_
  refine p_iconst 1 dX4_isFirstOfSign_0 ?_
  refine p_istore_n 2 dX4_isFirstOfSign_1 rfl (Nat.le_of_ble_eq_true rfl) rfl rfl ?_
  dsimp only [List.set]
  exact l_isFirstOfSign hc hW hC hR ho o 0 (Nat.zero_add _) rfl
theorem l_wasSeen {l : Launch} {X : ZX} {M : ZM} {c : Nat} (hc : isC c) (hW : zWc M) {n : Nat} {g : Nat → Int} (hn : M (c + 17) 4 = (n : Int)) (hn5 : n ≤ 5) (hg : ∀ k, k < n → M (c + 21) k = g k) (hgb : ∀ k, k < n → 0 ≤ g k ∧ g k < 1099511627776) {sh : Int} (hsh : 0 ≤ sh ∧ sh < 1099511627776) : ∀ (j i : Nat), i + j = n → q_all (fun k => decide (g k ≠ sh)) i = true → zP l X 0 tX4_wasSeen 2 [some (zr ((c + 17 : Nat) : Int)), some (zl sh), none, some (zi (i : Int))] [] M (fun r M' => ∃ a, r = some (zi a) ∧ (a = (if q_all (fun k => decide (g k ≠ sh)) n = true then 0 else 1) ∧ M' = M)) := by
  have hcl := hc.lt
  intro j
  induction j with
  | zero =>
    intro i hi hv
    refine p_iload_n 3 dX4_wasSeen_2 rfl rfl ?_
    refine p_aload_n 4 dX4_wasSeen_3 rfl rfl (by omega) ?_
    refine p_getI (c + 17) 7 dX4_wasSeen_4 fX4_32 hc.tt3.1 ?_
    rw [hn]
    refine p_icmp_ge 29 10 dX4_wasSeen_7 (by omega) (by omega) (by omega) (by omega) (fun h7 => ?_) (fun h7 => absurd (by omega) (fun h9 : False => h9))
    refine p_iconst 30 dX4_wasSeen_29 ?_
    refine p_zret dX4_wasSeen_30 rfl (by decide) ?_
    rw [Nat.add_zero] at hi
    subst hi
    exact ⟨_, rfl, by rw [if_pos hv], rfl⟩
  | succ j ih =>
    intro i hi hv
    refine p_iload_n 3 dX4_wasSeen_2 rfl rfl ?_
    refine p_aload_n 4 dX4_wasSeen_3 rfl rfl (by omega) ?_
    refine p_getI (c + 17) 7 dX4_wasSeen_4 fX4_32 hc.tt3.1 ?_
    rw [hn]
    refine p_icmp_ge 29 10 dX4_wasSeen_7 (by omega) (by omega) (by omega) (by omega) (fun h7 => absurd (by omega) (fun h9 : False => h9)) (fun h7 => ?_)
    refine p_aload_n 11 dX4_wasSeen_10 rfl rfl (by omega) ?_
    refine p_getR (c + 17) 14 dX4_wasSeen_11 fX4_22 hc.tt3.1 (hc.wire3 hW).2.2.2.1 ?_
    refine p_iload_n 15 dX4_wasSeen_14 rfl rfl ?_
    refine p_laldn (c + 21) 16 (i) dX4_wasSeen_15 hc.tt3.2.2.2.2.1 (by omega) (by omega) ?_
    rw [hg i (by omega)]
    have zc := z_lc (hgb i (by omega)) hsh
    refine p_lload_n 17 dX4_wasSeen_16 rfl rfl ?_
    refine p_lcmp 18 dX4_wasSeen_17 ?_
    refine p_if_ne 23 21 dX4_wasSeen_18 (by omega) (by omega) (fun h18 => ?_) (fun h18 => ?_)
    · refine p_iinc 26 dX4_wasSeen_23 rfl rfl rfl ?_
      dsimp only [List.set]
      refine p_goto 2 dX4_wasSeen_26 ?_
      refine ih (i + 1) (by omega) ?_
      rw [q_all_succ, hv, decide_eq_true (p := g i ≠ sh) (fun g9 => h18 (zc.1.mpr g9))]
      rfl
    · refine p_iconst 22 dX4_wasSeen_21 ?_
      refine p_zret dX4_wasSeen_22 rfl (by decide) ?_
      refine ⟨_, rfl, ?_, rfl⟩
      rw [if_neg]
      intro g
      have := q_all_iff.mp g i (by omega)
      rw [decide_eq_true_eq] at this
      exact this (zc.1.mp (by omega))
theorem s_wasSeenG {l : Launch} {X : ZX} {M : ZM} {c : Nat} (hc : isC c) (hW : zWc M) {n : Nat} {g : Nat → Int} (hn : M (c + 17) 4 = (n : Int)) (hn5 : n ≤ 5) (hg : ∀ k, k < n → M (c + 21) k = g k) (hgb : ∀ k, k < n → 0 ≤ g k ∧ g k < 1099511627776) {sh : Int} (hsh : 0 ≤ sh ∧ sh < 1099511627776) : zCi l X 0 yX4_wasSeen tX4_wasSeen [zr ((c + 17 : Nat) : Int), zl sh] M (fun a M' => a = (if q_all (fun k => decide (g k ≠ sh)) n = true then 0 else 1) ∧ M' = M) := by
  refine zC.of [some (zr ((c + 17 : Nat) : Int)), some (zl sh), none, none] (by decide +kernel) rfl rfl (Nat.le_of_ble_eq_true rfl) rfl ?_
  refine p_iconst 1 dX4_wasSeen_0 ?_
  refine p_istore_n 2 dX4_wasSeen_1 rfl (Nat.le_of_ble_eq_true rfl) rfl rfl ?_
  dsimp only [List.set]
  exact l_wasSeen hc hW hn hn5 hg hgb hsh n 0 (Nat.zero_add _) rfl
theorem s_wasSeenC {l : Launch} {X : ZX} {M : ZM} {c : Nat} (hc : isC c) {ρ : Nat → Int} {h : Int} (hW : zWc M) (hC : ICc ρ h c M) (hR : wfR ρ) {sh : Int} (hsh : 0 ≤ sh ∧ sh < 1099511627776) : zCi l X 0 yX4_wasSeen tX4_wasSeen [zr ((c + 17 : Nat) : Int), zl sh] M (fun a M' => a = (if q_all (fun k => decide (q_ss ρ k ≠ sh)) (q_n ρ 7) = true then 0 else 1) ∧ M' = M) := by
  have e7 : ρ 7 = (q_n ρ 7 : Int) := hR.n (by decide)
  have b7 := hR.2.1.2.2.2.2.2.2.2
  exact s_wasSeenG hc hW (hC.1.2.2.2.2.2.2.2.2.trans e7) (by omega) (fun k hk => (hC.2.2.2.2.2 k (by omega)).1) (fun k hk => q_ss_bd hR (by omega)) hsh
theorem l_firstOfDeed {l : Launch} {X : ZX} {M : ZM} {c : Nat} (hc : isC c) {ρ : Nat → Int} {h : Int} (hW : zWc M) (hC : ICc ρ h c M) (hR : wfR ρ) {sh dn : Int} (hsh : 0 ≤ sh ∧ sh < 1099511627776) (hdn : 0 ≤ dn ∧ dn < 1099511627776) : ∀ (j i : Nat), i + j = q_n ρ 6 → (∀ v, v < i → (fun o => decide (q_sg ρ o = sh) && decide (q_dd ρ o = dn)) v = false) → zP l X 0 tX4_firstOfDeed 3 [some (zr ((c + 17 : Nat) : Int)), some (zl sh), none, some (zl dn), none, some (zi (i : Int))] [] M (fun r M' => ∃ a, r = some (zi a) ∧ (a = q_mn (q_first (fun o => decide (q_sg ρ o = sh) && decide (q_dd ρ o = dn)) (q_n ρ 6)) ∧ M' = M)) := by
  have e6 : ρ 6 = (q_n ρ 6 : Int) := hR.n (by decide)
  have b6 := hR.2.1.2.2.2.2.2.2.1
  have e7 : ρ 7 = (q_n ρ 7 : Int) := hR.n (by decide)
  have b7 := hR.2.1.2.2.2.2.2.2.2
  have hcl := hc.lt
  intro j
  induction j with
  | zero =>
    intro i hi hv
    refine p_iload 5 dX4_firstOfDeed_3 rfl ?_
    refine p_aload_n 6 dX4_firstOfDeed_5 rfl rfl (by omega) ?_
    refine p_getI (c + 17) 9 dX4_firstOfDeed_6 fX4_28 hc.tt3.1 ?_
    rw [hC.1.2.2.2.2.2.2.2.1]
    refine p_icmp_ge 45 12 dX4_firstOfDeed_9 (by omega) (by omega) (by omega) (by omega) (fun h9 => ?_) (fun h9 => absurd (by omega) (fun h9 : False => h9))
    refine p_iconst 46 dX4_firstOfDeed_45 ?_
    refine p_iret dX4_firstOfDeed_46 rfl ?_
    refine ⟨_, rfl, ?_, rfl⟩
    cases hq : q_first (fun o => decide (q_sg ρ o = sh) && decide (q_dd ρ o = dn)) (q_n ρ 6) with
    | none => rfl
    | some w =>
      obtain ⟨a, b, -⟩ := q_first_some hq
      have b2 := (hv w (by omega)).symm.trans b
      cases b2
  | succ j ih =>
    intro i hi hv
    refine p_iload 5 dX4_firstOfDeed_3 rfl ?_
    refine p_aload_n 6 dX4_firstOfDeed_5 rfl rfl (by omega) ?_
    refine p_getI (c + 17) 9 dX4_firstOfDeed_6 fX4_28 hc.tt3.1 ?_
    rw [hC.1.2.2.2.2.2.2.2.1]
    refine p_icmp_ge 45 12 dX4_firstOfDeed_9 (by omega) (by omega) (by omega) (by omega) (fun h9 => absurd (by omega) (fun h9 : False => h9)) (fun h9 => ?_)
    refine p_aload_n 13 dX4_firstOfDeed_12 rfl rfl (by omega) ?_
    refine p_getR (c + 17) 16 dX4_firstOfDeed_13 fX4_9 hc.tt3.1 (hc.wire3 hW).1 ?_
    refine p_iload 18 dX4_firstOfDeed_16 rfl ?_
    refine p_laldn (c + 18) 19 (i) dX4_firstOfDeed_18 hc.tt3.2.1 (by omega) (by omega) ?_
    rw [(hC.2.2.2.2.1 i (by omega)).1]
    have zc := z_lc (q_sg_bd hR (k := i) (by omega)) hsh
    refine p_lload_n 20 dX4_firstOfDeed_19 rfl rfl ?_
    refine p_lcmp 21 dX4_firstOfDeed_20 ?_
    refine p_if_ne 39 24 dX4_firstOfDeed_21 (by omega) (by omega) (fun h21 => ?_) (fun h21 => ?_)
    · have hno : (fun o => decide (q_sg ρ o = sh) && decide (q_dd ρ o = dn)) i = false := by
        show (decide (q_sg ρ i = sh) && _) = false
        rw [decide_eq_false (fun g => h21 (zc.1.mpr g))]
        rfl
      refine p_iinc 42 dX4_firstOfDeed_39 rfl rfl rfl ?_
      dsimp only [List.set]
      refine p_goto 3 dX4_firstOfDeed_42 ?_
      refine ih (i + 1) (by omega) (fun v hv2 => ?_)
      by_cases e : v = i
      · subst e; exact hno
      · exact hv v (by omega)
    · refine p_aload_n 25 dX4_firstOfDeed_24 rfl rfl (by omega) ?_
      refine p_getR (c + 17) 28 dX4_firstOfDeed_25 fX4_15 hc.tt3.1 (hc.wire3 hW).2.1 ?_
      refine p_iload 30 dX4_firstOfDeed_28 rfl ?_
      refine p_laldn (c + 19) 31 (i) dX4_firstOfDeed_30 hc.tt3.2.2.1 (by omega) (by omega) ?_
      rw [(hC.2.2.2.2.1 i (by omega)).2.1]
      have zd := z_lc (q_dd_bd hR (k := i) (by omega)) hdn
      refine p_lload_n 32 dX4_firstOfDeed_31 rfl rfl ?_
      refine p_lcmp 33 dX4_firstOfDeed_32 ?_
      refine p_if_ne 39 36 dX4_firstOfDeed_33 (by omega) (by omega) (fun h33 => ?_) (fun h33 => ?_)
      · have hno : (fun o => decide (q_sg ρ o = sh) && decide (q_dd ρ o = dn)) i = false := by
          show (_ && decide (q_dd ρ i = dn)) = false
          rw [decide_eq_false (fun g => h33 (zd.1.mpr g)), Bool.and_false]
        refine p_iinc 42 dX4_firstOfDeed_39 rfl rfl rfl ?_
        dsimp only [List.set]
        refine p_goto 3 dX4_firstOfDeed_42 ?_
        refine ih (i + 1) (by omega) (fun v hv2 => ?_)
        by_cases e : v = i
        · subst e; exact hno
        · exact hv v (by omega)
      · refine p_iload 38 dX4_firstOfDeed_36 rfl ?_
        refine p_iret dX4_firstOfDeed_38 rfl ?_
        refine ⟨_, rfl, ?_, rfl⟩
        have hy : (fun o => decide (q_sg ρ o = sh) && decide (q_dd ρ o = dn)) i = true := by
          show (decide (q_sg ρ i = sh) && decide (q_dd ρ i = dn)) = true
          rw [decide_eq_true (zc.1.mp (by omega)), decide_eq_true (zd.1.mp (by omega))]
          rfl
        rw [q_first_is (by omega) hy hv]
        rfl
theorem s_firstOfDeed {l : Launch} {X : ZX} {M : ZM} {c : Nat} (hc : isC c) {ρ : Nat → Int} {h : Int} (hW : zWc M) (hC : ICc ρ h c M) (hR : wfR ρ) {sh dn : Int} (hsh : 0 ≤ sh ∧ sh < 1099511627776) (hdn : 0 ≤ dn ∧ dn < 1099511627776) : zCi l X 0 yX4_firstOfDeed tX4_firstOfDeed [zr ((c + 17 : Nat) : Int), zl sh, zl dn] M (fun a M' => a = q_mn (q_first (fun o => decide (q_sg ρ o = sh) && decide (q_dd ρ o = dn)) (q_n ρ 6)) ∧ M' = M) := by
  refine zC.of [some (zr ((c + 17 : Nat) : Int)), some (zl sh), none, some (zl dn), none, none] (by decide +kernel) rfl rfl (Nat.le_of_ble_eq_true rfl) rfl ?_
  refine p_iconst 1 dX4_firstOfDeed_0 ?_
  refine p_istore 3 dX4_firstOfDeed_1 (Nat.le_of_ble_eq_true rfl) rfl rfl ?_
  dsimp only [List.set]
  exact l_firstOfDeed hc hW hC hR hsh hdn (q_n ρ 6) 0 (Nat.zero_add _) (fun v hv => absurd hv (by omega))
theorem l_isShown {l : Launch} {X : ZX} {M : ZM} {c : Nat} (hc : isC c) {ρ : Nat → Int} {h : Int} (hW : zWc M) (hC : ICc ρ h c M) (hR : wfR ρ) {sh : Int} (hsh : 0 ≤ sh ∧ sh < 1099511627776) {S : Nat} (hS : S < 2147483648) : ∀ (j i : Nat), i + j = q_n ρ 6 → q_all (fun o => !(S.testBit o && decide (q_sg ρ o = sh))) i = true → zP l X 1 tX4_isShown 3 [some (zr ((c + 17 : Nat) : Int)), some (zl sh), none, some (zi (S : Int)), some (zi (i : Int))] [] M (fun r M' => ∃ a, r = some (zi a) ∧ (a = (if q_all (fun o => !(S.testBit o && decide (q_sg ρ o = sh))) (q_n ρ 6) = true then 0 else 1) ∧ M' = M)) := by
  have e6 : ρ 6 = (q_n ρ 6 : Int) := hR.n (by decide)
  have b6 := hR.2.1.2.2.2.2.2.2.1
  have e7 : ρ 7 = (q_n ρ 7 : Int) := hR.n (by decide)
  have b7 := hR.2.1.2.2.2.2.2.2.2
  have hcl := hc.lt
  intro j
  induction j with
  | zero =>
    intro i hi hv
    refine p_iload 5 dX4_isShown_3 rfl ?_
    refine p_aload_n 6 dX4_isShown_5 rfl rfl (by omega) ?_
    refine p_getI (c + 17) 9 dX4_isShown_6 fX4_28 hc.tt3.1 ?_
    rw [hC.1.2.2.2.2.2.2.2.1]
    refine p_icmp_ge 42 12 dX4_isShown_9 (by omega) (by omega) (by omega) (by omega) (fun h9 => ?_) (fun h9 => absurd (by omega) (fun h9 : False => h9))
    refine p_iconst 43 dX4_isShown_42 ?_
    refine p_zret dX4_isShown_43 rfl (by decide) ?_
    rw [Nat.add_zero] at hi
    subst hi
    exact ⟨_, rfl, by rw [if_pos hv], rfl⟩
  | succ j ih =>
    intro i hi hv
    have zb := z_bit0 (a := S) (i := i) (by omega) (by omega)
    refine p_iload 5 dX4_isShown_3 rfl ?_
    refine p_aload_n 6 dX4_isShown_5 rfl rfl (by omega) ?_
    refine p_getI (c + 17) 9 dX4_isShown_6 fX4_28 hc.tt3.1 ?_
    rw [hC.1.2.2.2.2.2.2.2.1]
    refine p_icmp_ge 42 12 dX4_isShown_9 (by omega) (by omega) (by omega) (by omega) (fun h9 => absurd (by omega) (fun h9 : False => h9)) (fun h9 => ?_)
    refine p_iload_n 13 dX4_isShown_12 rfl rfl ?_
    refine p_iload 15 dX4_isShown_13 rfl ?_
    refine p_callN1i 18 dX4_isShown_15 (s_bit (i := i) (by omega)) ln_X4_35 mX11_bit (by decide) (Nat.le_of_ble_eq_true rfl) ?_
    rintro _ _ ⟨rfl, e9⟩
    have e9 := e9.symm
    subst e9
    refine p_iand 19 dX4_isShown_18 ?_
    refine p_if_eq 36 22 dX4_isShown_19 (by omega) (by omega) (fun h19 => ?_) (fun h19 => ?_)
    · have hno : (fun o => !(S.testBit o && decide (q_sg ρ o = sh))) i = true := by
        show (!(S.testBit i && _)) = true
        rw [zb.1.mp h19]
        rfl
      refine p_iinc 39 dX4_isShown_36 rfl rfl rfl ?_
      dsimp only [List.set]
      refine p_goto 3 dX4_isShown_39 ?_
      refine ih (i + 1) (by omega) ?_
      rw [q_all_succ, hv, Bool.true_and]
      exact hno
    · have hb : S.testBit i = true := by
        cases g : S.testBit i with
        | false => exact absurd (zb.1.mpr g) h19
        | true => rfl
      refine p_aload_n 23 dX4_isShown_22 rfl rfl (by omega) ?_
      refine p_getR (c + 17) 26 dX4_isShown_23 fX4_9 hc.tt3.1 (hc.wire3 hW).1 ?_
      refine p_iload 28 dX4_isShown_26 rfl ?_
      refine p_laldn (c + 18) 29 (i) dX4_isShown_28 hc.tt3.2.1 (by omega) (by omega) ?_
      rw [(hC.2.2.2.2.1 i (by omega)).1]
      have zc := z_lc (q_sg_bd hR (k := i) (by omega)) hsh
      refine p_lload_n 30 dX4_isShown_29 rfl rfl ?_
      refine p_lcmp 31 dX4_isShown_30 ?_
      refine p_if_ne 36 34 dX4_isShown_31 (by omega) (by omega) (fun h31 => ?_) (fun h31 => ?_)
      · have hno : (fun o => !(S.testBit o && decide (q_sg ρ o = sh))) i = true := by
          show (!(_ && decide (q_sg ρ i = sh))) = true
          rw [decide_eq_false (fun g => h31 (zc.1.mpr g)), Bool.and_false]
          rfl
        refine p_iinc 39 dX4_isShown_36 rfl rfl rfl ?_
        dsimp only [List.set]
        refine p_goto 3 dX4_isShown_39 ?_
        refine ih (i + 1) (by omega) ?_
        rw [q_all_succ, hv, Bool.true_and]
        exact hno
      · refine p_iconst 35 dX4_isShown_34 ?_
        refine p_zret dX4_isShown_35 rfl (by decide) ?_
        refine ⟨_, rfl, ?_, rfl⟩
        rw [if_neg]
        intro g
        have := q_all_iff.mp g i (by omega)
        rw [hb, decide_eq_true (zc.1.mp (by omega))] at this
        cases this
theorem s_isShown {l : Launch} {X : ZX} {M : ZM} {c : Nat} (hc : isC c) {ρ : Nat → Int} {h : Int} (hW : zWc M) (hC : ICc ρ h c M) (hR : wfR ρ) {sh : Int} (hsh : 0 ≤ sh ∧ sh < 1099511627776) {S : Nat} (hS : S < 2147483648) : zCi l X 1 yX4_isShown tX4_isShown [zr ((c + 17 : Nat) : Int), zl sh, zi (S : Int)] M (fun a M' => a = (if q_all (fun o => !(S.testBit o && decide (q_sg ρ o = sh))) (q_n ρ 6) = true then 0 else 1) ∧ M' = M) := by
  refine zC.of [some (zr ((c + 17 : Nat) : Int)), some (zl sh), none, some (zi (S : Int)), none] (by decide +kernel) rfl rfl (Nat.le_of_ble_eq_true rfl) rfl ?_
  refine p_iconst 1 dX4_isShown_0 ?_
  refine p_istore 3 dX4_isShown_1 (Nat.le_of_ble_eq_true rfl) rfl rfl ?_
  dsimp only [List.set]
  exact l_isShown hc hW hC hR hsh hS (q_n ρ 6) 0 (Nat.zero_add _) rfl
/-- does an order of a set show this sign -/
def q_shn (ρ : Nat → Int) (S : Nat) (k : Nat) : Bool := !(q_all (fun o => !(S.testBit o && decide (q_sg ρ o = q_sg ρ k))) (q_n ρ 6))
def q_tog (ρ : Nat → Int) (S : Nat) : Nat → Nat × Int
  | 0 => (0, -2)
  | o + 1 => if (q_tog ρ S o).1 ≤ q_rk ρ o ∧ q_shn ρ S o = true then (q_rk ρ o, (o : Int)) else q_tog ρ S o
theorem q_tog_bd {ρ : Nat → Int} (hR : wfR ρ) (S : Nat) : ∀ n, n ≤ 6 → (q_tog ρ S n).1 ≤ 9 := by
  intro n
  induction n with
  | zero => intro _; exact Nat.zero_le _
  | succ n ih =>
    intro hn
    have e : q_tog ρ S (n + 1) = if (q_tog ρ S n).1 ≤ q_rk ρ n ∧ q_shn ρ S n = true then (q_rk ρ n, (n : Int)) else q_tog ρ S n := rfl
    rw [e]
    split
    · have h1 := (hR.2.2.2.2.2.1 n (by omega)).1
      show (ρ (59 + 19 * n)).toNat ≤ 9
      omega
    · exact ih (by omega)
theorem l_doneTogether {l : Launch} {X : ZX} {M : ZM} {c : Nat} (hc : isC c) {ρ : Nat → Int} {h : Int} (hW : zWc M) (hC : ICc ρ h c M) (hR : wfR ρ) {S : Nat} (hS : S < 2147483648) : ∀ (j i : Nat), i + j = q_n ρ 6 → zP l X 2 tX4_doneTogether 8 [some (zr ((c + 17 : Nat) : Int)), some (zi (S : Int)), some (zi (q_tog ρ S i).2), some (zi ((q_tog ρ S i).1 : Int)), some (zi (i : Int))] [] M (fun r M' => ∃ a, r = some (zi a) ∧ (a = (q_tog ρ S (q_n ρ 6)).2 ∧ M' = M)) := by
  have e6 : ρ 6 = (q_n ρ 6 : Int) := hR.n (by decide)
  have b6 := hR.2.1.2.2.2.2.2.2.1
  have e7 : ρ 7 = (q_n ρ 7 : Int) := hR.n (by decide)
  have b7 := hR.2.1.2.2.2.2.2.2.2
  have hcl := hc.lt
  intro j
  induction j with
  | zero =>
    intro i hi
    refine p_iload 10 dX4_doneTogether_8 rfl ?_
    refine p_aload_n 11 dX4_doneTogether_10 rfl rfl (by omega) ?_
    refine p_getI (c + 17) 14 dX4_doneTogether_11 fX4_28 hc.tt3.1 ?_
    rw [hC.1.2.2.2.2.2.2.2.1]
    refine p_icmp_ge 60 17 dX4_doneTogether_14 (by omega) (by omega) (by omega) (by omega) (fun h14 => ?_) (fun h14 => absurd (by omega) (fun h9 : False => h9))
    refine p_iload_n 61 dX4_doneTogether_60 rfl rfl ?_
    refine p_iret dX4_doneTogether_61 rfl ?_
    rw [Nat.add_zero] at hi
    subst hi
    exact ⟨_, rfl, rfl, rfl⟩
  | succ j ih =>
    intro i hi
    have htb := q_tog_bd hR S i (by omega)
    have hr9 := (hR.2.2.2.2.2.1 i (by omega)).1
    have er : ρ (59 + 19 * i) = (q_rk ρ i : Int) := hR.n (by omega)
    have ed : q_tog ρ S (i + 1) = if (q_tog ρ S i).1 ≤ q_rk ρ i ∧ q_shn ρ S i = true then (q_rk ρ i, (i : Int)) else q_tog ρ S i := rfl
    refine p_iload 10 dX4_doneTogether_8 rfl ?_
    refine p_aload_n 11 dX4_doneTogether_10 rfl rfl (by omega) ?_
    refine p_getI (c + 17) 14 dX4_doneTogether_11 fX4_28 hc.tt3.1 ?_
    rw [hC.1.2.2.2.2.2.2.2.1]
    refine p_icmp_ge 60 17 dX4_doneTogether_14 (by omega) (by omega) (by omega) (by omega) (fun h14 => absurd (by omega) (fun h9 : False => h9)) (fun h14 => ?_)
    refine p_aload_n 18 dX4_doneTogether_17 rfl rfl (by omega) ?_
    refine p_getR (c + 17) 21 dX4_doneTogether_18 fX4_18 hc.tt3.1 (hc.wire3 hW).2.2.1 ?_
    refine p_iload 23 dX4_doneTogether_21 rfl ?_
    refine p_ialdn (c + 20) 24 (i) dX4_doneTogether_23 hc.tt3.2.2.2.1 (by omega) (by omega) ?_
    rw [(hC.2.2.2.2.1 i (by omega)).2.2, er]
    refine p_iload_n 25 dX4_doneTogether_24 rfl rfl ?_
    refine p_icmp_lt 54 28 dX4_doneTogether_25 (by omega) (by omega) (by omega) (by omega) (fun h25 => ?_) (fun h25 => ?_)
    · refine p_iinc 57 dX4_doneTogether_54 rfl rfl rfl ?_
      dsimp only [List.set]
      refine p_goto 8 dX4_doneTogether_57 ?_
      have e := ih (i + 1) (by omega)
      first
        | (rw [ed, if_pos ⟨by omega, hyes⟩] at e; exact e)
        | (rw [ed, if_neg (fun g => hno g.2)] at e; exact e)
        | (rw [ed, if_neg (fun g => by have := g.1; omega)] at e; exact e)
    · refine p_aload_n 29 dX4_doneTogether_28 rfl rfl (by omega) ?_
      refine p_aload_n 30 dX4_doneTogether_29 rfl rfl (by omega) ?_
      refine p_getR (c + 17) 33 dX4_doneTogether_30 fX4_9 hc.tt3.1 (hc.wire3 hW).1 ?_
      refine p_iload 35 dX4_doneTogether_33 rfl ?_
      refine p_laldn (c + 18) 36 (i) dX4_doneTogether_35 hc.tt3.2.1 (by omega) (by omega) ?_
      rw [(hC.2.2.2.2.1 i (by omega)).1]
      refine p_iload_n 37 dX4_doneTogether_36 rfl rfl ?_
      refine p_callV2i (c + 17) 40 dX4_doneTogether_37 (s_isShown hc hW hC hR (sh := q_sg ρ i) (q_sg_bd hR (by omega)) hS) lk_X4_43 mX4_isShown hc.tt3.1 rfl (by decide) (Nat.le_of_ble_eq_true rfl) ?_
      rintro _ _ ⟨rfl, e9⟩
      have e9 := e9.symm
      subst e9
      refine p_if_eq 54 43 dX4_doneTogether_40 (by split <;> omega) (by split <;> omega) (fun h40 => ?_) (fun h40 => ?_)
      · have hno : ¬ q_shn ρ S i = true := by
          unfold q_shn
          by_cases g : q_all (fun o => !(S.testBit o && decide (q_sg ρ o = q_sg ρ i))) (q_n ρ 6) = true
          · rw [g]; decide
          · rw [if_neg g] at h40; exact absurd h40 (by decide)
        refine p_iinc 57 dX4_doneTogether_54 rfl rfl rfl ?_
        dsimp only [List.set]
        refine p_goto 8 dX4_doneTogether_57 ?_
        have e := ih (i + 1) (by omega)
        first
          | (rw [ed, if_pos ⟨by omega, hyes⟩] at e; exact e)
          | (rw [ed, if_neg (fun g => hno g.2)] at e; exact e)
          | (rw [ed, if_neg (fun g => by have := g.1; omega)] at e; exact e)
      · have hyes : q_shn ρ S i = true := by
          unfold q_shn
          by_cases g : q_all (fun o => !(S.testBit o && decide (q_sg ρ o = q_sg ρ i))) (q_n ρ 6) = true
          · rw [if_pos g] at h40; exact absurd rfl h40
          · rw [Bool.eq_false_iff.mpr g]; rfl
        refine p_aload_n 44 dX4_doneTogether_43 rfl rfl (by omega) ?_
        refine p_getR (c + 17) 47 dX4_doneTogether_44 fX4_18 hc.tt3.1 (hc.wire3 hW).2.2.1 ?_
        refine p_iload 49 dX4_doneTogether_47 rfl ?_
        refine p_ialdn (c + 20) 50 (i) dX4_doneTogether_49 hc.tt3.2.2.2.1 (by omega) (by omega) ?_
        rw [(hC.2.2.2.2.1 i (by omega)).2.2, er]
        refine p_istore_n 51 dX4_doneTogether_50 rfl (Nat.le_of_ble_eq_true rfl) rfl rfl ?_
        dsimp only [List.set]
        refine p_iload 53 dX4_doneTogether_51 rfl ?_
        refine p_istore_n 54 dX4_doneTogether_53 rfl (Nat.le_of_ble_eq_true rfl) rfl rfl ?_
        dsimp only [List.set]
        refine p_iinc 57 dX4_doneTogether_54 rfl rfl rfl ?_
        dsimp only [List.set]
        refine p_goto 8 dX4_doneTogether_57 ?_
        have e := ih (i + 1) (by omega)
        first
          | (rw [ed, if_pos ⟨by omega, hyes⟩] at e; exact e)
          | (rw [ed, if_neg (fun g => hno g.2)] at e; exact e)
          | (rw [ed, if_neg (fun g => by have := g.1; omega)] at e; exact e)
theorem s_doneTogether {l : Launch} {X : ZX} {M : ZM} {c : Nat} (hc : isC c) {ρ : Nat → Int} {h : Int} (hW : zWc M) (hC : ICc ρ h c M) (hR : wfR ρ) {S : Nat} (hS : S < 2147483648) : zCi l X 2 yX4_doneTogether tX4_doneTogether [zr ((c + 17 : Nat) : Int), zi (S : Int)] M (fun a M' => a = (q_tog ρ S (q_n ρ 6)).2 ∧ M' = M) := by
  refine zC.of [some (zr ((c + 17 : Nat) : Int)), some (zi (S : Int)), none, none, none] (by decide +kernel) rfl rfl (Nat.le_of_ble_eq_true rfl) rfl ?_
  refine p_bipush 2 dX4_doneTogether_0 rfl ?_
  refine p_istore_n 3 dX4_doneTogether_2 rfl (Nat.le_of_ble_eq_true rfl) rfl rfl ?_
  dsimp only [List.set]
  refine p_iconst 4 dX4_doneTogether_3 ?_
  refine p_istore_n 5 dX4_doneTogether_4 rfl (Nat.le_of_ble_eq_true rfl) rfl rfl ?_
  dsimp only [List.set]
  refine p_iconst 6 dX4_doneTogether_5 ?_
  refine p_istore 8 dX4_doneTogether_6 (Nat.le_of_ble_eq_true rfl) rfl rfl ?_
  dsimp only [List.set]
  exact l_doneTogether hc hW hC hR hS (q_n ρ 6) 0 (Nat.zero_add _)
/-- the first clash of an order with a later one; the first of all -/
def q_clp (ρ : Nat → Int) (o p : Nat) : Bool := decide (o < p) && decide (q_sg ρ o = q_sg ρ p) && decide (q_dd ρ o ≠ q_dd ρ p)
def q_cl (ρ : Nat → Int) (o : Nat) : Option Nat := q_first (q_clp ρ o) (q_n ρ 6)
def q_clash (ρ : Nat → Int) : Int := match q_first (fun o => (q_cl ρ o).isSome) (q_n ρ 6) with
  | some o => 10 * (o : Int) + ((q_cl ρ o).getD 0 : Nat)
  | none => -2
theorem q_clash_at {ρ : Nat → Int} {o p : Nat} (ho : o < q_n ρ 6) (hv : ∀ v, v < o → (q_cl ρ v).isSome = false) (h : q_cl ρ o = some p) : q_clash ρ = 10 * (o : Int) + (p : Int) := by
  unfold q_clash
  rw [q_first_is (p := fun o => (q_cl ρ o).isSome) ho (by show (q_cl ρ o).isSome = true; rw [h]; rfl) hv]
  show 10 * (o : Int) + (((q_cl ρ o).getD 0 : Nat) : Int) = _
  rw [h]
  rfl
theorem q_clash_none {ρ : Nat → Int} (hv : ∀ v, v < q_n ρ 6 → (q_cl ρ v).isSome = false) : q_clash ρ = -2 := by
  unfold q_clash
  cases hq : q_first (fun o => (q_cl ρ o).isSome) (q_n ρ 6) with
  | none => rfl
  | some w =>
    obtain ⟨a, b, -⟩ := q_first_some hq
    have b2 := (hv w a).symm.trans b
    cases b2
theorem l_clashI {l : Launch} {X : ZX} {M : ZM} {c : Nat} (hc : isC c) {ρ : Nat → Int} {h : Int} (hW : zWc M) (hC : ICc ρ h c M) (hR : wfR ρ) {o : Nat} (ho : (o : Int) < ρ 6) (hvo : ∀ v, v < o → (q_cl ρ v).isSome = false) (hQ : q_cl ρ o = none → zP l X 0 tX4_firstClash 67 [some (zr ((c + 17 : Nat) : Int)), some (zi (o : Int)), some (zi (q_n ρ 6 : Int))] [] M (fun r M' => ∃ a, r = some (zi a) ∧ (a = q_clash ρ ∧ M' = M))) : ∀ (j i : Nat), i + j = q_n ρ 6 → o < i → (∀ v, v < i → q_clp ρ o v = false) → zP l X 0 tX4_firstClash 14 [some (zr ((c + 17 : Nat) : Int)), some (zi (o : Int)), some (zi (i : Int))] [] M (fun r M' => ∃ a, r = some (zi a) ∧ (a = q_clash ρ ∧ M' = M)) := by
  have e6 : ρ 6 = (q_n ρ 6 : Int) := hR.n (by decide)
  have b6 := hR.2.1.2.2.2.2.2.2.1
  have e7 : ρ 7 = (q_n ρ 7 : Int) := hR.n (by decide)
  have b7 := hR.2.1.2.2.2.2.2.2.2
  have hcl := hc.lt
  intro j
  induction j with
  | zero =>
    intro i hi hoi hv
    refine p_iload_n 15 dX4_firstClash_14 rfl rfl ?_
    refine p_aload_n 16 dX4_firstClash_15 rfl rfl (by omega) ?_
    refine p_getI (c + 17) 19 dX4_firstClash_16 fX4_28 hc.tt3.1 ?_
    rw [hC.1.2.2.2.2.2.2.2.1]
    refine p_icmp_ge 67 22 dX4_firstClash_19 (by omega) (by omega) (by omega) (by omega) (fun h19 => ?_) (fun h19 => absurd (by omega) (fun h9 : False => h9))
    rw [Nat.add_zero] at hi
    subst hi
    refine hQ ?_
    cases hq : q_cl ρ o with
    | none => rfl
    | some w =>
      obtain ⟨a, b, -⟩ := q_first_some hq
      have b2 := (hv w a).symm.trans b
      cases b2
  | succ j ih =>
    intro i hi hoi hv
    refine p_iload_n 15 dX4_firstClash_14 rfl rfl ?_
    refine p_aload_n 16 dX4_firstClash_15 rfl rfl (by omega) ?_
    refine p_getI (c + 17) 19 dX4_firstClash_16 fX4_28 hc.tt3.1 ?_
    rw [hC.1.2.2.2.2.2.2.2.1]
    refine p_icmp_ge 67 22 dX4_firstClash_19 (by omega) (by omega) (by omega) (by omega) (fun h19 => absurd (by omega) (fun h9 : False => h9)) (fun h19 => ?_)
    refine p_aload_n 23 dX4_firstClash_22 rfl rfl (by omega) ?_
    refine p_getR (c + 17) 26 dX4_firstClash_23 fX4_9 hc.tt3.1 (hc.wire3 hW).1 ?_
    refine p_iload_n 27 dX4_firstClash_26 rfl rfl ?_
    refine p_laldn (c + 18) 28 (o) dX4_firstClash_27 hc.tt3.2.1 (by omega) (by omega) ?_
    rw [(hC.2.2.2.2.1 o (by omega)).1]
    refine p_aload_n 29 dX4_firstClash_28 rfl rfl (by omega) ?_
    refine p_getR (c + 17) 32 dX4_firstClash_29 fX4_9 hc.tt3.1 (hc.wire3 hW).1 ?_
    refine p_iload_n 33 dX4_firstClash_32 rfl rfl ?_
    refine p_laldn (c + 18) 34 (i) dX4_firstClash_33 hc.tt3.2.1 (by omega) (by omega) ?_
    rw [(hC.2.2.2.2.1 i (by omega)).1]
    have zc := z_lc (q_sg_bd hR (k := o) (by omega)) (q_sg_bd hR (k := i) (by omega))
    refine p_lcmp 35 dX4_firstClash_34 ?_
    refine p_if_ne 61 38 dX4_firstClash_35 (by omega) (by omega) (fun h35 => ?_) (fun h35 => ?_)
    · have hno : q_clp ρ o i = false := by
        unfold q_clp
        rw [decide_eq_false (p := q_sg ρ o = q_sg ρ i) (fun g => h35 (zc.1.mpr g))]
        simp
      refine p_iinc 64 dX4_firstClash_61 rfl rfl rfl ?_
      dsimp only [List.set]
      refine p_goto 14 dX4_firstClash_64 ?_
      refine ih (i + 1) (by omega) (by omega) (fun v hv2 => ?_)
      by_cases e : v = i
      · subst e; exact hno
      · exact hv v (by omega)
    · refine p_aload_n 39 dX4_firstClash_38 rfl rfl (by omega) ?_
      refine p_getR (c + 17) 42 dX4_firstClash_39 fX4_15 hc.tt3.1 (hc.wire3 hW).2.1 ?_
      refine p_iload_n 43 dX4_firstClash_42 rfl rfl ?_
      refine p_laldn (c + 19) 44 (o) dX4_firstClash_43 hc.tt3.2.2.1 (by omega) (by omega) ?_
      rw [(hC.2.2.2.2.1 o (by omega)).2.1]
      refine p_aload_n 45 dX4_firstClash_44 rfl rfl (by omega) ?_
      refine p_getR (c + 17) 48 dX4_firstClash_45 fX4_15 hc.tt3.1 (hc.wire3 hW).2.1 ?_
      refine p_iload_n 49 dX4_firstClash_48 rfl rfl ?_
      refine p_laldn (c + 19) 50 (i) dX4_firstClash_49 hc.tt3.2.2.1 (by omega) (by omega) ?_
      rw [(hC.2.2.2.2.1 i (by omega)).2.1]
      have zd := z_lc (q_dd_bd hR (k := o) (by omega)) (q_dd_bd hR (k := i) (by omega))
      refine p_lcmp 51 dX4_firstClash_50 ?_
      refine p_if_eq 61 54 dX4_firstClash_51 (by omega) (by omega) (fun h51 => ?_) (fun h51 => ?_)
      · have hno : q_clp ρ o i = false := by
          unfold q_clp
          rw [decide_eq_false (p := q_dd ρ o ≠ q_dd ρ i) (fun g => g (zd.1.mp h51)), Bool.and_false]
        refine p_iinc 64 dX4_firstClash_61 rfl rfl rfl ?_
        dsimp only [List.set]
        refine p_goto 14 dX4_firstClash_64 ?_
        refine ih (i + 1) (by omega) (by omega) (fun v hv2 => ?_)
        by_cases e : v = i
        · subst e; exact hno
        · exact hv v (by omega)
      · refine p_bipush 56 dX4_firstClash_54 rfl ?_
        refine p_iload_n 57 dX4_firstClash_56 rfl rfl ?_
        refine p_imul 58 dX4_firstClash_57 ?_
        refine p_iload_n 59 dX4_firstClash_58 rfl rfl ?_
        refine p_iadd 60 dX4_firstClash_59 ?_
        refine p_iret dX4_firstClash_60 rfl ?_
        refine ⟨_, rfl, ?_, rfl⟩
        have hy : q_clp ρ o i = true := by
          unfold q_clp
          rw [decide_eq_true (p := o < i) (by omega), decide_eq_true (p := q_sg ρ o = q_sg ρ i) (zc.1.mp (by omega)), decide_eq_true (p := q_dd ρ o ≠ q_dd ρ i) (fun g => h51 (zd.1.mpr g))]
          rfl
        rw [q_clash_at (by omega) hvo (q_first_is (by omega) hy hv)]
theorem l_firstClash {l : Launch} {X : ZX} {M : ZM} {c : Nat} (hc : isC c) {ρ : Nat → Int} {h : Int} (hW : zWc M) (hC : ICc ρ h c M) (hR : wfR ρ) : ∀ (j i : Nat), i + j = q_n ρ 6 → ∀ o2 : Option ZV, (∀ v, v < i → (q_cl ρ v).isSome = false) → zP l X 0 tX4_firstClash 2 [some (zr ((c + 17 : Nat) : Int)), some (zi (i : Int)), o2] [] M (fun r M' => ∃ a, r = some (zi a) ∧ (a = q_clash ρ ∧ M' = M)) := by
  have e6 : ρ 6 = (q_n ρ 6 : Int) := hR.n (by decide)
  have b6 := hR.2.1.2.2.2.2.2.2.1
  have e7 : ρ 7 = (q_n ρ 7 : Int) := hR.n (by decide)
  have b7 := hR.2.1.2.2.2.2.2.2.2
  have hcl := hc.lt
  intro j
  induction j with
  | zero =>
    intro i hi o2 hv
    refine p_iload_n 3 dX4_firstClash_2 rfl rfl ?_
    refine p_aload_n 4 dX4_firstClash_3 rfl rfl (by omega) ?_
    refine p_getI (c + 17) 7 dX4_firstClash_4 fX4_28 hc.tt3.1 ?_
    rw [hC.1.2.2.2.2.2.2.2.1]
    refine p_icmp_ge 73 10 dX4_firstClash_7 (by omega) (by omega) (by omega) (by omega) (fun h7 => ?_) (fun h7 => absurd (by omega) (fun h9 : False => h9))
    refine p_bipush 75 dX4_firstClash_73 rfl ?_
    refine p_iret dX4_firstClash_75 rfl ?_
    rw [Nat.add_zero] at hi
    subst hi
    exact ⟨_, rfl, (q_clash_none hv).symm, rfl⟩
  | succ j ih =>
    intro i hi o2 hv
    refine p_iload_n 3 dX4_firstClash_2 rfl rfl ?_
    refine p_aload_n 4 dX4_firstClash_3 rfl rfl (by omega) ?_
    refine p_getI (c + 17) 7 dX4_firstClash_4 fX4_28 hc.tt3.1 ?_
    rw [hC.1.2.2.2.2.2.2.2.1]
    refine p_icmp_ge 73 10 dX4_firstClash_7 (by omega) (by omega) (by omega) (by omega) (fun h7 => absurd (by omega) (fun h9 : False => h9)) (fun h7 => ?_)
    refine p_iload_n 11 dX4_firstClash_10 rfl rfl ?_
    refine p_iconst 12 dX4_firstClash_11 ?_
    refine p_iadd 13 dX4_firstClash_12 ?_
    refine p_istore_n 14 dX4_firstClash_13 rfl (Nat.le_of_ble_eq_true rfl) rfl rfl ?_
    dsimp only [List.set]
    refine l_clashI (l := l) (X := X) hc hW hC hR (o := i) (by omega) hv (fun hn => ?_) j (i + 1) (by omega) (by omega) (fun v hv2 => ?_)
    · refine p_iinc 70 dX4_firstClash_67 rfl rfl rfl ?_
      dsimp only [List.set]
      refine p_goto 2 dX4_firstClash_70 ?_
      refine ih (i + 1) (by omega) _ (fun v hv2 => ?_)
      by_cases e : v = i
      · subst e; rw [hn]; rfl
      · exact hv v (by omega)
    · unfold q_clp
      rw [decide_eq_false (p := i < v) (by omega)]
      rfl
theorem s_firstClash {l : Launch} {X : ZX} {M : ZM} {c : Nat} (hc : isC c) {ρ : Nat → Int} {h : Int} (hW : zWc M) (hC : ICc ρ h c M) (hR : wfR ρ) : zCi l X 0 yX4_firstClash tX4_firstClash [zr ((c + 17 : Nat) : Int)] M (fun a M' => a = q_clash ρ ∧ M' = M) := by
  refine zC.of [some (zr ((c + 17 : Nat) : Int)), none, none] (by decide +kernel) rfl rfl (Nat.le_of_ble_eq_true rfl) rfl ?_
  refine p_iconst 1 dX4_firstClash_0 ?_
  refine p_istore_n 2 dX4_firstClash_1 rfl (Nat.le_of_ble_eq_true rfl) rfl rfl ?_
  dsimp only [List.set]
  exact l_firstClash hc hW hC hR (q_n ρ 6) 0 (Nat.zero_add _) none (fun v hv => absurd hv (by omega))
