theorem z_ior_set (p : Nat → Bool) {i : Nat} (hi : i < 30) : z_ior (q_set p i : Int) ((2 ^ i : Nat) : Int) = ((q_set p i ||| 2 ^ i : Nat) : Int) := by
  have h1 := q_set_lt p i
  have h2 : 2 ^ i < 2 ^ 31 := Nat.pow_lt_pow_right (by decide) (by omega)
  exact z_ior_n _ _ (by omega) h2
theorem z_and_bit (a : Nat) {i : Nat} (hi : i < 31) (ha : a < 2147483648) : z_iand (a : Int) ((2 ^ i : Nat) : Int) = if a.testBit i then ((2 ^ i : Nat) : Int) else 0 := by
  have h2 : 2 ^ i < 2 ^ 31 := Nat.pow_lt_pow_right (by decide) hi
  have e : a &&& 2 ^ i = if a.testBit i then 2 ^ i else 0 := by
    apply Nat.eq_of_testBit_eq
    intro j
    rw [Nat.testBit_and, Nat.testBit_two_pow]
    by_cases hj : i = j
    · subst hj
      cases hb : a.testBit i <;> simp
    · cases hb : a.testBit i <;> simp [hj]
  rw [z_iand_n a _ ha h2, e]
  cases a.testBit i <;> simp
theorem wfR.n {ρ : Nat → Int} (h : wfR ρ) {i : Nat} (hi : i < 421) : ρ i = (q_n ρ i : Int) := (Int.toNat_of_nonneg (h.1 i hi)).symm
theorem q_any_mono {r : Nat → Nat} {S m n : Nat} (h : m ≤ n) (ha : q_any r S m = true) : q_any r S n = true := by
  induction n with
  | zero => rw [Nat.le_zero.mp h] at ha; exact ha
  | succ n ih =>
    by_cases e : m = n + 1
    · rw [← e]; exact ha
    · unfold q_any
      rw [ih (by omega)]
      rfl
theorem s_weight_2 {l : Launch} {X : ZX} {M : ZM} {ρ : Nat → Int} {h : Int} (hW : zWc M) (hC : ICc ρ h 2 M) (hR : wfR ρ) {s : Nat} (hs : (s : Int) < ρ 2) : zCi l X 0 yX8_weight tX8_weight [zr 3, zi (s : Int)] M (fun a M' => a = (q_wt (q_n ρ) s : Int) ∧ M' = M) := by
  obtain ⟨hk, hh, hf⟩ := hC.2.1 s hs
  have hs7 : s < 7 := by have := hR.2.1.2.2.1; omega
  obtain ⟨b1, b2, b3⟩ := hR.2.2.1 s hs7
  have n1 := hR.1 (8 + 3 * s) (by omega)
  have n2 := hR.1 (8 + 3 * s + 1) (by omega)
  have n3 := hR.1 (8 + 3 * s + 2) (by omega)
  have hk : M 5 s = ρ (8 + 3 * s) := hk
  have hh : M 6 s = ρ (8 + 3 * s + 1) := hh
  have hf : M 7 s = ρ (8 + 3 * s + 2) := hf
  refine zC.of [some (zr 3), some (zi (s : Int))] (by decide +kernel) rfl rfl (Nat.le_of_ble_eq_true rfl) rfl ?_
  refine p_aload_n 1 dX8_weight_0 rfl rfl (by decide) ?_
  refine p_getR 3 4 dX8_weight_1 fX8_15 rfl (hW (3, 2, 5) (by decide)) ?_
  refine p_iload_n 5 dX8_weight_4 rfl rfl ?_
  refine p_iald 5 6 dX8_weight_5 rfl (by omega) (by omega) ?_
  try simp only [Int.toNat_natCast, Int.reduceToNat]
  rw [hk]
  have hsw6 : ρ (8 + 3 * s) = 0 ∨ ρ (8 + 3 * s) = 1 ∨ ρ (8 + 3 * s) = 2 ∨ ρ (8 + 3 * s) = 3 := by omega
  rcases hsw6 with hs6 | hs6 | hs6 | hs6
  · refine p_lookJ (off := 44) 0 50 dX8_weight_6 hs6 (by decide) (by decide) ?_
    refine p_aload_n 51 dX8_weight_50 rfl rfl (by decide) ?_
    refine p_getR 3 54 dX8_weight_51 fX8_22 rfl (hW (3, 4, 7) (by decide)) ?_
    refine p_iload_n 55 dX8_weight_54 rfl rfl ?_
    refine p_iald 7 56 dX8_weight_55 rfl (by omega) (by omega) ?_
    try simp only [Int.toNat_natCast, Int.reduceToNat]
    refine p_iret dX8_weight_56 rfl ?_
    refine ⟨_, rfl, ?_, rfl⟩
    unfold q_wt q_n
    rw [hf]
    rw [if_neg (by omega), if_neg (by omega)]
    omega
  · refine p_lookJ (off := 26) 1 32 dX8_weight_6 hs6 (by decide) (by decide) ?_
    refine p_iconst 33 dX8_weight_32 ?_
    refine p_aload_n 34 dX8_weight_33 rfl rfl (by decide) ?_
    refine p_getR 3 37 dX8_weight_34 fX8_22 rfl (hW (3, 4, 7) (by decide)) ?_
    refine p_iload_n 38 dX8_weight_37 rfl rfl ?_
    refine p_iald 7 39 dX8_weight_38 rfl (by omega) (by omega) ?_
    try simp only [Int.toNat_natCast, Int.reduceToNat]
    refine p_imul 40 dX8_weight_39 ?_
    refine p_iret dX8_weight_40 rfl ?_
    refine ⟨_, rfl, ?_, rfl⟩
    unfold q_wt q_n
    rw [hf]
    rw [if_pos (by omega)]
    omega
  · refine p_lookJ (off := 35) 2 41 dX8_weight_6 hs6 (by decide) (by decide) ?_
    refine p_aload_n 42 dX8_weight_41 rfl rfl (by decide) ?_
    refine p_getR 3 45 dX8_weight_42 fX8_22 rfl (hW (3, 4, 7) (by decide)) ?_
    refine p_iload_n 46 dX8_weight_45 rfl rfl ?_
    refine p_iald 7 47 dX8_weight_46 rfl (by omega) (by omega) ?_
    try simp only [Int.toNat_natCast, Int.reduceToNat]
    refine p_iconst 48 dX8_weight_47 ?_
    refine p_idiv 49 dX8_weight_48 (by decide) ?_
    refine p_iret dX8_weight_49 rfl ?_
    refine ⟨_, rfl, ?_, rfl⟩
    unfold q_wt q_n
    rw [hf]
    rw [if_neg (by omega), if_pos (by omega)]
    have h2 := z_idiv_n (ρ (8 + 3 * s + 2)).toNat 2 (by omega) (by decide)
    rw [Int.toNat_of_nonneg n3] at h2
    exact h2
  · refine p_lookJ (off := 44) 3 50 dX8_weight_6 hs6 (by decide) (by decide) ?_
    refine p_aload_n 51 dX8_weight_50 rfl rfl (by decide) ?_
    refine p_getR 3 54 dX8_weight_51 fX8_22 rfl (hW (3, 4, 7) (by decide)) ?_
    refine p_iload_n 55 dX8_weight_54 rfl rfl ?_
    refine p_iald 7 56 dX8_weight_55 rfl (by omega) (by omega) ?_
    try simp only [Int.toNat_natCast, Int.reduceToNat]
    refine p_iret dX8_weight_56 rfl ?_
    refine ⟨_, rfl, ?_, rfl⟩
    unfold q_wt q_n
    rw [hf]
    rw [if_neg (by omega), if_neg (by omega)]
    omega
theorem l_anySheep_2 {l : Launch} {X : ZX} {M : ZM} {ρ : Nat → Int} {h : Int} (hW : zWc M) (hC : ICc ρ h 2 M) (hR : wfR ρ) {S : Nat} (hS : S < 2147483648) : ∀ (j i : Nat), i + j = q_n ρ 2 → q_any (q_n ρ) S i = false → zP l X 1 tX8_anySheep 2 [some (zr 3), some (zi (S : Int)), some (zi (i : Int))] [] M (fun r M' => ∃ a, r = some (zi a) ∧ (a = (if q_any (q_n ρ) S (q_n ρ 2) = true then 1 else 0) ∧ M' = M)) := by
  have n2 := hR.1 2 (by decide)
  have hct : M 3 0 = ρ 2 := hC.1.2.2.2.1
  have e2 : ρ 2 = (q_n ρ 2 : Int) := hR.n (by decide)
  have b2 := hR.2.1.2.2.1
  intro j
  induction j with
  | zero =>
    intro i hi0 ha
    rw [Nat.add_zero] at hi0
    refine p_iload_n 3 dX8_anySheep_2 rfl rfl ?_
    refine p_aload_n 4 dX8_anySheep_3 rfl rfl (by decide) ?_
    refine p_getI 3 7 dX8_anySheep_4 fX8_25 rfl ?_
    rw [hct]
    refine p_icmp_ge 37 10 dX8_anySheep_7 (by omega) (by omega) (by omega) (by omega) (fun h7 => ?_) (fun h7 => absurd (by omega) (fun h9 : False => h9))
    refine p_iconst 38 dX8_anySheep_37 ?_
    refine p_zret dX8_anySheep_38 rfl (by decide) ?_
    exact ⟨0, rfl, by rw [← hi0, ha, if_neg (by decide)], rfl⟩
  | succ j ih =>
    intro i hi ha
    obtain ⟨hk, -, -⟩ := hC.2.1 i (by omega)
    have hk : M 5 i = ρ (8 + 3 * i) := hk
    obtain ⟨k3, -, -⟩ := hR.2.2.1 i (by omega)
    have k0 := hR.1 (8 + 3 * i) (by omega)
    have hp7 : 2 ^ i ≤ 2 ^ 7 := Nat.pow_le_pow_right (by decide) (by omega)
    have hp0 : (0 : Int) ≤ ((2 ^ i : Nat) : Int) := Int.natCast_nonneg _
    refine p_iload_n 3 dX8_anySheep_2 rfl rfl ?_
    refine p_aload_n 4 dX8_anySheep_3 rfl rfl (by decide) ?_
    refine p_getI 3 7 dX8_anySheep_4 fX8_25 rfl ?_
    rw [hct]
    refine p_icmp_ge 37 10 dX8_anySheep_7 (by omega) (by omega) (by omega) (by omega) (fun h7 => absurd (by omega) (fun h9 : False => h9)) (fun h7 => ?_)
    refine p_aload_n 11 dX8_anySheep_10 rfl rfl (by decide) ?_
    refine p_getR 3 14 dX8_anySheep_11 fX8_15 rfl (hW (3, 2, 5) (by decide)) ?_
    refine p_iload_n 15 dX8_anySheep_14 rfl rfl ?_
    refine p_iald 5 16 dX8_anySheep_15 rfl (by omega) (by omega) ?_
    try simp only [Int.toNat_natCast, Int.reduceToNat]
    refine p_iconst 17 dX8_anySheep_16 ?_
    rw [hk]
    refine p_icmp_ne 31 20 dX8_anySheep_17 (by omega) (by omega) (by omega) (by omega) (fun h17 => ?_) (fun h17 => ?_)
    · refine p_iinc 34 dX8_anySheep_31 rfl rfl rfl ?_
      dsimp only [List.set]
      refine p_goto 2 dX8_anySheep_34 ?_
      refine ih (i + 1) (by omega) ?_
      unfold q_any
      rw [ha]
      first
        | (rw [show decide (q_n ρ (8 + 3 * i) = 3) = false from decide_eq_false (by unfold q_n; omega)]; rfl)
        | (have hb : S.testBit i = false := by
            cases hb : S.testBit i
            · rfl
            · rw [hb, if_pos rfl] at h26
              have := Nat.two_pow_pos i
              omega
           rw [hb]; simp)
    · refine p_iload_n 21 dX8_anySheep_20 rfl rfl ?_
      refine p_iload_n 22 dX8_anySheep_21 rfl rfl ?_
      refine p_callN1i 25 dX8_anySheep_22 (s_bit (i := i) (by omega)) ln_X8_29 mX11_bit (by decide) (Nat.le_of_ble_eq_true rfl) ?_
      rintro _ _ ⟨rfl, rfl⟩
      refine p_iand 26 dX8_anySheep_25 ?_
      rw [z_and_bit S (by omega) hS]
      refine p_if_eq 31 29 dX8_anySheep_26 (by split <;> omega) (by split <;> omega) (fun h26 => ?_) (fun h26 => ?_)
      · refine p_iinc 34 dX8_anySheep_31 rfl rfl rfl ?_
        dsimp only [List.set]
        refine p_goto 2 dX8_anySheep_34 ?_
        refine ih (i + 1) (by omega) ?_
        unfold q_any
        rw [ha]
        first
          | (rw [show decide (q_n ρ (8 + 3 * i) = 3) = false from decide_eq_false (by unfold q_n; omega)]; rfl)
          | (have hb : S.testBit i = false := by
              cases hb : S.testBit i
              · rfl
              · rw [hb, if_pos rfl] at h26
                have := Nat.two_pow_pos i
                omega
             rw [hb]; simp)
      · refine p_iconst 30 dX8_anySheep_29 ?_
        refine p_zret dX8_anySheep_30 rfl (by decide) ?_
        refine ⟨1, rfl, ?_, rfl⟩
        have hb : S.testBit i = true := by
          by_cases hb : S.testBit i = true
          · exact hb
          · rw [if_neg hb] at h26; exact absurd rfl h26
        have hat : q_any (q_n ρ) S (i + 1) = true := by
          unfold q_any
          rw [hb, show q_n ρ (8 + 3 * i) = 3 by unfold q_n; omega]
          simp
        rw [if_pos (q_any_mono (by omega) hat)]
theorem s_anySheep_2 {l : Launch} {X : ZX} {M : ZM} {ρ : Nat → Int} {h : Int} (hW : zWc M) (hC : ICc ρ h 2 M) (hR : wfR ρ) {S : Nat} (hS : S < 2147483648) : zCi l X 1 yX8_anySheep tX8_anySheep [zr 3, zi (S : Int)] M (fun a M' => a = (if q_any (q_n ρ) S (q_n ρ 2) = true then 1 else 0) ∧ M' = M) := by
  refine zC.of [some (zr 3), some (zi (S : Int)), none] (by decide +kernel) rfl rfl (Nat.le_of_ble_eq_true rfl) rfl ?_
  refine p_iconst 1 dX8_anySheep_0 ?_
  refine p_istore_n 2 dX8_anySheep_1 rfl (Nat.le_of_ble_eq_true rfl) rfl rfl ?_
  dsimp only [List.set]
  exact l_anySheep_2 hW hC hR hS (q_n ρ 2) 0 (Nat.zero_add _) rfl
theorem s_weight_25 {l : Launch} {X : ZX} {M : ZM} {ρ : Nat → Int} {h : Int} (hW : zWc M) (hC : ICc ρ h 25 M) (hR : wfR ρ) {s : Nat} (hs : (s : Int) < ρ 2) : zCi l X 0 yX8_weight tX8_weight [zr 26, zi (s : Int)] M (fun a M' => a = (q_wt (q_n ρ) s : Int) ∧ M' = M) := by
  obtain ⟨hk, hh, hf⟩ := hC.2.1 s hs
  have hs7 : s < 7 := by have := hR.2.1.2.2.1; omega
  obtain ⟨b1, b2, b3⟩ := hR.2.2.1 s hs7
  have n1 := hR.1 (8 + 3 * s) (by omega)
  have n2 := hR.1 (8 + 3 * s + 1) (by omega)
  have n3 := hR.1 (8 + 3 * s + 2) (by omega)
  have hk : M 28 s = ρ (8 + 3 * s) := hk
  have hh : M 29 s = ρ (8 + 3 * s + 1) := hh
  have hf : M 30 s = ρ (8 + 3 * s + 2) := hf
  refine zC.of [some (zr 26), some (zi (s : Int))] (by decide +kernel) rfl rfl (Nat.le_of_ble_eq_true rfl) rfl ?_
  refine p_aload_n 1 dX8_weight_0 rfl rfl (by decide) ?_
  refine p_getR 26 4 dX8_weight_1 fX8_15 rfl (hW (26, 2, 28) (by decide)) ?_
  refine p_iload_n 5 dX8_weight_4 rfl rfl ?_
  refine p_iald 28 6 dX8_weight_5 rfl (by omega) (by omega) ?_
  try simp only [Int.toNat_natCast, Int.reduceToNat]
  rw [hk]
  have hsw6 : ρ (8 + 3 * s) = 0 ∨ ρ (8 + 3 * s) = 1 ∨ ρ (8 + 3 * s) = 2 ∨ ρ (8 + 3 * s) = 3 := by omega
  rcases hsw6 with hs6 | hs6 | hs6 | hs6
  · refine p_lookJ (off := 44) 0 50 dX8_weight_6 hs6 (by decide) (by decide) ?_
    refine p_aload_n 51 dX8_weight_50 rfl rfl (by decide) ?_
    refine p_getR 26 54 dX8_weight_51 fX8_22 rfl (hW (26, 4, 30) (by decide)) ?_
    refine p_iload_n 55 dX8_weight_54 rfl rfl ?_
    refine p_iald 30 56 dX8_weight_55 rfl (by omega) (by omega) ?_
    try simp only [Int.toNat_natCast, Int.reduceToNat]
    refine p_iret dX8_weight_56 rfl ?_
    refine ⟨_, rfl, ?_, rfl⟩
    unfold q_wt q_n
    rw [hf]
    rw [if_neg (by omega), if_neg (by omega)]
    omega
  · refine p_lookJ (off := 26) 1 32 dX8_weight_6 hs6 (by decide) (by decide) ?_
    refine p_iconst 33 dX8_weight_32 ?_
    refine p_aload_n 34 dX8_weight_33 rfl rfl (by decide) ?_
    refine p_getR 26 37 dX8_weight_34 fX8_22 rfl (hW (26, 4, 30) (by decide)) ?_
    refine p_iload_n 38 dX8_weight_37 rfl rfl ?_
    refine p_iald 30 39 dX8_weight_38 rfl (by omega) (by omega) ?_
    try simp only [Int.toNat_natCast, Int.reduceToNat]
    refine p_imul 40 dX8_weight_39 ?_
    refine p_iret dX8_weight_40 rfl ?_
    refine ⟨_, rfl, ?_, rfl⟩
    unfold q_wt q_n
    rw [hf]
    rw [if_pos (by omega)]
    omega
  · refine p_lookJ (off := 35) 2 41 dX8_weight_6 hs6 (by decide) (by decide) ?_
    refine p_aload_n 42 dX8_weight_41 rfl rfl (by decide) ?_
    refine p_getR 26 45 dX8_weight_42 fX8_22 rfl (hW (26, 4, 30) (by decide)) ?_
    refine p_iload_n 46 dX8_weight_45 rfl rfl ?_
    refine p_iald 30 47 dX8_weight_46 rfl (by omega) (by omega) ?_
    try simp only [Int.toNat_natCast, Int.reduceToNat]
    refine p_iconst 48 dX8_weight_47 ?_
    refine p_idiv 49 dX8_weight_48 (by decide) ?_
    refine p_iret dX8_weight_49 rfl ?_
    refine ⟨_, rfl, ?_, rfl⟩
    unfold q_wt q_n
    rw [hf]
    rw [if_neg (by omega), if_pos (by omega)]
    have h2 := z_idiv_n (ρ (8 + 3 * s + 2)).toNat 2 (by omega) (by decide)
    rw [Int.toNat_of_nonneg n3] at h2
    exact h2
  · refine p_lookJ (off := 44) 3 50 dX8_weight_6 hs6 (by decide) (by decide) ?_
    refine p_aload_n 51 dX8_weight_50 rfl rfl (by decide) ?_
    refine p_getR 26 54 dX8_weight_51 fX8_22 rfl (hW (26, 4, 30) (by decide)) ?_
    refine p_iload_n 55 dX8_weight_54 rfl rfl ?_
    refine p_iald 30 56 dX8_weight_55 rfl (by omega) (by omega) ?_
    try simp only [Int.toNat_natCast, Int.reduceToNat]
    refine p_iret dX8_weight_56 rfl ?_
    refine ⟨_, rfl, ?_, rfl⟩
    unfold q_wt q_n
    rw [hf]
    rw [if_neg (by omega), if_neg (by omega)]
    omega
theorem l_anySheep_25 {l : Launch} {X : ZX} {M : ZM} {ρ : Nat → Int} {h : Int} (hW : zWc M) (hC : ICc ρ h 25 M) (hR : wfR ρ) {S : Nat} (hS : S < 2147483648) : ∀ (j i : Nat), i + j = q_n ρ 2 → q_any (q_n ρ) S i = false → zP l X 1 tX8_anySheep 2 [some (zr 26), some (zi (S : Int)), some (zi (i : Int))] [] M (fun r M' => ∃ a, r = some (zi a) ∧ (a = (if q_any (q_n ρ) S (q_n ρ 2) = true then 1 else 0) ∧ M' = M)) := by
  have n2 := hR.1 2 (by decide)
  have hct : M 26 0 = ρ 2 := hC.1.2.2.2.1
  have e2 : ρ 2 = (q_n ρ 2 : Int) := hR.n (by decide)
  have b2 := hR.2.1.2.2.1
  intro j
  induction j with
  | zero =>
    intro i hi0 ha
    rw [Nat.add_zero] at hi0
    refine p_iload_n 3 dX8_anySheep_2 rfl rfl ?_
    refine p_aload_n 4 dX8_anySheep_3 rfl rfl (by decide) ?_
    refine p_getI 26 7 dX8_anySheep_4 fX8_25 rfl ?_
    rw [hct]
    refine p_icmp_ge 37 10 dX8_anySheep_7 (by omega) (by omega) (by omega) (by omega) (fun h7 => ?_) (fun h7 => absurd (by omega) (fun h9 : False => h9))
    refine p_iconst 38 dX8_anySheep_37 ?_
    refine p_zret dX8_anySheep_38 rfl (by decide) ?_
    exact ⟨0, rfl, by rw [← hi0, ha, if_neg (by decide)], rfl⟩
  | succ j ih =>
    intro i hi ha
    obtain ⟨hk, -, -⟩ := hC.2.1 i (by omega)
    have hk : M 28 i = ρ (8 + 3 * i) := hk
    obtain ⟨k3, -, -⟩ := hR.2.2.1 i (by omega)
    have k0 := hR.1 (8 + 3 * i) (by omega)
    have hp7 : 2 ^ i ≤ 2 ^ 7 := Nat.pow_le_pow_right (by decide) (by omega)
    have hp0 : (0 : Int) ≤ ((2 ^ i : Nat) : Int) := Int.natCast_nonneg _
    refine p_iload_n 3 dX8_anySheep_2 rfl rfl ?_
    refine p_aload_n 4 dX8_anySheep_3 rfl rfl (by decide) ?_
    refine p_getI 26 7 dX8_anySheep_4 fX8_25 rfl ?_
    rw [hct]
    refine p_icmp_ge 37 10 dX8_anySheep_7 (by omega) (by omega) (by omega) (by omega) (fun h7 => absurd (by omega) (fun h9 : False => h9)) (fun h7 => ?_)
    refine p_aload_n 11 dX8_anySheep_10 rfl rfl (by decide) ?_
    refine p_getR 26 14 dX8_anySheep_11 fX8_15 rfl (hW (26, 2, 28) (by decide)) ?_
    refine p_iload_n 15 dX8_anySheep_14 rfl rfl ?_
    refine p_iald 28 16 dX8_anySheep_15 rfl (by omega) (by omega) ?_
    try simp only [Int.toNat_natCast, Int.reduceToNat]
    refine p_iconst 17 dX8_anySheep_16 ?_
    rw [hk]
    refine p_icmp_ne 31 20 dX8_anySheep_17 (by omega) (by omega) (by omega) (by omega) (fun h17 => ?_) (fun h17 => ?_)
    · refine p_iinc 34 dX8_anySheep_31 rfl rfl rfl ?_
      dsimp only [List.set]
      refine p_goto 2 dX8_anySheep_34 ?_
      refine ih (i + 1) (by omega) ?_
      unfold q_any
      rw [ha]
      first
        | (rw [show decide (q_n ρ (8 + 3 * i) = 3) = false from decide_eq_false (by unfold q_n; omega)]; rfl)
        | (have hb : S.testBit i = false := by
            cases hb : S.testBit i
            · rfl
            · rw [hb, if_pos rfl] at h26
              have := Nat.two_pow_pos i
              omega
           rw [hb]; simp)
    · refine p_iload_n 21 dX8_anySheep_20 rfl rfl ?_
      refine p_iload_n 22 dX8_anySheep_21 rfl rfl ?_
      refine p_callN1i 25 dX8_anySheep_22 (s_bit (i := i) (by omega)) ln_X8_29 mX11_bit (by decide) (Nat.le_of_ble_eq_true rfl) ?_
      rintro _ _ ⟨rfl, rfl⟩
      refine p_iand 26 dX8_anySheep_25 ?_
      rw [z_and_bit S (by omega) hS]
      refine p_if_eq 31 29 dX8_anySheep_26 (by split <;> omega) (by split <;> omega) (fun h26 => ?_) (fun h26 => ?_)
      · refine p_iinc 34 dX8_anySheep_31 rfl rfl rfl ?_
        dsimp only [List.set]
        refine p_goto 2 dX8_anySheep_34 ?_
        refine ih (i + 1) (by omega) ?_
        unfold q_any
        rw [ha]
        first
          | (rw [show decide (q_n ρ (8 + 3 * i) = 3) = false from decide_eq_false (by unfold q_n; omega)]; rfl)
          | (have hb : S.testBit i = false := by
              cases hb : S.testBit i
              · rfl
              · rw [hb, if_pos rfl] at h26
                have := Nat.two_pow_pos i
                omega
             rw [hb]; simp)
      · refine p_iconst 30 dX8_anySheep_29 ?_
        refine p_zret dX8_anySheep_30 rfl (by decide) ?_
        refine ⟨1, rfl, ?_, rfl⟩
        have hb : S.testBit i = true := by
          by_cases hb : S.testBit i = true
          · exact hb
          · rw [if_neg hb] at h26; exact absurd rfl h26
        have hat : q_any (q_n ρ) S (i + 1) = true := by
          unfold q_any
          rw [hb, show q_n ρ (8 + 3 * i) = 3 by unfold q_n; omega]
          simp
        rw [if_pos (q_any_mono (by omega) hat)]
theorem s_anySheep_25 {l : Launch} {X : ZX} {M : ZM} {ρ : Nat → Int} {h : Int} (hW : zWc M) (hC : ICc ρ h 25 M) (hR : wfR ρ) {S : Nat} (hS : S < 2147483648) : zCi l X 1 yX8_anySheep tX8_anySheep [zr 26, zi (S : Int)] M (fun a M' => a = (if q_any (q_n ρ) S (q_n ρ 2) = true then 1 else 0) ∧ M' = M) := by
  refine zC.of [some (zr 26), some (zi (S : Int)), none] (by decide +kernel) rfl rfl (Nat.le_of_ble_eq_true rfl) rfl ?_
  refine p_iconst 1 dX8_anySheep_0 ?_
  refine p_istore_n 2 dX8_anySheep_1 rfl (Nat.le_of_ble_eq_true rfl) rfl rfl ?_
  dsimp only [List.set]
  exact l_anySheep_25 hW hC hR hS (q_n ρ 2) 0 (Nat.zero_add _) rfl
