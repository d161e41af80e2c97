theorem wfT.said {ρ τ : Nat → Int} (hT : wfT ρ τ) (hR : wfR ρ) : (τ 14).toNat < 128 := by
  have b4 := hR.2.1.2.2.2.2.1
  have n4 := hR.1 4 (by decide)
  have h := hT.2.2.1
  have h2 : 2 ^ (ρ 4).toNat ≤ 2 ^ 7 := Nat.pow_le_pow_right (by decide) (by omega)
  have h3 : ((2 ^ (ρ 4).toNat : Nat) : Int) ≤ ((2 ^ 7 : Nat) : Int) := by exact_mod_cast h2
  have h4 : (2 : Int) ^ (ρ 4).toNat = ((2 ^ (ρ 4).toNat : Nat) : Int) := by push_cast; rfl
  rw [h4] at h
  omega
theorem s_bitCount {l : Launch} {X : ZX} {M : ZM} {S : Nat} (hS : S < 128) : zCi l X 0 yJ6_bitCount_0f7a4 tJ6_bitCount_0f7a4 [zi (S : Int)] M (fun a M' => a = (q_cntp (fun k => S.testBit k) 8 : Int) ∧ M' = M) := by
  refine zC.of [some (zi (S : Int))] (by decide +kernel) rfl rfl (Nat.le_of_ble_eq_true rfl) rfl ?_
  refine p_iload_n 1 dJ6_bitCount_0f7a4_0 rfl rfl ?_
  refine p_iload_n 2 dJ6_bitCount_0f7a4_1 rfl rfl ?_
  refine p_iconst 3 dJ6_bitCount_0f7a4_2 ?_
  refine p_iushr 4 dJ6_bitCount_0f7a4_3 ?_
  refine p_ldcw (z := 1431655765) 7 dJ6_bitCount_0f7a4_4 kk_J6_265 rfl ?_
  refine p_iand 8 dJ6_bitCount_0f7a4_7 ?_
  refine p_isub 9 dJ6_bitCount_0f7a4_8 ?_
  refine p_istore_n 10 dJ6_bitCount_0f7a4_9 rfl (Nat.le_of_ble_eq_true rfl) rfl rfl ?_
  dsimp only [List.set]
  refine p_iload_n 11 dJ6_bitCount_0f7a4_10 rfl rfl ?_
  refine p_ldcw (z := 858993459) 14 dJ6_bitCount_0f7a4_11 kk_J6_266 rfl ?_
  refine p_iand 15 dJ6_bitCount_0f7a4_14 ?_
  refine p_iload_n 16 dJ6_bitCount_0f7a4_15 rfl rfl ?_
  refine p_iconst 17 dJ6_bitCount_0f7a4_16 ?_
  refine p_iushr 18 dJ6_bitCount_0f7a4_17 ?_
  refine p_ldcw (z := 858993459) 21 dJ6_bitCount_0f7a4_18 kk_J6_266 rfl ?_
  refine p_iand 22 dJ6_bitCount_0f7a4_21 ?_
  refine p_iadd 23 dJ6_bitCount_0f7a4_22 ?_
  refine p_istore_n 24 dJ6_bitCount_0f7a4_23 rfl (Nat.le_of_ble_eq_true rfl) rfl rfl ?_
  dsimp only [List.set]
  refine p_iload_n 25 dJ6_bitCount_0f7a4_24 rfl rfl ?_
  refine p_iload_n 26 dJ6_bitCount_0f7a4_25 rfl rfl ?_
  refine p_iconst 27 dJ6_bitCount_0f7a4_26 ?_
  refine p_iushr 28 dJ6_bitCount_0f7a4_27 ?_
  refine p_iadd 29 dJ6_bitCount_0f7a4_28 ?_
  refine p_ldcw (z := 252645135) 32 dJ6_bitCount_0f7a4_29 kk_J6_267 rfl ?_
  refine p_iand 33 dJ6_bitCount_0f7a4_32 ?_
  refine p_istore_n 34 dJ6_bitCount_0f7a4_33 rfl (Nat.le_of_ble_eq_true rfl) rfl rfl ?_
  dsimp only [List.set]
  refine p_iload_n 35 dJ6_bitCount_0f7a4_34 rfl rfl ?_
  refine p_iload_n 36 dJ6_bitCount_0f7a4_35 rfl rfl ?_
  refine p_bipush 38 dJ6_bitCount_0f7a4_36 rfl ?_
  refine p_iushr 39 dJ6_bitCount_0f7a4_38 ?_
  refine p_iadd 40 dJ6_bitCount_0f7a4_39 ?_
  refine p_istore_n 41 dJ6_bitCount_0f7a4_40 rfl (Nat.le_of_ble_eq_true rfl) rfl rfl ?_
  dsimp only [List.set]
  refine p_iload_n 42 dJ6_bitCount_0f7a4_41 rfl rfl ?_
  refine p_iload_n 43 dJ6_bitCount_0f7a4_42 rfl rfl ?_
  refine p_bipush 45 dJ6_bitCount_0f7a4_43 rfl ?_
  refine p_iushr 46 dJ6_bitCount_0f7a4_45 ?_
  refine p_iadd 47 dJ6_bitCount_0f7a4_46 ?_
  refine p_istore_n 48 dJ6_bitCount_0f7a4_47 rfl (Nat.le_of_ble_eq_true rfl) rfl rfl ?_
  dsimp only [List.set]
  refine p_iload_n 49 dJ6_bitCount_0f7a4_48 rfl rfl ?_
  refine p_bipush 51 dJ6_bitCount_0f7a4_49 rfl ?_
  refine p_iand 52 dJ6_bitCount_0f7a4_51 ?_
  refine p_iret dJ6_bitCount_0f7a4_52 rfl ?_
  refine ⟨_, rfl, ?_, rfl⟩
  revert hS
  revert S
  decide +kernel
/-- the lowest of a set -/
def q_ntz (S : Nat) : Nat := (q_first (fun k => S.testBit k) 7).getD 32
theorem q_ntz_x : ∀ S : Nat, S < 128 → S ≠ 0 → (q_ntz S < 7 ∧ z_iand (z_ixor (S : Int) (-1)) ((S : Int) - 1) = ((2 ^ q_ntz S - 1 : Nat) : Int)) := by decide +kernel
theorem s_ntz {l : Launch} {X : ZX} {M : ZM} {S : Nat} (hS : S < 128) (h0 : S ≠ 0) : zCi l X 0 yJ6_numberOfTrailingZeros_0f7a4 tJ6_numberOfTrailingZeros_0f7a4 [zi (S : Int)] M (fun a M' => a = (q_ntz S : Int) ∧ M' = M) := by
  obtain ⟨x1, x2⟩ := q_ntz_x S hS h0
  refine zC.of [some (zi (S : Int)), none] (by decide +kernel) rfl rfl (Nat.le_of_ble_eq_true rfl) rfl ?_
  refine p_iload_n 1 dJ6_numberOfTrailingZeros_0f7a4_0 rfl rfl ?_
  refine p_iconst 2 dJ6_numberOfTrailingZeros_0f7a4_1 ?_
  refine p_ixor 3 dJ6_numberOfTrailingZeros_0f7a4_2 ?_
  refine p_iload_n 4 dJ6_numberOfTrailingZeros_0f7a4_3 rfl rfl ?_
  refine p_iconst 5 dJ6_numberOfTrailingZeros_0f7a4_4 ?_
  refine p_isub 6 dJ6_numberOfTrailingZeros_0f7a4_5 ?_
  refine p_iand 7 dJ6_numberOfTrailingZeros_0f7a4_6 ?_
  rw [x2]
  generalize q_ntz S = k at x1 ⊢
  have hk : k = 0 ∨ k = 1 ∨ k = 2 ∨ k = 3 ∨ k = 4 ∨ k = 5 ∨ k = 6 := by omega
  rcases hk with rfl | rfl | rfl | rfl | rfl | rfl | rfl
  · refine p_istore_n 8 dJ6_numberOfTrailingZeros_0f7a4_7 rfl (Nat.le_of_ble_eq_true rfl) rfl rfl ?_
    dsimp only [List.set]
    refine p_iload_n 9 dJ6_numberOfTrailingZeros_0f7a4_8 rfl rfl ?_
    refine p_if_gt 17 12 dJ6_numberOfTrailingZeros_0f7a4_9 (by decide) (by decide) (fun h9 => absurd (by revert h9; decide) (fun h9 : False => h9)) (fun h9 => ?_)
    refine p_iload_n 13 dJ6_numberOfTrailingZeros_0f7a4_12 rfl rfl ?_
    refine p_bipush 15 dJ6_numberOfTrailingZeros_0f7a4_13 rfl ?_
    refine p_iand 16 dJ6_numberOfTrailingZeros_0f7a4_15 ?_
    refine p_iret dJ6_numberOfTrailingZeros_0f7a4_16 rfl ?_
    exact ⟨_, rfl, by decide, rfl⟩
  · refine p_istore_n 8 dJ6_numberOfTrailingZeros_0f7a4_7 rfl (Nat.le_of_ble_eq_true rfl) rfl rfl ?_
    dsimp only [List.set]
    refine p_iload_n 9 dJ6_numberOfTrailingZeros_0f7a4_8 rfl rfl ?_
    refine p_if_gt 17 12 dJ6_numberOfTrailingZeros_0f7a4_9 (by decide) (by decide) (fun h9 => ?_) (fun h9 => absurd (by revert h9; decide) (fun h9 : False => h9))
    refine p_iconst 18 dJ6_numberOfTrailingZeros_0f7a4_17 ?_
    refine p_istore_n 19 dJ6_numberOfTrailingZeros_0f7a4_18 rfl (Nat.le_of_ble_eq_true rfl) rfl rfl ?_
    dsimp only [List.set]
    refine p_iload_n 20 dJ6_numberOfTrailingZeros_0f7a4_19 rfl rfl ?_
    refine p_ldcw (z := 65536) 23 dJ6_numberOfTrailingZeros_0f7a4_20 kk_J6_264 rfl ?_
    refine p_icmp_le 34 26 dJ6_numberOfTrailingZeros_0f7a4_23 (by decide) (by decide) (by decide) (by decide) (fun h23 => ?_) (fun h23 => absurd (by revert h23; decide) (fun h9 : False => h9))
    refine p_iload_n 35 dJ6_numberOfTrailingZeros_0f7a4_34 rfl rfl ?_
    refine p_sipush 38 dJ6_numberOfTrailingZeros_0f7a4_35 rfl ?_
    refine p_icmp_le 49 41 dJ6_numberOfTrailingZeros_0f7a4_38 (by decide) (by decide) (by decide) (by decide) (fun h38 => ?_) (fun h38 => absurd (by revert h38; decide) (fun h9 : False => h9))
    refine p_iload_n 50 dJ6_numberOfTrailingZeros_0f7a4_49 rfl rfl ?_
    refine p_bipush 52 dJ6_numberOfTrailingZeros_0f7a4_50 rfl ?_
    refine p_icmp_le 62 55 dJ6_numberOfTrailingZeros_0f7a4_52 (by decide) (by decide) (by decide) (by decide) (fun h52 => ?_) (fun h52 => absurd (by revert h52; decide) (fun h9 : False => h9))
    refine p_iload_n 63 dJ6_numberOfTrailingZeros_0f7a4_62 rfl rfl ?_
    refine p_iconst 64 dJ6_numberOfTrailingZeros_0f7a4_63 ?_
    refine p_icmp_le 74 67 dJ6_numberOfTrailingZeros_0f7a4_64 (by decide) (by decide) (by decide) (by decide) (fun h64 => ?_) (fun h64 => absurd (by revert h64; decide) (fun h9 : False => h9))
    refine p_iload_n 75 dJ6_numberOfTrailingZeros_0f7a4_74 rfl rfl ?_
    refine p_iload_n 76 dJ6_numberOfTrailingZeros_0f7a4_75 rfl rfl ?_
    refine p_iconst 77 dJ6_numberOfTrailingZeros_0f7a4_76 ?_
    refine p_iushr 78 dJ6_numberOfTrailingZeros_0f7a4_77 ?_
    refine p_iadd 79 dJ6_numberOfTrailingZeros_0f7a4_78 ?_
    refine p_iret dJ6_numberOfTrailingZeros_0f7a4_79 rfl ?_
    exact ⟨_, rfl, by decide, rfl⟩
  · refine p_istore_n 8 dJ6_numberOfTrailingZeros_0f7a4_7 rfl (Nat.le_of_ble_eq_true rfl) rfl rfl ?_
    dsimp only [List.set]
    refine p_iload_n 9 dJ6_numberOfTrailingZeros_0f7a4_8 rfl rfl ?_
    refine p_if_gt 17 12 dJ6_numberOfTrailingZeros_0f7a4_9 (by decide) (by decide) (fun h9 => ?_) (fun h9 => absurd (by revert h9; decide) (fun h9 : False => h9))
    refine p_iconst 18 dJ6_numberOfTrailingZeros_0f7a4_17 ?_
    refine p_istore_n 19 dJ6_numberOfTrailingZeros_0f7a4_18 rfl (Nat.le_of_ble_eq_true rfl) rfl rfl ?_
    dsimp only [List.set]
    refine p_iload_n 20 dJ6_numberOfTrailingZeros_0f7a4_19 rfl rfl ?_
    refine p_ldcw (z := 65536) 23 dJ6_numberOfTrailingZeros_0f7a4_20 kk_J6_264 rfl ?_
    refine p_icmp_le 34 26 dJ6_numberOfTrailingZeros_0f7a4_23 (by decide) (by decide) (by decide) (by decide) (fun h23 => ?_) (fun h23 => absurd (by revert h23; decide) (fun h9 : False => h9))
    refine p_iload_n 35 dJ6_numberOfTrailingZeros_0f7a4_34 rfl rfl ?_
    refine p_sipush 38 dJ6_numberOfTrailingZeros_0f7a4_35 rfl ?_
    refine p_icmp_le 49 41 dJ6_numberOfTrailingZeros_0f7a4_38 (by decide) (by decide) (by decide) (by decide) (fun h38 => ?_) (fun h38 => absurd (by revert h38; decide) (fun h9 : False => h9))
    refine p_iload_n 50 dJ6_numberOfTrailingZeros_0f7a4_49 rfl rfl ?_
    refine p_bipush 52 dJ6_numberOfTrailingZeros_0f7a4_50 rfl ?_
    refine p_icmp_le 62 55 dJ6_numberOfTrailingZeros_0f7a4_52 (by decide) (by decide) (by decide) (by decide) (fun h52 => ?_) (fun h52 => absurd (by revert h52; decide) (fun h9 : False => h9))
    refine p_iload_n 63 dJ6_numberOfTrailingZeros_0f7a4_62 rfl rfl ?_
    refine p_iconst 64 dJ6_numberOfTrailingZeros_0f7a4_63 ?_
    refine p_icmp_le 74 67 dJ6_numberOfTrailingZeros_0f7a4_64 (by decide) (by decide) (by decide) (by decide) (fun h64 => ?_) (fun h64 => absurd (by revert h64; decide) (fun h9 : False => h9))
    refine p_iload_n 75 dJ6_numberOfTrailingZeros_0f7a4_74 rfl rfl ?_
    refine p_iload_n 76 dJ6_numberOfTrailingZeros_0f7a4_75 rfl rfl ?_
    refine p_iconst 77 dJ6_numberOfTrailingZeros_0f7a4_76 ?_
    refine p_iushr 78 dJ6_numberOfTrailingZeros_0f7a4_77 ?_
    refine p_iadd 79 dJ6_numberOfTrailingZeros_0f7a4_78 ?_
    refine p_iret dJ6_numberOfTrailingZeros_0f7a4_79 rfl ?_
    exact ⟨_, rfl, by decide, rfl⟩
  · refine p_istore_n 8 dJ6_numberOfTrailingZeros_0f7a4_7 rfl (Nat.le_of_ble_eq_true rfl) rfl rfl ?_
    dsimp only [List.set]
    refine p_iload_n 9 dJ6_numberOfTrailingZeros_0f7a4_8 rfl rfl ?_
    refine p_if_gt 17 12 dJ6_numberOfTrailingZeros_0f7a4_9 (by decide) (by decide) (fun h9 => ?_) (fun h9 => absurd (by revert h9; decide) (fun h9 : False => h9))
    refine p_iconst 18 dJ6_numberOfTrailingZeros_0f7a4_17 ?_
    refine p_istore_n 19 dJ6_numberOfTrailingZeros_0f7a4_18 rfl (Nat.le_of_ble_eq_true rfl) rfl rfl ?_
    dsimp only [List.set]
    refine p_iload_n 20 dJ6_numberOfTrailingZeros_0f7a4_19 rfl rfl ?_
    refine p_ldcw (z := 65536) 23 dJ6_numberOfTrailingZeros_0f7a4_20 kk_J6_264 rfl ?_
    refine p_icmp_le 34 26 dJ6_numberOfTrailingZeros_0f7a4_23 (by decide) (by decide) (by decide) (by decide) (fun h23 => ?_) (fun h23 => absurd (by revert h23; decide) (fun h9 : False => h9))
    refine p_iload_n 35 dJ6_numberOfTrailingZeros_0f7a4_34 rfl rfl ?_
    refine p_sipush 38 dJ6_numberOfTrailingZeros_0f7a4_35 rfl ?_
    refine p_icmp_le 49 41 dJ6_numberOfTrailingZeros_0f7a4_38 (by decide) (by decide) (by decide) (by decide) (fun h38 => ?_) (fun h38 => absurd (by revert h38; decide) (fun h9 : False => h9))
    refine p_iload_n 50 dJ6_numberOfTrailingZeros_0f7a4_49 rfl rfl ?_
    refine p_bipush 52 dJ6_numberOfTrailingZeros_0f7a4_50 rfl ?_
    refine p_icmp_le 62 55 dJ6_numberOfTrailingZeros_0f7a4_52 (by decide) (by decide) (by decide) (by decide) (fun h52 => ?_) (fun h52 => absurd (by revert h52; decide) (fun h9 : False => h9))
    refine p_iload_n 63 dJ6_numberOfTrailingZeros_0f7a4_62 rfl rfl ?_
    refine p_iconst 64 dJ6_numberOfTrailingZeros_0f7a4_63 ?_
    refine p_icmp_le 74 67 dJ6_numberOfTrailingZeros_0f7a4_64 (by decide) (by decide) (by decide) (by decide) (fun h64 => absurd (by revert h64; decide) (fun h9 : False => h9)) (fun h64 => ?_)
    refine p_iinc 70 dJ6_numberOfTrailingZeros_0f7a4_67 rfl rfl rfl ?_
    dsimp only [List.set]
    refine p_iload_n 71 dJ6_numberOfTrailingZeros_0f7a4_70 rfl rfl ?_
    refine p_iconst 72 dJ6_numberOfTrailingZeros_0f7a4_71 ?_
    refine p_iushr 73 dJ6_numberOfTrailingZeros_0f7a4_72 ?_
    refine p_istore_n 74 dJ6_numberOfTrailingZeros_0f7a4_73 rfl (Nat.le_of_ble_eq_true rfl) rfl rfl ?_
    dsimp only [List.set]
    refine p_iload_n 75 dJ6_numberOfTrailingZeros_0f7a4_74 rfl rfl ?_
    refine p_iload_n 76 dJ6_numberOfTrailingZeros_0f7a4_75 rfl rfl ?_
    refine p_iconst 77 dJ6_numberOfTrailingZeros_0f7a4_76 ?_
    refine p_iushr 78 dJ6_numberOfTrailingZeros_0f7a4_77 ?_
    refine p_iadd 79 dJ6_numberOfTrailingZeros_0f7a4_78 ?_
    refine p_iret dJ6_numberOfTrailingZeros_0f7a4_79 rfl ?_
    exact ⟨_, rfl, by decide, rfl⟩
  · refine p_istore_n 8 dJ6_numberOfTrailingZeros_0f7a4_7 rfl (Nat.le_of_ble_eq_true rfl) rfl rfl ?_
    dsimp only [List.set]
    refine p_iload_n 9 dJ6_numberOfTrailingZeros_0f7a4_8 rfl rfl ?_
    refine p_if_gt 17 12 dJ6_numberOfTrailingZeros_0f7a4_9 (by decide) (by decide) (fun h9 => ?_) (fun h9 => absurd (by revert h9; decide) (fun h9 : False => h9))
    refine p_iconst 18 dJ6_numberOfTrailingZeros_0f7a4_17 ?_
    refine p_istore_n 19 dJ6_numberOfTrailingZeros_0f7a4_18 rfl (Nat.le_of_ble_eq_true rfl) rfl rfl ?_
    dsimp only [List.set]
    refine p_iload_n 20 dJ6_numberOfTrailingZeros_0f7a4_19 rfl rfl ?_
    refine p_ldcw (z := 65536) 23 dJ6_numberOfTrailingZeros_0f7a4_20 kk_J6_264 rfl ?_
    refine p_icmp_le 34 26 dJ6_numberOfTrailingZeros_0f7a4_23 (by decide) (by decide) (by decide) (by decide) (fun h23 => ?_) (fun h23 => absurd (by revert h23; decide) (fun h9 : False => h9))
    refine p_iload_n 35 dJ6_numberOfTrailingZeros_0f7a4_34 rfl rfl ?_
    refine p_sipush 38 dJ6_numberOfTrailingZeros_0f7a4_35 rfl ?_
    refine p_icmp_le 49 41 dJ6_numberOfTrailingZeros_0f7a4_38 (by decide) (by decide) (by decide) (by decide) (fun h38 => ?_) (fun h38 => absurd (by revert h38; decide) (fun h9 : False => h9))
    refine p_iload_n 50 dJ6_numberOfTrailingZeros_0f7a4_49 rfl rfl ?_
    refine p_bipush 52 dJ6_numberOfTrailingZeros_0f7a4_50 rfl ?_
    refine p_icmp_le 62 55 dJ6_numberOfTrailingZeros_0f7a4_52 (by decide) (by decide) (by decide) (by decide) (fun h52 => ?_) (fun h52 => absurd (by revert h52; decide) (fun h9 : False => h9))
    refine p_iload_n 63 dJ6_numberOfTrailingZeros_0f7a4_62 rfl rfl ?_
    refine p_iconst 64 dJ6_numberOfTrailingZeros_0f7a4_63 ?_
    refine p_icmp_le 74 67 dJ6_numberOfTrailingZeros_0f7a4_64 (by decide) (by decide) (by decide) (by decide) (fun h64 => absurd (by revert h64; decide) (fun h9 : False => h9)) (fun h64 => ?_)
    refine p_iinc 70 dJ6_numberOfTrailingZeros_0f7a4_67 rfl rfl rfl ?_
    dsimp only [List.set]
    refine p_iload_n 71 dJ6_numberOfTrailingZeros_0f7a4_70 rfl rfl ?_
    refine p_iconst 72 dJ6_numberOfTrailingZeros_0f7a4_71 ?_
    refine p_iushr 73 dJ6_numberOfTrailingZeros_0f7a4_72 ?_
    refine p_istore_n 74 dJ6_numberOfTrailingZeros_0f7a4_73 rfl (Nat.le_of_ble_eq_true rfl) rfl rfl ?_
    dsimp only [List.set]
    refine p_iload_n 75 dJ6_numberOfTrailingZeros_0f7a4_74 rfl rfl ?_
    refine p_iload_n 76 dJ6_numberOfTrailingZeros_0f7a4_75 rfl rfl ?_
    refine p_iconst 77 dJ6_numberOfTrailingZeros_0f7a4_76 ?_
    refine p_iushr 78 dJ6_numberOfTrailingZeros_0f7a4_77 ?_
    refine p_iadd 79 dJ6_numberOfTrailingZeros_0f7a4_78 ?_
    refine p_iret dJ6_numberOfTrailingZeros_0f7a4_79 rfl ?_
    exact ⟨_, rfl, by decide, rfl⟩
  · refine p_istore_n 8 dJ6_numberOfTrailingZeros_0f7a4_7 rfl (Nat.le_of_ble_eq_true rfl) rfl rfl ?_
    dsimp only [List.set]
    refine p_iload_n 9 dJ6_numberOfTrailingZeros_0f7a4_8 rfl rfl ?_
    refine p_if_gt 17 12 dJ6_numberOfTrailingZeros_0f7a4_9 (by decide) (by decide) (fun h9 => ?_) (fun h9 => absurd (by revert h9; decide) (fun h9 : False => h9))
    refine p_iconst 18 dJ6_numberOfTrailingZeros_0f7a4_17 ?_
    refine p_istore_n 19 dJ6_numberOfTrailingZeros_0f7a4_18 rfl (Nat.le_of_ble_eq_true rfl) rfl rfl ?_
    dsimp only [List.set]
    refine p_iload_n 20 dJ6_numberOfTrailingZeros_0f7a4_19 rfl rfl ?_
    refine p_ldcw (z := 65536) 23 dJ6_numberOfTrailingZeros_0f7a4_20 kk_J6_264 rfl ?_
    refine p_icmp_le 34 26 dJ6_numberOfTrailingZeros_0f7a4_23 (by decide) (by decide) (by decide) (by decide) (fun h23 => ?_) (fun h23 => absurd (by revert h23; decide) (fun h9 : False => h9))
    refine p_iload_n 35 dJ6_numberOfTrailingZeros_0f7a4_34 rfl rfl ?_
    refine p_sipush 38 dJ6_numberOfTrailingZeros_0f7a4_35 rfl ?_
    refine p_icmp_le 49 41 dJ6_numberOfTrailingZeros_0f7a4_38 (by decide) (by decide) (by decide) (by decide) (fun h38 => ?_) (fun h38 => absurd (by revert h38; decide) (fun h9 : False => h9))
    refine p_iload_n 50 dJ6_numberOfTrailingZeros_0f7a4_49 rfl rfl ?_
    refine p_bipush 52 dJ6_numberOfTrailingZeros_0f7a4_50 rfl ?_
    refine p_icmp_le 62 55 dJ6_numberOfTrailingZeros_0f7a4_52 (by decide) (by decide) (by decide) (by decide) (fun h52 => absurd (by revert h52; decide) (fun h9 : False => h9)) (fun h52 => ?_)
    refine p_iinc 58 dJ6_numberOfTrailingZeros_0f7a4_55 rfl rfl rfl ?_
    dsimp only [List.set]
    refine p_iload_n 59 dJ6_numberOfTrailingZeros_0f7a4_58 rfl rfl ?_
    refine p_iconst 60 dJ6_numberOfTrailingZeros_0f7a4_59 ?_
    refine p_iushr 61 dJ6_numberOfTrailingZeros_0f7a4_60 ?_
    refine p_istore_n 62 dJ6_numberOfTrailingZeros_0f7a4_61 rfl (Nat.le_of_ble_eq_true rfl) rfl rfl ?_
    dsimp only [List.set]
    refine p_iload_n 63 dJ6_numberOfTrailingZeros_0f7a4_62 rfl rfl ?_
    refine p_iconst 64 dJ6_numberOfTrailingZeros_0f7a4_63 ?_
    refine p_icmp_le 74 67 dJ6_numberOfTrailingZeros_0f7a4_64 (by decide) (by decide) (by decide) (by decide) (fun h64 => ?_) (fun h64 => absurd (by revert h64; decide) (fun h9 : False => h9))
    refine p_iload_n 75 dJ6_numberOfTrailingZeros_0f7a4_74 rfl rfl ?_
    refine p_iload_n 76 dJ6_numberOfTrailingZeros_0f7a4_75 rfl rfl ?_
    refine p_iconst 77 dJ6_numberOfTrailingZeros_0f7a4_76 ?_
    refine p_iushr 78 dJ6_numberOfTrailingZeros_0f7a4_77 ?_
    refine p_iadd 79 dJ6_numberOfTrailingZeros_0f7a4_78 ?_
    refine p_iret dJ6_numberOfTrailingZeros_0f7a4_79 rfl ?_
    exact ⟨_, rfl, by decide, rfl⟩
  · refine p_istore_n 8 dJ6_numberOfTrailingZeros_0f7a4_7 rfl (Nat.le_of_ble_eq_true rfl) rfl rfl ?_
    dsimp only [List.set]
    refine p_iload_n 9 dJ6_numberOfTrailingZeros_0f7a4_8 rfl rfl ?_
    refine p_if_gt 17 12 dJ6_numberOfTrailingZeros_0f7a4_9 (by decide) (by decide) (fun h9 => ?_) (fun h9 => absurd (by revert h9; decide) (fun h9 : False => h9))
    refine p_iconst 18 dJ6_numberOfTrailingZeros_0f7a4_17 ?_
    refine p_istore_n 19 dJ6_numberOfTrailingZeros_0f7a4_18 rfl (Nat.le_of_ble_eq_true rfl) rfl rfl ?_
    dsimp only [List.set]
    refine p_iload_n 20 dJ6_numberOfTrailingZeros_0f7a4_19 rfl rfl ?_
    refine p_ldcw (z := 65536) 23 dJ6_numberOfTrailingZeros_0f7a4_20 kk_J6_264 rfl ?_
    refine p_icmp_le 34 26 dJ6_numberOfTrailingZeros_0f7a4_23 (by decide) (by decide) (by decide) (by decide) (fun h23 => ?_) (fun h23 => absurd (by revert h23; decide) (fun h9 : False => h9))
    refine p_iload_n 35 dJ6_numberOfTrailingZeros_0f7a4_34 rfl rfl ?_
    refine p_sipush 38 dJ6_numberOfTrailingZeros_0f7a4_35 rfl ?_
    refine p_icmp_le 49 41 dJ6_numberOfTrailingZeros_0f7a4_38 (by decide) (by decide) (by decide) (by decide) (fun h38 => ?_) (fun h38 => absurd (by revert h38; decide) (fun h9 : False => h9))
    refine p_iload_n 50 dJ6_numberOfTrailingZeros_0f7a4_49 rfl rfl ?_
    refine p_bipush 52 dJ6_numberOfTrailingZeros_0f7a4_50 rfl ?_
    refine p_icmp_le 62 55 dJ6_numberOfTrailingZeros_0f7a4_52 (by decide) (by decide) (by decide) (by decide) (fun h52 => absurd (by revert h52; decide) (fun h9 : False => h9)) (fun h52 => ?_)
    refine p_iinc 58 dJ6_numberOfTrailingZeros_0f7a4_55 rfl rfl rfl ?_
    dsimp only [List.set]
    refine p_iload_n 59 dJ6_numberOfTrailingZeros_0f7a4_58 rfl rfl ?_
    refine p_iconst 60 dJ6_numberOfTrailingZeros_0f7a4_59 ?_
    refine p_iushr 61 dJ6_numberOfTrailingZeros_0f7a4_60 ?_
    refine p_istore_n 62 dJ6_numberOfTrailingZeros_0f7a4_61 rfl (Nat.le_of_ble_eq_true rfl) rfl rfl ?_
    dsimp only [List.set]
    refine p_iload_n 63 dJ6_numberOfTrailingZeros_0f7a4_62 rfl rfl ?_
    refine p_iconst 64 dJ6_numberOfTrailingZeros_0f7a4_63 ?_
    refine p_icmp_le 74 67 dJ6_numberOfTrailingZeros_0f7a4_64 (by decide) (by decide) (by decide) (by decide) (fun h64 => ?_) (fun h64 => absurd (by revert h64; decide) (fun h9 : False => h9))
    refine p_iload_n 75 dJ6_numberOfTrailingZeros_0f7a4_74 rfl rfl ?_
    refine p_iload_n 76 dJ6_numberOfTrailingZeros_0f7a4_75 rfl rfl ?_
    refine p_iconst 77 dJ6_numberOfTrailingZeros_0f7a4_76 ?_
    refine p_iushr 78 dJ6_numberOfTrailingZeros_0f7a4_77 ?_
    refine p_iadd 79 dJ6_numberOfTrailingZeros_0f7a4_78 ?_
    refine p_iret dJ6_numberOfTrailingZeros_0f7a4_79 rfl ?_
    exact ⟨_, rfl, by decide, rfl⟩
theorem s_unsaid_2 {l : Launch} {X : ZX} {M : ZM} {ρ : Nat → Int} {h : Int} (hW : zWc M) (hC : ICc ρ h 2 M) (hR : wfR ρ) (hco : M 0 5 = 2) {τ : Nat → Int} (hN : ICn τ h 49 M) (hT : wfT ρ τ) : zCi l X 1 yX11_unsaid tX11_unsaid [zr 0] M (fun a M' => a = (q_un (q_n ρ 4) (τ 14).toNat : Int) ∧ M' = M) := by
  have e4 : ρ 4 = (q_n ρ 4 : Int) := hR.n (by decide)
  have b4 := hR.2.1.2.2.2.2.1
  have hcw : M 13 0 = ρ 4 := hC.1.2.2.2.2.2.1
  have hsa : M 49 2 = τ 14 := hN.2.2.1
  have hwo : M 49 3 = τ 16 := hN.2.2.2.1
  have t160 := hT.1 16 (by decide)
  have t161 := hT.2.2.2.2.1
  have s14 : τ 14 = ((τ 14).toNat : Int) := (Int.toNat_of_nonneg (hT.1 14 (by decide))).symm
  have s14b := hT.said hR
  refine zC.of [some (zr 0)] (by decide +kernel) rfl rfl (Nat.le_of_ble_eq_true rfl) rfl ?_
  refine p_aload_n 1 dX11_unsaid_0 rfl rfl (by decide) ?_
  refine p_getR 0 4 dX11_unsaid_1 fX11_16 rfl hco ?_
  refine p_getR 2 7 dX11_unsaid_4 fX11_211 rfl (hW (2, 5, 13) (by decide)) ?_
  refine p_getI 13 10 dX11_unsaid_7 fX11_266 rfl ?_
  rw [hcw, e4]
  refine p_callS1i 13 dX11_unsaid_10 (s_fullBits (n := q_n ρ 4) (by omega)) lk_X11_198 mX11_fullBits (by decide) (Nat.le_of_ble_eq_true rfl) ?_
  rintro _ _ ⟨rfl, rfl⟩
  refine p_aload_n 14 dX11_unsaid_13 rfl rfl (by decide) ?_
  refine p_getR 0 17 dX11_unsaid_14 fX11_33 rfl (hW (0, 8, 49) (by decide)) ?_
  refine p_getI 49 20 dX11_unsaid_17 fX11_223 rfl ?_
  rw [hsa, s14]
  refine p_iconst 21 dX11_unsaid_20 ?_
  refine p_ixor 22 dX11_unsaid_21 ?_
  refine p_iand 23 dX11_unsaid_22 ?_
  rw [z_iand_comm, z_un _ _ (by omega) (by omega)]
  refine p_iret dX11_unsaid_23 rfl ?_
  exact ⟨_, rfl, rfl, rfl⟩
theorem s_toSay_2 {l : Launch} {X : ZX} {M : ZM} {ρ : Nat → Int} {h : Int} (hW : zWc M) (hC : ICc ρ h 2 M) (hR : wfR ρ) (hco : M 0 5 = 2) {τ : Nat → Int} (hN : ICn τ h 49 M) (hT : wfT ρ τ) : zCi l X 2 yX11_toSay tX11_toSay [zr 0] M (fun a M' => a = (if 0 < τ 16 then 0 else (q_un (q_n ρ 4) (τ 14).toNat : Int)) ∧ M' = M) := by
  have e4 : ρ 4 = (q_n ρ 4 : Int) := hR.n (by decide)
  have b4 := hR.2.1.2.2.2.2.1
  have hcw : M 13 0 = ρ 4 := hC.1.2.2.2.2.2.1
  have hsa : M 49 2 = τ 14 := hN.2.2.1
  have hwo : M 49 3 = τ 16 := hN.2.2.2.1
  have t160 := hT.1 16 (by decide)
  have t161 := hT.2.2.2.2.1
  have s14 : τ 14 = ((τ 14).toNat : Int) := (Int.toNat_of_nonneg (hT.1 14 (by decide))).symm
  have s14b := hT.said hR
  refine zC.of [some (zr 0)] (by decide +kernel) rfl rfl (Nat.le_of_ble_eq_true rfl) rfl ?_
  refine p_aload_n 1 dX11_toSay_0 rfl rfl (by decide) ?_
  refine p_getR 0 4 dX11_toSay_1 fX11_33 rfl (hW (0, 8, 49) (by decide)) ?_
  refine p_getI 49 7 dX11_toSay_4 fX11_170 rfl ?_
  rw [hwo]
  refine p_if_eq 14 10 dX11_toSay_7 (by omega) (by omega) (fun h7 => ?_) (fun h7 => ?_)
  · refine p_aload_n 15 dX11_toSay_14 rfl rfl (by decide) ?_
    refine p_callV0i 0 18 dX11_toSay_15 (s_unsaid_2 hW hC hR hco hN hT) lk_X11_267 mX11_unsaid rfl rfl (by decide) (Nat.le_of_ble_eq_true rfl) ?_
    rintro _ _ ⟨rfl, rfl⟩
    refine p_iret dX11_toSay_18 rfl ?_
    refine ⟨_, rfl, ?_, rfl⟩
    first | (rw [if_pos (by omega)]; done) | (rw [if_neg (by omega)]; done)
  · refine p_iconst 11 dX11_toSay_10 ?_
    refine p_goto 18 dX11_toSay_11 ?_
    refine p_iret dX11_toSay_18 rfl ?_
    refine ⟨_, rfl, ?_, rfl⟩
    first | (rw [if_pos (by omega)]; done) | (rw [if_neg (by omega)]; done)
theorem s_unsaid_25 {l : Launch} {X : ZX} {M : ZM} {ρ : Nat → Int} {h : Int} (hW : zWc M) (hC : ICc ρ h 25 M) (hR : wfR ρ) (hco : M 0 5 = 25) {τ : Nat → Int} (hN : ICn τ h 49 M) (hT : wfT ρ τ) : zCi l X 1 yX11_unsaid tX11_unsaid [zr 0] M (fun a M' => a = (q_un (q_n ρ 4) (τ 14).toNat : Int) ∧ M' = M) := by
  have e4 : ρ 4 = (q_n ρ 4 : Int) := hR.n (by decide)
  have b4 := hR.2.1.2.2.2.2.1
  have hcw : M 36 0 = ρ 4 := hC.1.2.2.2.2.2.1
  have hsa : M 49 2 = τ 14 := hN.2.2.1
  have hwo : M 49 3 = τ 16 := hN.2.2.2.1
  have t160 := hT.1 16 (by decide)
  have t161 := hT.2.2.2.2.1
  have s14 : τ 14 = ((τ 14).toNat : Int) := (Int.toNat_of_nonneg (hT.1 14 (by decide))).symm
  have s14b := hT.said hR
  refine zC.of [some (zr 0)] (by decide +kernel) rfl rfl (Nat.le_of_ble_eq_true rfl) rfl ?_
  refine p_aload_n 1 dX11_unsaid_0 rfl rfl (by decide) ?_
  refine p_getR 0 4 dX11_unsaid_1 fX11_16 rfl hco ?_
  refine p_getR 25 7 dX11_unsaid_4 fX11_211 rfl (hW (25, 5, 36) (by decide)) ?_
  refine p_getI 36 10 dX11_unsaid_7 fX11_266 rfl ?_
  rw [hcw, e4]
  refine p_callS1i 13 dX11_unsaid_10 (s_fullBits (n := q_n ρ 4) (by omega)) lk_X11_198 mX11_fullBits (by decide) (Nat.le_of_ble_eq_true rfl) ?_
  rintro _ _ ⟨rfl, rfl⟩
  refine p_aload_n 14 dX11_unsaid_13 rfl rfl (by decide) ?_
  refine p_getR 0 17 dX11_unsaid_14 fX11_33 rfl (hW (0, 8, 49) (by decide)) ?_
  refine p_getI 49 20 dX11_unsaid_17 fX11_223 rfl ?_
  rw [hsa, s14]
  refine p_iconst 21 dX11_unsaid_20 ?_
  refine p_ixor 22 dX11_unsaid_21 ?_
  refine p_iand 23 dX11_unsaid_22 ?_
  rw [z_iand_comm, z_un _ _ (by omega) (by omega)]
  refine p_iret dX11_unsaid_23 rfl ?_
  exact ⟨_, rfl, rfl, rfl⟩
theorem s_toSay_25 {l : Launch} {X : ZX} {M : ZM} {ρ : Nat → Int} {h : Int} (hW : zWc M) (hC : ICc ρ h 25 M) (hR : wfR ρ) (hco : M 0 5 = 25) {τ : Nat → Int} (hN : ICn τ h 49 M) (hT : wfT ρ τ) : zCi l X 2 yX11_toSay tX11_toSay [zr 0] M (fun a M' => a = (if 0 < τ 16 then 0 else (q_un (q_n ρ 4) (τ 14).toNat : Int)) ∧ M' = M) := by
  have e4 : ρ 4 = (q_n ρ 4 : Int) := hR.n (by decide)
  have b4 := hR.2.1.2.2.2.2.1
  have hcw : M 36 0 = ρ 4 := hC.1.2.2.2.2.2.1
  have hsa : M 49 2 = τ 14 := hN.2.2.1
  have hwo : M 49 3 = τ 16 := hN.2.2.2.1
  have t160 := hT.1 16 (by decide)
  have t161 := hT.2.2.2.2.1
  have s14 : τ 14 = ((τ 14).toNat : Int) := (Int.toNat_of_nonneg (hT.1 14 (by decide))).symm
  have s14b := hT.said hR
  refine zC.of [some (zr 0)] (by decide +kernel) rfl rfl (Nat.le_of_ble_eq_true rfl) rfl ?_
  refine p_aload_n 1 dX11_toSay_0 rfl rfl (by decide) ?_
  refine p_getR 0 4 dX11_toSay_1 fX11_33 rfl (hW (0, 8, 49) (by decide)) ?_
  refine p_getI 49 7 dX11_toSay_4 fX11_170 rfl ?_
  rw [hwo]
  refine p_if_eq 14 10 dX11_toSay_7 (by omega) (by omega) (fun h7 => ?_) (fun h7 => ?_)
  · refine p_aload_n 15 dX11_toSay_14 rfl rfl (by decide) ?_
    refine p_callV0i 0 18 dX11_toSay_15 (s_unsaid_25 hW hC hR hco hN hT) lk_X11_267 mX11_unsaid rfl rfl (by decide) (Nat.le_of_ble_eq_true rfl) ?_
    rintro _ _ ⟨rfl, rfl⟩
    refine p_iret dX11_toSay_18 rfl ?_
    refine ⟨_, rfl, ?_, rfl⟩
    first | (rw [if_pos (by omega)]; done) | (rw [if_neg (by omega)]; done)
  · refine p_iconst 11 dX11_toSay_10 ?_
    refine p_goto 18 dX11_toSay_11 ?_
    refine p_iret dX11_toSay_18 rfl ?_
    refine ⟨_, rfl, ?_, rfl⟩
    first | (rw [if_pos (by omega)]; done) | (rw [if_neg (by omega)]; done)
