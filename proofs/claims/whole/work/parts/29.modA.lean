theorem s_in {l : Launch} {X : ZX} {M : ZM} {v lo hi : Int} (hv1 : -2147483648 ≤ v) (hv2 : v < 2147483648) (hlo1 : -2147483648 ≤ lo) (hlo2 : lo < 2147483648) (hhi1 : -2147483648 ≤ hi) (hhi2 : hi < 2147483648) : zCi l X 0 yX12_in tX12_in [zi v, zi lo, zi hi] M (fun a M' => a = (if lo ≤ v ∧ v ≤ hi then 1 else 0) ∧ M' = M) := by
  refine zC.of [some (zi v), some (zi lo), some (zi hi)] (by decide +kernel) rfl rfl (Nat.le_of_ble_eq_true rfl) rfl ?_
  refine p_iload_n 1 dX12_in_0 rfl rfl ?_
  refine p_iload_n 2 dX12_in_1 rfl rfl ?_
  refine p_icmp_lt 14 5 dX12_in_2 (by omega) (by omega) (by omega) (by omega) (fun h2 => ?_) (fun h2 => ?_)
  · refine p_iconst 15 dX12_in_14 ?_
    refine p_zret dX12_in_15 rfl (by decide) ?_
    refine ⟨_, rfl, ?_, rfl⟩
    first | (rw [if_pos (by omega)]; done) | (rw [if_neg (by omega)]; done)
  · refine p_iload_n 6 dX12_in_5 rfl rfl ?_
    refine p_iload_n 7 dX12_in_6 rfl rfl ?_
    refine p_icmp_gt 14 10 dX12_in_7 (by omega) (by omega) (by omega) (by omega) (fun h7 => ?_) (fun h7 => ?_)
    · refine p_iconst 15 dX12_in_14 ?_
      refine p_zret dX12_in_15 rfl (by decide) ?_
      refine ⟨_, rfl, ?_, rfl⟩
      first | (rw [if_pos (by omega)]; done) | (rw [if_neg (by omega)]; done)
    · refine p_iconst 11 dX12_in_10 ?_
      refine p_goto 15 dX12_in_11 ?_
      refine p_zret dX12_in_15 rfl (by decide) ?_
      refine ⟨_, rfl, ?_, rfl⟩
      first | (rw [if_pos (by omega)]; done) | (rw [if_neg (by omega)]; done)
theorem z_shand (S k : Nat) (hk : k < 31) (hS : S < 2147483648) : z_iand (z_ishr (S : Int) (k : Int)) 1 = if S.testBit k then 1 else 0 := by
  rw [z_ishr_n S k hk hS]
  have h1 : S / 2 ^ k < 2147483648 := Nat.lt_of_le_of_lt (Nat.div_le_self _ _) hS
  have h2 := z_iand_n (S / 2 ^ k) 1 h1 (by decide)
  rw [show z_iand ((S / 2 ^ k : Nat) : Int) 1 = ((S / 2 ^ k &&& 1 : Nat) : Int) from h2, Nat.testBit_eq_decide_div_mod_eq, Nat.and_one_is_mod]
  have h3 := Nat.mod_two_eq_zero_or_one (S / 2 ^ k)
  rcases h3 with h3 | h3 <;> rw [h3] <;> rfl
theorem s_hasBit {l : Launch} {X : ZX} {M : ZM} {S k : Nat} (hk : k < 31) (hS : S < 2147483648) : zCi l X 0 yX12_hasBit tX12_hasBit [zi (S : Int), zi (k : Int)] M (fun a M' => a = (if S.testBit k = true then 1 else 0) ∧ M' = M) := by
  refine zC.of [some (zi (S : Int)), some (zi (k : Int))] (by decide +kernel) rfl rfl (Nat.le_of_ble_eq_true rfl) rfl ?_
  refine p_iload_n 1 dX12_hasBit_0 rfl rfl ?_
  refine p_iload_n 2 dX12_hasBit_1 rfl rfl ?_
  refine p_ishr 3 dX12_hasBit_2 ?_
  refine p_iconst 4 dX12_hasBit_3 ?_
  refine p_iand 5 dX12_hasBit_4 ?_
  rw [z_shand S k hk hS]
  refine p_iconst 6 dX12_hasBit_5 ?_
  refine p_icmp_ne 13 9 dX12_hasBit_6 (by split <;> omega) (by split <;> omega) (by omega) (by omega) (fun h6 => ?_) (fun h6 => ?_)
  · refine p_iconst 14 dX12_hasBit_13 ?_
    refine p_zret dX12_hasBit_14 rfl (by decide) ?_
    refine ⟨_, rfl, ?_, rfl⟩
    cases hb : S.testBit k <;> rw [hb] at h6 <;> simp at h6 ⊢
  · refine p_iconst 10 dX12_hasBit_9 ?_
    refine p_goto 14 dX12_hasBit_10 ?_
    refine p_zret dX12_hasBit_14 rfl (by decide) ?_
    refine ⟨_, rfl, ?_, rfl⟩
    cases hb : S.testBit k <;> rw [hb] at h6 <;> simp at h6 ⊢
theorem l_ones {l : Launch} {X : ZX} {M : ZM} {S : Nat} (hS : S < 2147483648) : ∀ (j i : Nat), i + j = 8 → zP l X 0 tX12_ones 4 [some (zi (S : Int)), some (zi (q_cntp (fun k => S.testBit k) i : Int)), some (zi (i : Int))] [] M (fun r M' => ∃ a, r = some (zi a) ∧ (a = (q_cntp (fun k => S.testBit k) 8 : Int) ∧ M' = M)) := by
  intro j
  induction j with
  | zero =>
    intro i hi
    refine p_iload_n 5 dX12_ones_4 rfl rfl ?_
    refine p_bipush 7 dX12_ones_5 rfl ?_
    refine p_icmp_ge 24 10 dX12_ones_7 (by omega) (by omega) (by omega) (by omega) (fun h7 => ?_) (fun h7 => absurd (by omega) (fun h9 : False => h9))
    refine p_iload_n 25 dX12_ones_24 rfl rfl ?_
    refine p_iret dX12_ones_25 rfl ?_
    rw [Nat.add_zero] at hi
    exact ⟨_, rfl, by rw [hi], rfl⟩
  | succ j ih =>
    intro i hi
    refine p_iload_n 5 dX12_ones_4 rfl rfl ?_
    refine p_bipush 7 dX12_ones_5 rfl ?_
    refine p_icmp_ge 24 10 dX12_ones_7 (by omega) (by omega) (by omega) (by omega) (fun h7 => absurd (by omega) (fun h9 : False => h9)) (fun h7 => ?_)
    refine p_iload_n 11 dX12_ones_10 rfl rfl ?_
    refine p_iload_n 12 dX12_ones_11 rfl rfl ?_
    refine p_iload_n 13 dX12_ones_12 rfl rfl ?_
    refine p_ishr 14 dX12_ones_13 ?_
    refine p_iconst 15 dX12_ones_14 ?_
    refine p_iand 16 dX12_ones_15 ?_
    rw [z_shand S i (by omega) hS]
    refine p_iadd 17 dX12_ones_16 ?_
    refine p_istore_n 18 dX12_ones_17 rfl (Nat.le_of_ble_eq_true rfl) rfl rfl ?_
    dsimp only [List.set]
    refine p_iinc 21 dX12_ones_18 rfl rfl rfl ?_
    dsimp only [List.set]
    refine p_goto 4 dX12_ones_21 ?_
    have e := ih (i + 1) (by omega)
    have er : ((q_cntp (fun k => S.testBit k) (i + 1) : Nat) : Int) = (q_cntp (fun k => S.testBit k) i : Int) + (if S.testBit i = true then 1 else 0) := by
      show ((q_cntp (fun k => S.testBit k) i + (if S.testBit i = true then 1 else 0) : Nat) : Int) = _
      split <;> omega
    rw [er] at e
    exact e
theorem s_ones {l : Launch} {X : ZX} {M : ZM} {S : Nat} (hS : S < 2147483648) : zCi l X 0 yX12_ones tX12_ones [zi (S : Int)] M (fun a M' => a = (q_cntp (fun k => S.testBit k) 8 : Int) ∧ M' = M) := by
  refine zC.of [some (zi (S : Int)), none, none] (by decide +kernel) rfl rfl (Nat.le_of_ble_eq_true rfl) rfl ?_
  refine p_iconst 1 dX12_ones_0 ?_
  refine p_istore_n 2 dX12_ones_1 rfl (Nat.le_of_ble_eq_true rfl) rfl rfl ?_
  dsimp only [List.set]
  refine p_iconst 3 dX12_ones_2 ?_
  refine p_istore_n 4 dX12_ones_3 rfl (Nat.le_of_ble_eq_true rfl) rfl rfl ?_
  dsimp only [List.set]
  exact l_ones hS 8 0 rfl
theorem s_good {l : Launch} {X : ZX} {M : ZM}  : zCv l X 0 yX12_good tX12_good [zr 124] M (fun M' => M' = zset (zset M 124 0 0) 124 11 0) := by
  refine zC.of [some (zr 124)] (by decide +kernel) rfl rfl (Nat.le_of_ble_eq_true rfl) rfl ?_
  refine p_aload_n 1 dX12_good_0 rfl rfl (by decide) ?_
  refine p_iconst 2 dX12_good_1 ?_
  refine p_putI 124 5 dX12_good_2 wX12_53 rfl ?_
  refine p_aload_n 6 dX12_good_5 rfl rfl (by decide) ?_
  refine p_iconst 7 dX12_good_6 ?_
  refine p_putI 124 10 dX12_good_7 wX12_56 rfl ?_
  refine p_vret dX12_good_10 rfl ?_
  exact ⟨rfl, rfl⟩
theorem s_no {l : Launch} {X : ZX} {M : ZM} {why : Int} : zCi l X 0 yX12_no tX12_no [zr 124, zi why] M (fun a M' => a = -1 ∧ M' = zset M 124 11 why) := by
  refine zC.of [some (zr 124), some (zi why)] (by decide +kernel) rfl rfl (Nat.le_of_ble_eq_true rfl) rfl ?_
  refine p_aload_n 1 dX12_no_0 rfl rfl (by decide) ?_
  refine p_iload_n 2 dX12_no_1 rfl rfl ?_
  refine p_putI 124 5 dX12_no_2 wX12_56 rfl ?_
  refine p_iconst 6 dX12_no_5 ?_
  refine p_iret dX12_no_6 rfl ?_
  exact ⟨_, rfl, rfl, rfl⟩
theorem s_isNot {l : Launch} {X : ZX} {M : ZM} {why : Int} : zCi l X 0 yX12_isNot tX12_isNot [zr 124, zi why] M (fun a M' => a = 0 ∧ M' = zset M 124 11 why) := by
  refine zC.of [some (zr 124), some (zi why)] (by decide +kernel) rfl rfl (Nat.le_of_ble_eq_true rfl) rfl ?_
  refine p_aload_n 1 dX12_isNot_0 rfl rfl (by decide) ?_
  refine p_iload_n 2 dX12_isNot_1 rfl rfl ?_
  refine p_putI 124 5 dX12_isNot_2 wX12_56 rfl ?_
  refine p_iconst 6 dX12_isNot_5 ?_
  refine p_zret dX12_isNot_6 rfl (by decide) ?_
  exact ⟨_, rfl, rfl, rfl⟩
theorem s_kindOf {l : Launch} {X : ZX} {M : ZM} {ρ : Nat → Int} (hW : zWm M) (hE : ∀ i, i < 421 → M 127 i = ρ i) (hR : wfR ρ) {s : Nat} (hs : s < 7) : zCi l X 0 yX12_kindOf tX12_kindOf [zr 124, zi (s : Int)] M (fun a M' => a = ρ (8 + 3 * s) ∧ M' = M) := by
  refine zC.of [some (zr 124), some (zi (s : Int))] (by decide +kernel) rfl rfl (Nat.le_of_ble_eq_true rfl) rfl ?_
  refine p_aload_n 1 dX12_kindOf_0 rfl rfl (by decide) ?_
  refine p_getR 124 4 dX12_kindOf_1 fX12_20 rfl (hW (124, 15, 127) (by decide)) ?_
  refine p_bipush 6 dX12_kindOf_4 rfl ?_
  refine p_iconst 7 dX12_kindOf_6 ?_
  refine p_iload_n 8 dX12_kindOf_7 rfl rfl ?_
  refine p_imul 9 dX12_kindOf_8 ?_
  refine p_iadd 10 dX12_kindOf_9 ?_
  refine p_ialdn 127 11 (8 + 3 * s) dX12_kindOf_10 rfl (by omega) (by omega) ?_
  refine p_iret dX12_kindOf_11 rfl ?_
  exact ⟨_, rfl, hE _ (by omega), rfl⟩
theorem s_frailOf {l : Launch} {X : ZX} {M : ZM} {ρ : Nat → Int} (hW : zWm M) (hE : ∀ i, i < 421 → M 127 i = ρ i) (hR : wfR ρ) {s : Nat} (hs : s < 7) : zCi l X 1 yX12_frailOf tX12_frailOf [zr 124, zi (s : Int)] M (fun a M' => a = (q_wt (q_n ρ) s : Int) ∧ M' = M) := by
  obtain ⟨b1, b2, b3⟩ := hR.2.2.1 s hs
  have n1 := hR.1 (8 + 3 * s) (by omega)
  have n2 := hR.1 (8 + 3 * s + 1) (by omega)
  have n3 := hR.1 (8 + 3 * s + 2) (by omega)
  refine zC.of [some (zr 124), some (zi (s : Int)), none] (by decide +kernel) rfl rfl (Nat.le_of_ble_eq_true rfl) rfl ?_
  refine p_aload_n 1 dX12_frailOf_0 rfl rfl (by decide) ?_
  refine p_getR 124 4 dX12_frailOf_1 fX12_20 rfl (hW (124, 15, 127) (by decide)) ?_
  refine p_bipush 6 dX12_frailOf_4 rfl ?_
  refine p_iconst 7 dX12_frailOf_6 ?_
  refine p_iload_n 8 dX12_frailOf_7 rfl rfl ?_
  refine p_imul 9 dX12_frailOf_8 ?_
  refine p_iadd 10 dX12_frailOf_9 ?_
  refine p_iconst 11 dX12_frailOf_10 ?_
  refine p_iadd 12 dX12_frailOf_11 ?_
  refine p_ialdn 127 13 (8 + 3 * s + 2) dX12_frailOf_12 rfl (by omega) (by omega) ?_
  rw [hE _ (by omega)]
  refine p_istore_n 14 dX12_frailOf_13 rfl (Nat.le_of_ble_eq_true rfl) rfl rfl ?_
  dsimp only [List.set]
  refine p_aload_n 15 dX12_frailOf_14 rfl rfl (by decide) ?_
  refine p_iload_n 16 dX12_frailOf_15 rfl rfl ?_
  refine p_callV1i 124 19 dX12_frailOf_16 (s_kindOf hW hE hR hs) lk_X12_269 mX12_kindOf rfl rfl (by decide) (Nat.le_of_ble_eq_true rfl) ?_
  rintro _ _ ⟨rfl, rfl⟩
  refine p_iconst 20 dX12_frailOf_19 ?_
  refine p_icmp_ne 29 23 dX12_frailOf_20 (by omega) (by omega) (by omega) (by omega) (fun h20 => ?_) (fun h20 => ?_)
  · refine p_aload_n 30 dX12_frailOf_29 rfl rfl (by decide) ?_
    refine p_iload_n 31 dX12_frailOf_30 rfl rfl ?_
    refine p_callV1i 124 34 dX12_frailOf_31 (s_kindOf hW hE hR hs) lk_X12_269 mX12_kindOf rfl rfl (by decide) (Nat.le_of_ble_eq_true rfl) ?_
    rintro _ _ ⟨rfl, rfl⟩
    refine p_iconst 35 dX12_frailOf_34 ?_
    refine p_icmp_ne 44 38 dX12_frailOf_35 (by omega) (by omega) (by omega) (by omega) (fun h35 => ?_) (fun h35 => ?_)
    · refine p_iload_n 45 dX12_frailOf_44 rfl rfl ?_
      refine p_iret dX12_frailOf_45 rfl ?_
      refine ⟨_, rfl, ?_, rfl⟩
      unfold q_wt q_n
      first
        | (rw [if_pos (by omega)]; omega)
        | (rw [if_neg (by omega), if_pos (by omega)]
           have h2 := z_idiv_n (ρ (8 + 3 * s + 2)).toNat 2 (by omega) (by decide)
           rw [Int.toNat_of_nonneg n3] at h2
           exact h2)
        | (rw [if_neg (by omega), if_neg (by omega)]; omega)
    · refine p_iload_n 39 dX12_frailOf_38 rfl rfl ?_
      refine p_iconst 40 dX12_frailOf_39 ?_
      refine p_idiv 41 dX12_frailOf_40 (by decide) ?_
      refine p_goto 45 dX12_frailOf_41 ?_
      refine p_iret dX12_frailOf_45 rfl ?_
      refine ⟨_, rfl, ?_, rfl⟩
      unfold q_wt q_n
      first
        | (rw [if_pos (by omega)]; omega)
        | (rw [if_neg (by omega), if_pos (by omega)]
           have h2 := z_idiv_n (ρ (8 + 3 * s + 2)).toNat 2 (by omega) (by decide)
           rw [Int.toNat_of_nonneg n3] at h2
           exact h2)
        | (rw [if_neg (by omega), if_neg (by omega)]; omega)
  · refine p_iconst 24 dX12_frailOf_23 ?_
    refine p_iload_n 25 dX12_frailOf_24 rfl rfl ?_
    refine p_imul 26 dX12_frailOf_25 ?_
    refine p_goto 45 dX12_frailOf_26 ?_
    refine p_iret dX12_frailOf_45 rfl ?_
    refine ⟨_, rfl, ?_, rfl⟩
    unfold q_wt q_n
    first
      | (rw [if_pos (by omega)]; omega)
      | (rw [if_neg (by omega), if_pos (by omega)]
         have h2 := z_idiv_n (ρ (8 + 3 * s + 2)).toNat 2 (by omega) (by decide)
         rw [Int.toNat_of_nonneg n3] at h2
         exact h2)
      | (rw [if_neg (by omega), if_neg (by omega)]; omega)
theorem s_canReach {l : Launch} {X : ZX} {M : ZM} {ρ : Nat → Int} (hW : zWm M) (hE : ∀ i, i < 421 → M 127 i = ρ i) (hR : wfR ρ) {a s : Nat} (ha : a < 3) (hs : s < 7) : zCi l X 0 yX12_canReach tX12_canReach [zr 124, zi (a : Int), zi (s : Int)] M (fun x M' => x = (if q_reach (q_n ρ) a s = true then 1 else 0) ∧ M' = M) := by
  obtain ⟨b1, b2, b3⟩ := hR.2.2.1 s hs
  have n1 := hR.1 (8 + 3 * s) (by omega)
  have n2 := hR.1 (8 + 3 * s + 1) (by omega)
  have n3 := hR.1 (8 + 3 * s + 2) (by omega)
  obtain ⟨d1, d2, d3⟩ := hR.2.2.2.1 a ha
  have n4 := hR.1 (29 + 3 * a) (by omega)
  have n5 := hR.1 (29 + 3 * a + 2) (by omega)
  refine zC.of [some (zr 124), some (zi (a : Int)), some (zi (s : Int)), none] (by decide +kernel) rfl rfl (Nat.le_of_ble_eq_true rfl) rfl ?_
  refine p_aload_n 1 dX12_canReach_0 rfl rfl (by decide) ?_
  refine p_getR 124 4 dX12_canReach_1 fX12_20 rfl (hW (124, 15, 127) (by decide)) ?_
  refine p_bipush 6 dX12_canReach_4 rfl ?_
  refine p_iconst 7 dX12_canReach_6 ?_
  refine p_iload_n 8 dX12_canReach_7 rfl rfl ?_
  refine p_imul 9 dX12_canReach_8 ?_
  refine p_iadd 10 dX12_canReach_9 ?_
  refine p_ialdn 127 11 (29 + 3 * a) dX12_canReach_10 rfl (by omega) (by omega) ?_
  rw [hE _ (by omega)]
  refine p_aload_n 12 dX12_canReach_11 rfl rfl (by decide) ?_
  refine p_getR 124 15 dX12_canReach_12 fX12_20 rfl (hW (124, 15, 127) (by decide)) ?_
  refine p_bipush 17 dX12_canReach_15 rfl ?_
  refine p_iconst 18 dX12_canReach_17 ?_
  refine p_iload_n 19 dX12_canReach_18 rfl rfl ?_
  refine p_imul 20 dX12_canReach_19 ?_
  refine p_iadd 21 dX12_canReach_20 ?_
  refine p_iconst 22 dX12_canReach_21 ?_
  refine p_iadd 23 dX12_canReach_22 ?_
  refine p_ialdn 127 24 (8 + 3 * s + 1) dX12_canReach_23 rfl (by omega) (by omega) ?_
  rw [hE _ (by omega)]
  refine p_isub 25 dX12_canReach_24 ?_
  refine p_istore_n 26 dX12_canReach_25 rfl (Nat.le_of_ble_eq_true rfl) rfl rfl ?_
  dsimp only [List.set]
  refine p_iload_n 27 dX12_canReach_26 rfl rfl ?_
  refine p_if_ge 35 30 dX12_canReach_27 (by omega) (by omega) (fun h27 => ?_) (fun h27 => ?_)
  · refine p_iload_n 36 dX12_canReach_35 rfl rfl ?_
    refine p_aload_n 37 dX12_canReach_36 rfl rfl (by decide) ?_
    refine p_getR 124 40 dX12_canReach_37 fX12_20 rfl (hW (124, 15, 127) (by decide)) ?_
    refine p_bipush 42 dX12_canReach_40 rfl ?_
    refine p_iconst 43 dX12_canReach_42 ?_
    refine p_iload_n 44 dX12_canReach_43 rfl rfl ?_
    refine p_imul 45 dX12_canReach_44 ?_
    refine p_iadd 46 dX12_canReach_45 ?_
    refine p_iconst 47 dX12_canReach_46 ?_
    refine p_iadd 48 dX12_canReach_47 ?_
    refine p_ialdn 127 49 (29 + 3 * a + 2) dX12_canReach_48 rfl (by omega) (by omega) ?_
    rw [hE _ (by omega)]
    refine p_icmp_gt 56 52 dX12_canReach_49 (by omega) (by omega) (by omega) (by omega) (fun h49 => ?_) (fun h49 => ?_)
    · refine p_iconst 57 dX12_canReach_56 ?_
      refine p_zret dX12_canReach_57 rfl (by decide) ?_
      refine ⟨_, rfl, ?_, rfl⟩
      unfold q_reach q_dist q_n
      first | (rw [if_pos (decide_eq_true (by split <;> omega))]; done) | (rw [if_neg (by rw [decide_eq_true_eq]; split <;> omega)]; done)
    · refine p_iconst 53 dX12_canReach_52 ?_
      refine p_goto 57 dX12_canReach_53 ?_
      refine p_zret dX12_canReach_57 rfl (by decide) ?_
      refine ⟨_, rfl, ?_, rfl⟩
      unfold q_reach q_dist q_n
      first | (rw [if_pos (decide_eq_true (by split <;> omega))]; done) | (rw [if_neg (by rw [decide_eq_true_eq]; split <;> omega)]; done)
  · refine p_iload_n 31 dX12_canReach_30 rfl rfl ?_
    refine p_ineg 32 dX12_canReach_31 ?_
    refine p_goto 36 dX12_canReach_32 ?_
    refine p_aload_n 37 dX12_canReach_36 rfl rfl (by decide) ?_
    refine p_getR 124 40 dX12_canReach_37 fX12_20 rfl (hW (124, 15, 127) (by decide)) ?_
    refine p_bipush 42 dX12_canReach_40 rfl ?_
    refine p_iconst 43 dX12_canReach_42 ?_
    refine p_iload_n 44 dX12_canReach_43 rfl rfl ?_
    refine p_imul 45 dX12_canReach_44 ?_
    refine p_iadd 46 dX12_canReach_45 ?_
    refine p_iconst 47 dX12_canReach_46 ?_
    refine p_iadd 48 dX12_canReach_47 ?_
    refine p_ialdn 127 49 (29 + 3 * a + 2) dX12_canReach_48 rfl (by omega) (by omega) ?_
    rw [hE _ (by omega)]
    refine p_icmp_gt 56 52 dX12_canReach_49 (by omega) (by omega) (by omega) (by omega) (fun h49 => ?_) (fun h49 => ?_)
    · refine p_iconst 57 dX12_canReach_56 ?_
      refine p_zret dX12_canReach_57 rfl (by decide) ?_
      refine ⟨_, rfl, ?_, rfl⟩
      unfold q_reach q_dist q_n
      first | (rw [if_pos (decide_eq_true (by split <;> omega))]; done) | (rw [if_neg (by rw [decide_eq_true_eq]; split <;> omega)]; done)
    · refine p_iconst 53 dX12_canReach_52 ?_
      refine p_goto 57 dX12_canReach_53 ?_
      refine p_zret dX12_canReach_57 rfl (by decide) ?_
      refine ⟨_, rfl, ?_, rfl⟩
      unfold q_reach q_dist q_n
      first | (rw [if_pos (decide_eq_true (by split <;> omega))]; done) | (rw [if_neg (by rw [decide_eq_true_eq]; split <;> omega)]; done)
theorem l_harmBy_129 {l : Launch} {X : ZX} {M : ZM} {ρ : Nat → Int} (hW : zWm M) (hE : ∀ i, i < 421 → M 127 i = ρ i) (hR : wfR ρ) {v : Nat → Int} (hv : ∀ i, i < 7 → M 129 (7 + i) = v i) (hv1 : ∀ i, i < 7 → 0 ≤ v i) (hv2 : ∀ i, i < 7 → v i ≤ 1000) {S : Nat} (hS : ∀ i, i < 7 → (S.testBit i = true ↔ 0 < v i)) {s : Nat} (hs : s < 7) (hb : ¬ S.testBit s = true) : ∀ (j i : Nat), i + j = q_n ρ 2 → zP l X 2 tX12_harmBy 16 [some (zr 124), some (zr 129), some (zi 7), some (zi (s : Int)), some (zi (if ρ (8 + 3 * s) = 3 ∧ q_any (q_n ρ) S i = true then 1 else 0)), some (zi (i : Int))] [] M (fun r M' => ∃ a, r = some (zi a) ∧ (a = (q_harm (q_n ρ) S s : Int) ∧ M' = M)) := by
  obtain ⟨b1, b2, b3⟩ := hR.2.2.1 s hs
  have n1 := hR.1 (8 + 3 * s) (by omega)
  have n2 := hR.1 (8 + 3 * s + 1) (by omega)
  have n3 := hR.1 (8 + 3 * s + 2) (by omega)
  have e2 : ρ 2 = (q_n ρ 2 : Int) := hR.n (by decide)
  have b7 := hR.2.1.2.2.1
  intro j
  induction j with
  | zero =>
    intro i hi
    refine p_iload 18 dX12_harmBy_16 rfl ?_
    refine p_aload_n 19 dX12_harmBy_18 rfl rfl (by decide) ?_
    refine p_getR 124 22 dX12_harmBy_19 fX12_20 rfl (hW (124, 15, 127) (by decide)) ?_
    refine p_iconst 23 dX12_harmBy_22 ?_
    refine p_iald 127 24 dX12_harmBy_23 rfl (by omega) (by omega) ?_
    try simp only [Int.toNat_natCast, Int.reduceToNat]
    rw [hE 2 (by decide)]
    refine p_icmp_ge 73 27 dX12_harmBy_24 (by omega) (by omega) (by omega) (by omega) (fun h24 => ?_) (fun h24 => absurd (by omega) (fun h9 : False => h9))
    refine p_iload 75 dX12_harmBy_73 rfl ?_
    refine p_if_eq 82 78 dX12_harmBy_75 (by split <;> omega) (by split <;> omega) (fun h75 => ?_) (fun h75 => ?_)
    · refine p_aload_n 83 dX12_harmBy_82 rfl rfl (by decide) ?_
      refine p_iload_n 84 dX12_harmBy_83 rfl rfl ?_
      refine p_callV1i 124 87 dX12_harmBy_84 (s_frailOf hW hE hR hs) lk_X12_272 mX12_frailOf rfl rfl (by decide) (Nat.le_of_ble_eq_true rfl) ?_
      rintro _ _ ⟨rfl, rfl⟩
      refine p_iret dX12_harmBy_87 rfl ?_
      refine ⟨_, rfl, ?_, rfl⟩
      rw [Nat.add_zero] at hi
      subst hi
      unfold q_harm
      rw [if_neg hb]
      first
        | (rw [if_neg]
           rintro ⟨g1, g2⟩
           rw [if_pos ⟨by unfold q_n at g1; omega, g2⟩] at h75
           exact absurd h75 (by decide))
        | (rw [if_pos]
           · rfl
           · by_cases g : ρ (8 + 3 * s) = 3 ∧ q_any (q_n ρ) S (q_n ρ 2) = true
             · exact ⟨by unfold q_n; omega, g.2⟩
             · rw [if_neg g] at h75; exact absurd rfl h75)
    · refine p_iconst 79 dX12_harmBy_78 ?_
      refine p_goto 87 dX12_harmBy_79 ?_
      refine p_iret dX12_harmBy_87 rfl ?_
      refine ⟨_, rfl, ?_, rfl⟩
      rw [Nat.add_zero] at hi
      subst hi
      unfold q_harm
      rw [if_neg hb]
      first
        | (rw [if_neg]
           rintro ⟨g1, g2⟩
           rw [if_pos ⟨by unfold q_n at g1; omega, g2⟩] at h75
           exact absurd h75 (by decide))
        | (rw [if_pos]
           · rfl
           · by_cases g : ρ (8 + 3 * s) = 3 ∧ q_any (q_n ρ) S (q_n ρ 2) = true
             · exact ⟨by unfold q_n; omega, g.2⟩
             · rw [if_neg g] at h75; exact absurd rfl h75)
  | succ j ih =>
    intro i hi
    obtain ⟨c1, -, -⟩ := hR.2.2.1 i (by omega)
    have c0 := hR.1 (8 + 3 * i) (by omega)
    have v1 := hv1 i (by omega)
    have v2 := hv2 i (by omega)
    refine p_iload 18 dX12_harmBy_16 rfl ?_
    refine p_aload_n 19 dX12_harmBy_18 rfl rfl (by decide) ?_
    refine p_getR 124 22 dX12_harmBy_19 fX12_20 rfl (hW (124, 15, 127) (by decide)) ?_
    refine p_iconst 23 dX12_harmBy_22 ?_
    refine p_iald 127 24 dX12_harmBy_23 rfl (by omega) (by omega) ?_
    try simp only [Int.toNat_natCast, Int.reduceToNat]
    rw [hE 2 (by decide)]
    refine p_icmp_ge 73 27 dX12_harmBy_24 (by omega) (by omega) (by omega) (by omega) (fun h24 => absurd (by omega) (fun h9 : False => h9)) (fun h24 => ?_)
    refine p_iload 29 dX12_harmBy_27 rfl ?_
    refine p_if_ne 60 32 dX12_harmBy_29 (by split <;> omega) (by split <;> omega) (fun h29 => ?_) (fun h29 => ?_)
    · refine p_iconst 61 dX12_harmBy_60 ?_
      refine p_goto 65 dX12_harmBy_61 ?_
      refine p_istore 67 dX12_harmBy_65 (Nat.le_of_ble_eq_true rfl) rfl rfl ?_
      dsimp only [List.set]
      refine p_iinc 70 dX12_harmBy_67 rfl rfl rfl ?_
      dsimp only [List.set]
      refine p_goto 16 dX12_harmBy_70 ?_
      have e := ih (i + 1) (by omega)
      have er : q_any (q_n ρ) S (i + 1) = (q_any (q_n ρ) S i || (decide (q_n ρ (8 + 3 * i) = 3) && S.testBit i)) := rfl
      rw [er] at e
      have hSi := hS i (by omega)
      first
        | (have g : ρ (8 + 3 * s) = 3 ∧ q_any (q_n ρ) S i = true := by
             by_cases g : ρ (8 + 3 * s) = 3 ∧ q_any (q_n ρ) S i = true
             · exact g
             · rw [if_neg g] at h29; exact absurd rfl h29
           rw [g.2, Bool.true_or, if_pos ⟨g.1, rfl⟩] at e
           exact e)
        | (rw [if_neg (fun g => by omega)] at e
           exact e)
        | (rw [if_pos ⟨by omega, by rw [show decide (q_n ρ (8 + 3 * i) = 3) = true from decide_eq_true (by unfold q_n; omega), hSi.mpr (by omega)]; simp⟩] at e
           exact e)
        | (have g0 : ¬ (ρ (8 + 3 * s) = 3 ∧ q_any (q_n ρ) S i = true) := by
             intro g
             rw [if_pos g] at h29
             exact absurd (by decide) h29
           have g1 : q_any (q_n ρ) S i = false := by
             cases g1 : q_any (q_n ρ) S i
             · rfl
             · exact absurd ⟨by omega, g1⟩ g0
           have g2 : (decide (q_n ρ (8 + 3 * i) = 3) && S.testBit i) = false := by
             first
               | (rw [show decide (q_n ρ (8 + 3 * i) = 3) = false from decide_eq_false (by unfold q_n; omega)]; rfl)
               | (have : S.testBit i = false := by
                    cases g3 : S.testBit i
                    · rfl
                    · have := hSi.mp g3; omega
                  rw [this, Bool.and_false])
           rw [g1, g2, if_neg (by rintro ⟨-, g4⟩; exact absurd g4 (by decide))] at e
           exact e)
    · refine p_aload_n 33 dX12_harmBy_32 rfl rfl (by decide) ?_
      refine p_iload_n 34 dX12_harmBy_33 rfl rfl ?_
      refine p_callV1i 124 37 dX12_harmBy_34 (s_kindOf hW hE hR hs) lk_X12_269 mX12_kindOf rfl rfl (by decide) (Nat.le_of_ble_eq_true rfl) ?_
      rintro _ _ ⟨rfl, rfl⟩
      refine p_iconst 38 dX12_harmBy_37 ?_
      refine p_icmp_ne 64 41 dX12_harmBy_38 (by omega) (by omega) (by omega) (by omega) (fun h38 => ?_) (fun h38 => ?_)
      · refine p_iconst 65 dX12_harmBy_64 ?_
        refine p_istore 67 dX12_harmBy_65 (Nat.le_of_ble_eq_true rfl) rfl rfl ?_
        dsimp only [List.set]
        refine p_iinc 70 dX12_harmBy_67 rfl rfl rfl ?_
        dsimp only [List.set]
        refine p_goto 16 dX12_harmBy_70 ?_
        have e := ih (i + 1) (by omega)
        have er : q_any (q_n ρ) S (i + 1) = (q_any (q_n ρ) S i || (decide (q_n ρ (8 + 3 * i) = 3) && S.testBit i)) := rfl
        rw [er] at e
        have hSi := hS i (by omega)
        first
          | (have g : ρ (8 + 3 * s) = 3 ∧ q_any (q_n ρ) S i = true := by
               by_cases g : ρ (8 + 3 * s) = 3 ∧ q_any (q_n ρ) S i = true
               · exact g
               · rw [if_neg g] at h29; exact absurd rfl h29
             rw [g.2, Bool.true_or, if_pos ⟨g.1, rfl⟩] at e
             exact e)
          | (rw [if_neg (fun g => by omega)] at e
             exact e)
          | (rw [if_pos ⟨by omega, by rw [show decide (q_n ρ (8 + 3 * i) = 3) = true from decide_eq_true (by unfold q_n; omega), hSi.mpr (by omega)]; simp⟩] at e
             exact e)
          | (have g0 : ¬ (ρ (8 + 3 * s) = 3 ∧ q_any (q_n ρ) S i = true) := by
               intro g
               rw [if_pos g] at h29
               exact absurd (by decide) h29
             have g1 : q_any (q_n ρ) S i = false := by
               cases g1 : q_any (q_n ρ) S i
               · rfl
               · exact absurd ⟨by omega, g1⟩ g0
             have g2 : (decide (q_n ρ (8 + 3 * i) = 3) && S.testBit i) = false := by
               first
                 | (rw [show decide (q_n ρ (8 + 3 * i) = 3) = false from decide_eq_false (by unfold q_n; omega)]; rfl)
                 | (have : S.testBit i = false := by
                      cases g3 : S.testBit i
                      · rfl
                      · have := hSi.mp g3; omega
                    rw [this, Bool.and_false])
             rw [g1, g2, if_neg (by rintro ⟨-, g4⟩; exact absurd g4 (by decide))] at e
             exact e)
      · refine p_aload_n 42 dX12_harmBy_41 rfl rfl (by decide) ?_
        refine p_iload 44 dX12_harmBy_42 rfl ?_
        refine p_callV1i 124 47 dX12_harmBy_44 (s_kindOf hW hE hR (s := i) (by omega)) lk_X12_269 mX12_kindOf rfl rfl (by decide) (Nat.le_of_ble_eq_true rfl) ?_
        rintro _ _ ⟨rfl, rfl⟩
        refine p_iconst 48 dX12_harmBy_47 ?_
        refine p_icmp_ne 64 51 dX12_harmBy_48 (by omega) (by omega) (by omega) (by omega) (fun h48 => ?_) (fun h48 => ?_)
        · refine p_iconst 65 dX12_harmBy_64 ?_
          refine p_istore 67 dX12_harmBy_65 (Nat.le_of_ble_eq_true rfl) rfl rfl ?_
          dsimp only [List.set]
          refine p_iinc 70 dX12_harmBy_67 rfl rfl rfl ?_
          dsimp only [List.set]
          refine p_goto 16 dX12_harmBy_70 ?_
          have e := ih (i + 1) (by omega)
          have er : q_any (q_n ρ) S (i + 1) = (q_any (q_n ρ) S i || (decide (q_n ρ (8 + 3 * i) = 3) && S.testBit i)) := rfl
          rw [er] at e
          have hSi := hS i (by omega)
          first
            | (have g : ρ (8 + 3 * s) = 3 ∧ q_any (q_n ρ) S i = true := by
                 by_cases g : ρ (8 + 3 * s) = 3 ∧ q_any (q_n ρ) S i = true
                 · exact g
                 · rw [if_neg g] at h29; exact absurd rfl h29
               rw [g.2, Bool.true_or, if_pos ⟨g.1, rfl⟩] at e
               exact e)
            | (rw [if_neg (fun g => by omega)] at e
               exact e)
            | (rw [if_pos ⟨by omega, by rw [show decide (q_n ρ (8 + 3 * i) = 3) = true from decide_eq_true (by unfold q_n; omega), hSi.mpr (by omega)]; simp⟩] at e
               exact e)
            | (have g0 : ¬ (ρ (8 + 3 * s) = 3 ∧ q_any (q_n ρ) S i = true) := by
                 intro g
                 rw [if_pos g] at h29
                 exact absurd (by decide) h29
               have g1 : q_any (q_n ρ) S i = false := by
                 cases g1 : q_any (q_n ρ) S i
                 · rfl
                 · exact absurd ⟨by omega, g1⟩ g0
               have g2 : (decide (q_n ρ (8 + 3 * i) = 3) && S.testBit i) = false := by
                 first
                   | (rw [show decide (q_n ρ (8 + 3 * i) = 3) = false from decide_eq_false (by unfold q_n; omega)]; rfl)
                   | (have : S.testBit i = false := by
                        cases g3 : S.testBit i
                        · rfl
                        · have := hSi.mp g3; omega
                      rw [this, Bool.and_false])
               rw [g1, g2, if_neg (by rintro ⟨-, g4⟩; exact absurd g4 (by decide))] at e
               exact e)
        · refine p_aload_n 52 dX12_harmBy_51 rfl rfl (by decide) ?_
          refine p_iload_n 53 dX12_harmBy_52 rfl rfl ?_
          refine p_iload 55 dX12_harmBy_53 rfl ?_
          refine p_iadd 56 dX12_harmBy_55 ?_
          refine p_ialdn 129 57 (7 + i) dX12_harmBy_56 rfl (by omega) (by omega) ?_
          rw [hv i (by omega)]
          refine p_if_le 64 60 dX12_harmBy_57 (by omega) (by omega) (fun h57 => ?_) (fun h57 => ?_)
          · refine p_iconst 65 dX12_harmBy_64 ?_
            refine p_istore 67 dX12_harmBy_65 (Nat.le_of_ble_eq_true rfl) rfl rfl ?_
            dsimp only [List.set]
            refine p_iinc 70 dX12_harmBy_67 rfl rfl rfl ?_
            dsimp only [List.set]
            refine p_goto 16 dX12_harmBy_70 ?_
            have e := ih (i + 1) (by omega)
            have er : q_any (q_n ρ) S (i + 1) = (q_any (q_n ρ) S i || (decide (q_n ρ (8 + 3 * i) = 3) && S.testBit i)) := rfl
            rw [er] at e
            have hSi := hS i (by omega)
            first
              | (have g : ρ (8 + 3 * s) = 3 ∧ q_any (q_n ρ) S i = true := by
                   by_cases g : ρ (8 + 3 * s) = 3 ∧ q_any (q_n ρ) S i = true
                   · exact g
                   · rw [if_neg g] at h29; exact absurd rfl h29
                 rw [g.2, Bool.true_or, if_pos ⟨g.1, rfl⟩] at e
                 exact e)
              | (rw [if_neg (fun g => by omega)] at e
                 exact e)
              | (rw [if_pos ⟨by omega, by rw [show decide (q_n ρ (8 + 3 * i) = 3) = true from decide_eq_true (by unfold q_n; omega), hSi.mpr (by omega)]; simp⟩] at e
                 exact e)
              | (have g0 : ¬ (ρ (8 + 3 * s) = 3 ∧ q_any (q_n ρ) S i = true) := by
                   intro g
                   rw [if_pos g] at h29
                   exact absurd (by decide) h29
                 have g1 : q_any (q_n ρ) S i = false := by
                   cases g1 : q_any (q_n ρ) S i
                   · rfl
                   · exact absurd ⟨by omega, g1⟩ g0
                 have g2 : (decide (q_n ρ (8 + 3 * i) = 3) && S.testBit i) = false := by
                   first
                     | (rw [show decide (q_n ρ (8 + 3 * i) = 3) = false from decide_eq_false (by unfold q_n; omega)]; rfl)
                     | (have : S.testBit i = false := by
                          cases g3 : S.testBit i
                          · rfl
                          · have := hSi.mp g3; omega
                        rw [this, Bool.and_false])
                 rw [g1, g2, if_neg (by rintro ⟨-, g4⟩; exact absurd g4 (by decide))] at e
                 exact e)
          · refine p_iconst 61 dX12_harmBy_60 ?_
            refine p_goto 65 dX12_harmBy_61 ?_
            refine p_istore 67 dX12_harmBy_65 (Nat.le_of_ble_eq_true rfl) rfl rfl ?_
            dsimp only [List.set]
            refine p_iinc 70 dX12_harmBy_67 rfl rfl rfl ?_
            dsimp only [List.set]
            refine p_goto 16 dX12_harmBy_70 ?_
            have e := ih (i + 1) (by omega)
            have er : q_any (q_n ρ) S (i + 1) = (q_any (q_n ρ) S i || (decide (q_n ρ (8 + 3 * i) = 3) && S.testBit i)) := rfl
            rw [er] at e
            have hSi := hS i (by omega)
            first
              | (have g : ρ (8 + 3 * s) = 3 ∧ q_any (q_n ρ) S i = true := by
                   by_cases g : ρ (8 + 3 * s) = 3 ∧ q_any (q_n ρ) S i = true
                   · exact g
                   · rw [if_neg g] at h29; exact absurd rfl h29
                 rw [g.2, Bool.true_or, if_pos ⟨g.1, rfl⟩] at e
                 exact e)
              | (rw [if_neg (fun g => by omega)] at e
                 exact e)
              | (rw [if_pos ⟨by omega, by rw [show decide (q_n ρ (8 + 3 * i) = 3) = true from decide_eq_true (by unfold q_n; omega), hSi.mpr (by omega)]; simp⟩] at e
                 exact e)
              | (have g0 : ¬ (ρ (8 + 3 * s) = 3 ∧ q_any (q_n ρ) S i = true) := by
                   intro g
                   rw [if_pos g] at h29
                   exact absurd (by decide) h29
                 have g1 : q_any (q_n ρ) S i = false := by
                   cases g1 : q_any (q_n ρ) S i
                   · rfl
                   · exact absurd ⟨by omega, g1⟩ g0
                 have g2 : (decide (q_n ρ (8 + 3 * i) = 3) && S.testBit i) = false := by
                   first
                     | (rw [show decide (q_n ρ (8 + 3 * i) = 3) = false from decide_eq_false (by unfold q_n; omega)]; rfl)
                     | (have : S.testBit i = false := by
                          cases g3 : S.testBit i
                          · rfl
                          · have := hSi.mp g3; omega
                        rw [this, Bool.and_false])
                 rw [g1, g2, if_neg (by rintro ⟨-, g4⟩; exact absurd g4 (by decide))] at e
                 exact e)
theorem s_harmBy_129 {l : Launch} {X : ZX} {M : ZM} {ρ : Nat → Int} (hW : zWm M) (hE : ∀ i, i < 421 → M 127 i = ρ i) (hR : wfR ρ) {v : Nat → Int} (hv : ∀ i, i < 7 → M 129 (7 + i) = v i) (hv1 : ∀ i, i < 7 → 0 ≤ v i) (hv2 : ∀ i, i < 7 → v i ≤ 1000) {S : Nat} (hS : ∀ i, i < 7 → (S.testBit i = true ↔ 0 < v i)) {s : Nat} (hs : s < 7) : zCi l X 2 yX12_harmBy tX12_harmBy [zr 124, zr 129, zi 7, zi (s : Int)] M (fun a M' => a = (q_harm (q_n ρ) S s : Int) ∧ M' = M) := by
  have v1 := hv1 s hs
  have v2 := hv2 s hs
  refine zC.of [some (zr 124), some (zr 129), some (zi 7), some (zi (s : Int)), none, none] (by decide +kernel) rfl rfl (Nat.le_of_ble_eq_true rfl) rfl ?_
  refine p_aload_n 1 dX12_harmBy_0 rfl rfl (by decide) ?_
  refine p_iload_n 2 dX12_harmBy_1 rfl rfl ?_
  refine p_iload_n 3 dX12_harmBy_2 rfl rfl ?_
  refine p_iadd 4 dX12_harmBy_3 ?_
  refine p_ialdn 129 5 (7 + s) dX12_harmBy_4 rfl (by omega) (by omega) ?_
  rw [hv s hs]
  refine p_if_le 10 8 dX12_harmBy_5 (by omega) (by omega) (fun h5 => ?_) (fun h5 => ?_)
  · refine p_iconst 11 dX12_harmBy_10 ?_
    refine p_istore 13 dX12_harmBy_11 (Nat.le_of_ble_eq_true rfl) rfl rfl ?_
    dsimp only [List.set]
    refine p_iconst 14 dX12_harmBy_13 ?_
    refine p_istore 16 dX12_harmBy_14 (Nat.le_of_ble_eq_true rfl) rfl rfl ?_
    dsimp only [List.set]
    have hb : ¬ S.testBit s = true := fun hb => absurd ((hS s hs).mp hb) (by omega)
    have e := l_harmBy_129 (l := l) (X := X) hW hE hR hv hv1 hv2 hS hs hb (q_n ρ 2) 0 (Nat.zero_add _)
    have e0 : (if ρ (8 + 3 * s) = 3 ∧ q_any (q_n ρ) S 0 = true then (1 : Int) else 0) = 0 := if_neg (by rintro ⟨-, g⟩; exact Bool.noConfusion g)
    rw [e0] at e
    exact e
  · refine p_iconst 9 dX12_harmBy_8 ?_
    refine p_iret dX12_harmBy_9 rfl ?_
    refine ⟨_, rfl, ?_, rfl⟩
    unfold q_harm
    rw [if_pos ((hS s hs).mpr (by omega))]
    rfl
theorem l_harmBy_133 {l : Launch} {X : ZX} {M : ZM} {ρ : Nat → Int} (hW : zWm M) (hE : ∀ i, i < 421 → M 127 i = ρ i) (hR : wfR ρ) {v : Nat → Int} (hv : ∀ i, i < 7 → M 133 (0 + i) = v i) (hv1 : ∀ i, i < 7 → 0 ≤ v i) (hv2 : ∀ i, i < 7 → v i ≤ 1000) {S : Nat} (hS : ∀ i, i < 7 → (S.testBit i = true ↔ 0 < v i)) {s : Nat} (hs : s < 7) (hb : ¬ S.testBit s = true) : ∀ (j i : Nat), i + j = q_n ρ 2 → zP l X 2 tX12_harmBy 16 [some (zr 124), some (zr 133), some (zi 0), some (zi (s : Int)), some (zi (if ρ (8 + 3 * s) = 3 ∧ q_any (q_n ρ) S i = true then 1 else 0)), some (zi (i : Int))] [] M (fun r M' => ∃ a, r = some (zi a) ∧ (a = (q_harm (q_n ρ) S s : Int) ∧ M' = M)) := by
  obtain ⟨b1, b2, b3⟩ := hR.2.2.1 s hs
  have n1 := hR.1 (8 + 3 * s) (by omega)
  have n2 := hR.1 (8 + 3 * s + 1) (by omega)
  have n3 := hR.1 (8 + 3 * s + 2) (by omega)
  have e2 : ρ 2 = (q_n ρ 2 : Int) := hR.n (by decide)
  have b7 := hR.2.1.2.2.1
  intro j
  induction j with
  | zero =>
    intro i hi
    refine p_iload 18 dX12_harmBy_16 rfl ?_
    refine p_aload_n 19 dX12_harmBy_18 rfl rfl (by decide) ?_
    refine p_getR 124 22 dX12_harmBy_19 fX12_20 rfl (hW (124, 15, 127) (by decide)) ?_
    refine p_iconst 23 dX12_harmBy_22 ?_
    refine p_iald 127 24 dX12_harmBy_23 rfl (by omega) (by omega) ?_
    try simp only [Int.toNat_natCast, Int.reduceToNat]
    rw [hE 2 (by decide)]
    refine p_icmp_ge 73 27 dX12_harmBy_24 (by omega) (by omega) (by omega) (by omega) (fun h24 => ?_) (fun h24 => absurd (by omega) (fun h9 : False => h9))
    refine p_iload 75 dX12_harmBy_73 rfl ?_
    refine p_if_eq 82 78 dX12_harmBy_75 (by split <;> omega) (by split <;> omega) (fun h75 => ?_) (fun h75 => ?_)
    · refine p_aload_n 83 dX12_harmBy_82 rfl rfl (by decide) ?_
      refine p_iload_n 84 dX12_harmBy_83 rfl rfl ?_
      refine p_callV1i 124 87 dX12_harmBy_84 (s_frailOf hW hE hR hs) lk_X12_272 mX12_frailOf rfl rfl (by decide) (Nat.le_of_ble_eq_true rfl) ?_
      rintro _ _ ⟨rfl, rfl⟩
      refine p_iret dX12_harmBy_87 rfl ?_
      refine ⟨_, rfl, ?_, rfl⟩
      rw [Nat.add_zero] at hi
      subst hi
      unfold q_harm
      rw [if_neg hb]
      first
        | (rw [if_neg]
           rintro ⟨g1, g2⟩
           rw [if_pos ⟨by unfold q_n at g1; omega, g2⟩] at h75
           exact absurd h75 (by decide))
        | (rw [if_pos]
           · rfl
           · by_cases g : ρ (8 + 3 * s) = 3 ∧ q_any (q_n ρ) S (q_n ρ 2) = true
             · exact ⟨by unfold q_n; omega, g.2⟩
             · rw [if_neg g] at h75; exact absurd rfl h75)
    · refine p_iconst 79 dX12_harmBy_78 ?_
      refine p_goto 87 dX12_harmBy_79 ?_
      refine p_iret dX12_harmBy_87 rfl ?_
      refine ⟨_, rfl, ?_, rfl⟩
      rw [Nat.add_zero] at hi
      subst hi
      unfold q_harm
      rw [if_neg hb]
      first
        | (rw [if_neg]
           rintro ⟨g1, g2⟩
           rw [if_pos ⟨by unfold q_n at g1; omega, g2⟩] at h75
           exact absurd h75 (by decide))
        | (rw [if_pos]
           · rfl
           · by_cases g : ρ (8 + 3 * s) = 3 ∧ q_any (q_n ρ) S (q_n ρ 2) = true
             · exact ⟨by unfold q_n; omega, g.2⟩
             · rw [if_neg g] at h75; exact absurd rfl h75)
  | succ j ih =>
    intro i hi
    obtain ⟨c1, -, -⟩ := hR.2.2.1 i (by omega)
    have c0 := hR.1 (8 + 3 * i) (by omega)
    have v1 := hv1 i (by omega)
    have v2 := hv2 i (by omega)
    refine p_iload 18 dX12_harmBy_16 rfl ?_
    refine p_aload_n 19 dX12_harmBy_18 rfl rfl (by decide) ?_
    refine p_getR 124 22 dX12_harmBy_19 fX12_20 rfl (hW (124, 15, 127) (by decide)) ?_
    refine p_iconst 23 dX12_harmBy_22 ?_
    refine p_iald 127 24 dX12_harmBy_23 rfl (by omega) (by omega) ?_
    try simp only [Int.toNat_natCast, Int.reduceToNat]
    rw [hE 2 (by decide)]
    refine p_icmp_ge 73 27 dX12_harmBy_24 (by omega) (by omega) (by omega) (by omega) (fun h24 => absurd (by omega) (fun h9 : False => h9)) (fun h24 => ?_)
    refine p_iload 29 dX12_harmBy_27 rfl ?_
    refine p_if_ne 60 32 dX12_harmBy_29 (by split <;> omega) (by split <;> omega) (fun h29 => ?_) (fun h29 => ?_)
    · refine p_iconst 61 dX12_harmBy_60 ?_
      refine p_goto 65 dX12_harmBy_61 ?_
      refine p_istore 67 dX12_harmBy_65 (Nat.le_of_ble_eq_true rfl) rfl rfl ?_
      dsimp only [List.set]
      refine p_iinc 70 dX12_harmBy_67 rfl rfl rfl ?_
      dsimp only [List.set]
      refine p_goto 16 dX12_harmBy_70 ?_
      have e := ih (i + 1) (by omega)
      have er : q_any (q_n ρ) S (i + 1) = (q_any (q_n ρ) S i || (decide (q_n ρ (8 + 3 * i) = 3) && S.testBit i)) := rfl
      rw [er] at e
      have hSi := hS i (by omega)
      first
        | (have g : ρ (8 + 3 * s) = 3 ∧ q_any (q_n ρ) S i = true := by
             by_cases g : ρ (8 + 3 * s) = 3 ∧ q_any (q_n ρ) S i = true
             · exact g
             · rw [if_neg g] at h29; exact absurd rfl h29
           rw [g.2, Bool.true_or, if_pos ⟨g.1, rfl⟩] at e
           exact e)
        | (rw [if_neg (fun g => by omega)] at e
           exact e)
        | (rw [if_pos ⟨by omega, by rw [show decide (q_n ρ (8 + 3 * i) = 3) = true from decide_eq_true (by unfold q_n; omega), hSi.mpr (by omega)]; simp⟩] at e
           exact e)
        | (have g0 : ¬ (ρ (8 + 3 * s) = 3 ∧ q_any (q_n ρ) S i = true) := by
             intro g
             rw [if_pos g] at h29
             exact absurd (by decide) h29
           have g1 : q_any (q_n ρ) S i = false := by
             cases g1 : q_any (q_n ρ) S i
             · rfl
             · exact absurd ⟨by omega, g1⟩ g0
           have g2 : (decide (q_n ρ (8 + 3 * i) = 3) && S.testBit i) = false := by
             first
               | (rw [show decide (q_n ρ (8 + 3 * i) = 3) = false from decide_eq_false (by unfold q_n; omega)]; rfl)
               | (have : S.testBit i = false := by
                    cases g3 : S.testBit i
                    · rfl
                    · have := hSi.mp g3; omega
                  rw [this, Bool.and_false])
           rw [g1, g2, if_neg (by rintro ⟨-, g4⟩; exact absurd g4 (by decide))] at e
           exact e)
    · refine p_aload_n 33 dX12_harmBy_32 rfl rfl (by decide) ?_
      refine p_iload_n 34 dX12_harmBy_33 rfl rfl ?_
      refine p_callV1i 124 37 dX12_harmBy_34 (s_kindOf hW hE hR hs) lk_X12_269 mX12_kindOf rfl rfl (by decide) (Nat.le_of_ble_eq_true rfl) ?_
      rintro _ _ ⟨rfl, rfl⟩
      refine p_iconst 38 dX12_harmBy_37 ?_
      refine p_icmp_ne 64 41 dX12_harmBy_38 (by omega) (by omega) (by omega) (by omega) (fun h38 => ?_) (fun h38 => ?_)
      · refine p_iconst 65 dX12_harmBy_64 ?_
        refine p_istore 67 dX12_harmBy_65 (Nat.le_of_ble_eq_true rfl) rfl rfl ?_
        dsimp only [List.set]
        refine p_iinc 70 dX12_harmBy_67 rfl rfl rfl ?_
        dsimp only [List.set]
        refine p_goto 16 dX12_harmBy_70 ?_
        have e := ih (i + 1) (by omega)
        have er : q_any (q_n ρ) S (i + 1) = (q_any (q_n ρ) S i || (decide (q_n ρ (8 + 3 * i) = 3) && S.testBit i)) := rfl
        rw [er] at e
        have hSi := hS i (by omega)
        first
          | (have g : ρ (8 + 3 * s) = 3 ∧ q_any (q_n ρ) S i = true := by
               by_cases g : ρ (8 + 3 * s) = 3 ∧ q_any (q_n ρ) S i = true
               · exact g
               · rw [if_neg g] at h29; exact absurd rfl h29
             rw [g.2, Bool.true_or, if_pos ⟨g.1, rfl⟩] at e
             exact e)
          | (rw [if_neg (fun g => by omega)] at e
             exact e)
          | (rw [if_pos ⟨by omega, by rw [show decide (q_n ρ (8 + 3 * i) = 3) = true from decide_eq_true (by unfold q_n; omega), hSi.mpr (by omega)]; simp⟩] at e
             exact e)
          | (have g0 : ¬ (ρ (8 + 3 * s) = 3 ∧ q_any (q_n ρ) S i = true) := by
               intro g
               rw [if_pos g] at h29
               exact absurd (by decide) h29
             have g1 : q_any (q_n ρ) S i = false := by
               cases g1 : q_any (q_n ρ) S i
               · rfl
               · exact absurd ⟨by omega, g1⟩ g0
             have g2 : (decide (q_n ρ (8 + 3 * i) = 3) && S.testBit i) = false := by
               first
                 | (rw [show decide (q_n ρ (8 + 3 * i) = 3) = false from decide_eq_false (by unfold q_n; omega)]; rfl)
                 | (have : S.testBit i = false := by
                      cases g3 : S.testBit i
                      · rfl
                      · have := hSi.mp g3; omega
                    rw [this, Bool.and_false])
             rw [g1, g2, if_neg (by rintro ⟨-, g4⟩; exact absurd g4 (by decide))] at e
             exact e)
      · refine p_aload_n 42 dX12_harmBy_41 rfl rfl (by decide) ?_
        refine p_iload 44 dX12_harmBy_42 rfl ?_
        refine p_callV1i 124 47 dX12_harmBy_44 (s_kindOf hW hE hR (s := i) (by omega)) lk_X12_269 mX12_kindOf rfl rfl (by decide) (Nat.le_of_ble_eq_true rfl) ?_
        rintro _ _ ⟨rfl, rfl⟩
        refine p_iconst 48 dX12_harmBy_47 ?_
        refine p_icmp_ne 64 51 dX12_harmBy_48 (by omega) (by omega) (by omega) (by omega) (fun h48 => ?_) (fun h48 => ?_)
        · refine p_iconst 65 dX12_harmBy_64 ?_
          refine p_istore 67 dX12_harmBy_65 (Nat.le_of_ble_eq_true rfl) rfl rfl ?_
          dsimp only [List.set]
          refine p_iinc 70 dX12_harmBy_67 rfl rfl rfl ?_
          dsimp only [List.set]
          refine p_goto 16 dX12_harmBy_70 ?_
          have e := ih (i + 1) (by omega)
          have er : q_any (q_n ρ) S (i + 1) = (q_any (q_n ρ) S i || (decide (q_n ρ (8 + 3 * i) = 3) && S.testBit i)) := rfl
          rw [er] at e
          have hSi := hS i (by omega)
          first
            | (have g : ρ (8 + 3 * s) = 3 ∧ q_any (q_n ρ) S i = true := by
                 by_cases g : ρ (8 + 3 * s) = 3 ∧ q_any (q_n ρ) S i = true
                 · exact g
                 · rw [if_neg g] at h29; exact absurd rfl h29
               rw [g.2, Bool.true_or, if_pos ⟨g.1, rfl⟩] at e
               exact e)
            | (rw [if_neg (fun g => by omega)] at e
               exact e)
            | (rw [if_pos ⟨by omega, by rw [show decide (q_n ρ (8 + 3 * i) = 3) = true from decide_eq_true (by unfold q_n; omega), hSi.mpr (by omega)]; simp⟩] at e
               exact e)
            | (have g0 : ¬ (ρ (8 + 3 * s) = 3 ∧ q_any (q_n ρ) S i = true) := by
                 intro g
                 rw [if_pos g] at h29
                 exact absurd (by decide) h29
               have g1 : q_any (q_n ρ) S i = false := by
                 cases g1 : q_any (q_n ρ) S i
                 · rfl
                 · exact absurd ⟨by omega, g1⟩ g0
               have g2 : (decide (q_n ρ (8 + 3 * i) = 3) && S.testBit i) = false := by
                 first
                   | (rw [show decide (q_n ρ (8 + 3 * i) = 3) = false from decide_eq_false (by unfold q_n; omega)]; rfl)
                   | (have : S.testBit i = false := by
                        cases g3 : S.testBit i
                        · rfl
                        · have := hSi.mp g3; omega
                      rw [this, Bool.and_false])
               rw [g1, g2, if_neg (by rintro ⟨-, g4⟩; exact absurd g4 (by decide))] at e
               exact e)
        · refine p_aload_n 52 dX12_harmBy_51 rfl rfl (by decide) ?_
          refine p_iload_n 53 dX12_harmBy_52 rfl rfl ?_
          refine p_iload 55 dX12_harmBy_53 rfl ?_
          refine p_iadd 56 dX12_harmBy_55 ?_
          refine p_ialdn 133 57 (0 + i) dX12_harmBy_56 rfl (by omega) (by omega) ?_
          rw [hv i (by omega)]
          refine p_if_le 64 60 dX12_harmBy_57 (by omega) (by omega) (fun h57 => ?_) (fun h57 => ?_)
          · refine p_iconst 65 dX12_harmBy_64 ?_
            refine p_istore 67 dX12_harmBy_65 (Nat.le_of_ble_eq_true rfl) rfl rfl ?_
            dsimp only [List.set]
            refine p_iinc 70 dX12_harmBy_67 rfl rfl rfl ?_
            dsimp only [List.set]
            refine p_goto 16 dX12_harmBy_70 ?_
            have e := ih (i + 1) (by omega)
            have er : q_any (q_n ρ) S (i + 1) = (q_any (q_n ρ) S i || (decide (q_n ρ (8 + 3 * i) = 3) && S.testBit i)) := rfl
            rw [er] at e
            have hSi := hS i (by omega)
            first
              | (have g : ρ (8 + 3 * s) = 3 ∧ q_any (q_n ρ) S i = true := by
                   by_cases g : ρ (8 + 3 * s) = 3 ∧ q_any (q_n ρ) S i = true
                   · exact g
                   · rw [if_neg g] at h29; exact absurd rfl h29
                 rw [g.2, Bool.true_or, if_pos ⟨g.1, rfl⟩] at e
                 exact e)
              | (rw [if_neg (fun g => by omega)] at e
                 exact e)
              | (rw [if_pos ⟨by omega, by rw [show decide (q_n ρ (8 + 3 * i) = 3) = true from decide_eq_true (by unfold q_n; omega), hSi.mpr (by omega)]; simp⟩] at e
                 exact e)
              | (have g0 : ¬ (ρ (8 + 3 * s) = 3 ∧ q_any (q_n ρ) S i = true) := by
                   intro g
                   rw [if_pos g] at h29
                   exact absurd (by decide) h29
                 have g1 : q_any (q_n ρ) S i = false := by
                   cases g1 : q_any (q_n ρ) S i
                   · rfl
                   · exact absurd ⟨by omega, g1⟩ g0
                 have g2 : (decide (q_n ρ (8 + 3 * i) = 3) && S.testBit i) = false := by
                   first
                     | (rw [show decide (q_n ρ (8 + 3 * i) = 3) = false from decide_eq_false (by unfold q_n; omega)]; rfl)
                     | (have : S.testBit i = false := by
                          cases g3 : S.testBit i
                          · rfl
                          · have := hSi.mp g3; omega
                        rw [this, Bool.and_false])
                 rw [g1, g2, if_neg (by rintro ⟨-, g4⟩; exact absurd g4 (by decide))] at e
                 exact e)
          · refine p_iconst 61 dX12_harmBy_60 ?_
            refine p_goto 65 dX12_harmBy_61 ?_
            refine p_istore 67 dX12_harmBy_65 (Nat.le_of_ble_eq_true rfl) rfl rfl ?_
            dsimp only [List.set]
            refine p_iinc 70 dX12_harmBy_67 rfl rfl rfl ?_
            dsimp only [List.set]
            refine p_goto 16 dX12_harmBy_70 ?_
            have e := ih (i + 1) (by omega)
            have er : q_any (q_n ρ) S (i + 1) = (q_any (q_n ρ) S i || (decide (q_n ρ (8 + 3 * i) = 3) && S.testBit i)) := rfl
            rw [er] at e
            have hSi := hS i (by omega)
            first
              | (have g : ρ (8 + 3 * s) = 3 ∧ q_any (q_n ρ) S i = true := by
                   by_cases g : ρ (8 + 3 * s) = 3 ∧ q_any (q_n ρ) S i = true
                   · exact g
                   · rw [if_neg g] at h29; exact absurd rfl h29
                 rw [g.2, Bool.true_or, if_pos ⟨g.1, rfl⟩] at e
                 exact e)
              | (rw [if_neg (fun g => by omega)] at e
                 exact e)
              | (rw [if_pos ⟨by omega, by rw [show decide (q_n ρ (8 + 3 * i) = 3) = true from decide_eq_true (by unfold q_n; omega), hSi.mpr (by omega)]; simp⟩] at e
                 exact e)
              | (have g0 : ¬ (ρ (8 + 3 * s) = 3 ∧ q_any (q_n ρ) S i = true) := by
                   intro g
                   rw [if_pos g] at h29
                   exact absurd (by decide) h29
                 have g1 : q_any (q_n ρ) S i = false := by
                   cases g1 : q_any (q_n ρ) S i
                   · rfl
                   · exact absurd ⟨by omega, g1⟩ g0
                 have g2 : (decide (q_n ρ (8 + 3 * i) = 3) && S.testBit i) = false := by
                   first
                     | (rw [show decide (q_n ρ (8 + 3 * i) = 3) = false from decide_eq_false (by unfold q_n; omega)]; rfl)
                     | (have : S.testBit i = false := by
                          cases g3 : S.testBit i
                          · rfl
                          · have := hSi.mp g3; omega
                        rw [this, Bool.and_false])
                 rw [g1, g2, if_neg (by rintro ⟨-, g4⟩; exact absurd g4 (by decide))] at e
                 exact e)
theorem s_harmBy_133 {l : Launch} {X : ZX} {M : ZM} {ρ : Nat → Int} (hW : zWm M) (hE : ∀ i, i < 421 → M 127 i = ρ i) (hR : wfR ρ) {v : Nat → Int} (hv : ∀ i, i < 7 → M 133 (0 + i) = v i) (hv1 : ∀ i, i < 7 → 0 ≤ v i) (hv2 : ∀ i, i < 7 → v i ≤ 1000) {S : Nat} (hS : ∀ i, i < 7 → (S.testBit i = true ↔ 0 < v i)) {s : Nat} (hs : s < 7) : zCi l X 2 yX12_harmBy tX12_harmBy [zr 124, zr 133, zi 0, zi (s : Int)] M (fun a M' => a = (q_harm (q_n ρ) S s : Int) ∧ M' = M) := by
  have v1 := hv1 s hs
  have v2 := hv2 s hs
  refine zC.of [some (zr 124), some (zr 133), some (zi 0), some (zi (s : Int)), none, none] (by decide +kernel) rfl rfl (Nat.le_of_ble_eq_true rfl) rfl ?_
  refine p_aload_n 1 dX12_harmBy_0 rfl rfl (by decide) ?_
  refine p_iload_n 2 dX12_harmBy_1 rfl rfl ?_
  refine p_iload_n 3 dX12_harmBy_2 rfl rfl ?_
  refine p_iadd 4 dX12_harmBy_3 ?_
  refine p_ialdn 133 5 (0 + s) dX12_harmBy_4 rfl (by omega) (by omega) ?_
  rw [hv s hs]
  refine p_if_le 10 8 dX12_harmBy_5 (by omega) (by omega) (fun h5 => ?_) (fun h5 => ?_)
  · refine p_iconst 11 dX12_harmBy_10 ?_
    refine p_istore 13 dX12_harmBy_11 (Nat.le_of_ble_eq_true rfl) rfl rfl ?_
    dsimp only [List.set]
    refine p_iconst 14 dX12_harmBy_13 ?_
    refine p_istore 16 dX12_harmBy_14 (Nat.le_of_ble_eq_true rfl) rfl rfl ?_
    dsimp only [List.set]
    have hb : ¬ S.testBit s = true := fun hb => absurd ((hS s hs).mp hb) (by omega)
    have e := l_harmBy_133 (l := l) (X := X) hW hE hR hv hv1 hv2 hS hs hb (q_n ρ 2) 0 (Nat.zero_add _)
    have e0 : (if ρ (8 + 3 * s) = 3 ∧ q_any (q_n ρ) S 0 = true then (1 : Int) else 0) = 0 := if_neg (by rintro ⟨-, g⟩; exact Bool.noConfusion g)
    rw [e0] at e
    exact e
  · refine p_iconst 9 dX12_harmBy_8 ?_
    refine p_iret dX12_harmBy_9 rfl ?_
    refine ⟨_, rfl, ?_, rfl⟩
    unfold q_harm
    rw [if_pos ((hS s hs).mpr (by omega))]
    rfl
