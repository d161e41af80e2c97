theorem s_bit {l : Launch} {X : ZX} {M : ZM} {i : Nat} (hi : i < 31) : zCi l X 0 yX11_bit tX11_bit [zi (i : Int)] M (fun a M' => a = ((2 ^ i : Nat) : Int) ∧ M' = M) := by
  refine zC.of [some (zi (i : Int))] (by decide +kernel) rfl rfl (Nat.le_of_ble_eq_true rfl) rfl ?_
  refine p_iconst 1 dX11_bit_0 ?_
  refine p_iload_n 2 dX11_bit_1 rfl rfl ?_
  refine p_ishl 3 dX11_bit_2 ?_
  refine p_iret dX11_bit_3 rfl ?_
  refine ⟨_, rfl, ?_, rfl⟩
  have h := z_ishl_n 1 i hi (by rw [Nat.one_mul]; exact Nat.lt_of_lt_of_le (Nat.pow_lt_pow_right (by decide) hi) (by decide))
  rw [Nat.one_mul] at h
  exact h
theorem s_fullBits {l : Launch} {X : ZX} {M : ZM} {n : Nat} (hn : n < 31) : zCi l X 0 yX11_fullBits tX11_fullBits [zi (n : Int)] M (fun a M' => a = ((2 ^ n - 1 : Nat) : Int) ∧ M' = M) := by
  refine zC.of [some (zi (n : Int))] (by decide +kernel) rfl rfl (Nat.le_of_ble_eq_true rfl) rfl ?_
  refine p_iconst 1 dX11_fullBits_0 ?_
  refine p_iload_n 2 dX11_fullBits_1 rfl rfl ?_
  refine p_ishl 3 dX11_fullBits_2 ?_
  refine p_iconst 4 dX11_fullBits_3 ?_
  refine p_isub 5 dX11_fullBits_4 ?_
  refine p_iret dX11_fullBits_5 rfl ?_
  refine ⟨_, rfl, ?_, rfl⟩
  have h := z_ishl_n 1 n hn (by rw [Nat.one_mul]; exact Nat.lt_of_lt_of_le (Nat.pow_lt_pow_right (by decide) hn) (by decide))
  rw [Nat.one_mul] at h
  have h2 : 0 < 2 ^ n := Nat.two_pow_pos n
  rw [show z_ishl 1 (n : Int) = ((2 ^ n : Nat) : Int) from h]
  omega
theorem s_handsAt {l : Launch} {X : ZX} {M : ZM} {i v : Nat} (ha : i < 3) (hv : v < 8) : zCi l X 0 yX11_handsAt tX11_handsAt [zi (i : Int), zi (v : Int)] M (fun a M' => a = ((v * 8 ^ i : Nat) : Int) ∧ M' = M) := by
  refine zC.of [some (zi (i : Int)), some (zi (v : Int))] (by decide +kernel) rfl rfl (Nat.le_of_ble_eq_true rfl) rfl ?_
  refine p_iload_n 1 dX11_handsAt_0 rfl rfl ?_
  refine p_iconst 2 dX11_handsAt_1 ?_
  refine p_iload_n 3 dX11_handsAt_2 rfl rfl ?_
  refine p_imul 4 dX11_handsAt_3 ?_
  refine p_ishl 5 dX11_handsAt_4 ?_
  refine p_iret dX11_handsAt_5 rfl ?_
  refine ⟨_, rfl, ?_, rfl⟩
  have e8 : 8 ^ i = 2 ^ (3 * i) := by rw [Nat.pow_mul]
  have hb : v * 2 ^ (3 * i) < 2147483648 := by
    have : 2 ^ (3 * i) ≤ 2 ^ 6 := Nat.pow_le_pow_right (by decide) (by omega)
    have h3 : v * 2 ^ (3 * i) ≤ 7 * 2 ^ 6 := Nat.mul_le_mul (by omega) this
    omega
  have h := z_ishl_n v (3 * i) (by omega) hb
  rw [e8, ← h]
  congr 1
theorem s_drawAfter {l : Launch} {X : ZX} {M : ZM} {v : Nat} (hv : v ≤ 65536) : zCi l X 0 yX11_drawAfter tX11_drawAfter [zi (v : Int)] M (fun a M' => a = (((75 * v + 74) % 65537 : Nat) : Int) ∧ M' = M) := by
  refine zC.of [some (zi (v : Int))] (by decide +kernel) rfl rfl (Nat.le_of_ble_eq_true rfl) rfl ?_
  refine p_bipush 2 dX11_drawAfter_0 rfl ?_
  refine p_iload_n 3 dX11_drawAfter_2 rfl rfl ?_
  refine p_imul 4 dX11_drawAfter_3 ?_
  refine p_bipush 6 dX11_drawAfter_4 rfl ?_
  refine p_iadd 7 dX11_drawAfter_6 ?_
  refine p_ldcw (z := 65537) 10 dX11_drawAfter_7 kk_X11_387 rfl ?_
  refine p_irem 11 dX11_drawAfter_10 (by decide) ?_
  refine p_iret dX11_drawAfter_11 rfl ?_
  refine ⟨_, rfl, ?_, rfl⟩
  have h := z_irem_n (75 * v + 74) 65537 (by omega) (by decide)
  rw [← h]
  rfl
theorem s_isWinter {l : Launch} {X : ZX} {M : ZM} {v n : Int} (hv1 : -2147483648 ≤ v) (hv2 : v < 2147483648) (hn1 : -2147483648 ≤ n) (hn2 : n < 2147483648) : zCi l X 0 yX11_isWinter tX11_isWinter [zi v, zi n] M (fun a M' => a = (if 0 ≤ v ∧ v ≤ 65536 ∧ 0 ≤ n ∧ n ≤ 90 then 1 else 0) ∧ M' = M) := by
  refine zC.of [some (zi v), some (zi n)] (by decide +kernel) rfl rfl (Nat.le_of_ble_eq_true rfl) rfl ?_
  refine p_iload_n 1 dX11_isWinter_0 rfl rfl ?_
  refine p_if_lt 25 4 dX11_isWinter_1 (by omega) (by omega) (fun h1 => ?_) (fun h1 => ?_)
  · refine p_iconst 26 dX11_isWinter_25 ?_
    refine p_zret dX11_isWinter_26 rfl (by decide) ?_
    refine ⟨_, rfl, ?_, rfl⟩
    first | (rw [if_pos (by omega)]; done) | (rw [if_neg (by omega)]; done)
  · refine p_iload_n 5 dX11_isWinter_4 rfl rfl ?_
    refine p_ldcw (z := 65536) 8 dX11_isWinter_5 kk_X11_352 rfl ?_
    refine p_icmp_gt 25 11 dX11_isWinter_8 (by omega) (by omega) (by omega) (by omega) (fun h8 => ?_) (fun h8 => ?_)
    · refine p_iconst 26 dX11_isWinter_25 ?_
      refine p_zret dX11_isWinter_26 rfl (by decide) ?_
      refine ⟨_, rfl, ?_, rfl⟩
      first | (rw [if_pos (by omega)]; done) | (rw [if_neg (by omega)]; done)
    · refine p_iload_n 12 dX11_isWinter_11 rfl rfl ?_
      refine p_if_lt 25 15 dX11_isWinter_12 (by omega) (by omega) (fun h12 => ?_) (fun h12 => ?_)
      · refine p_iconst 26 dX11_isWinter_25 ?_
        refine p_zret dX11_isWinter_26 rfl (by decide) ?_
        refine ⟨_, rfl, ?_, rfl⟩
        first | (rw [if_pos (by omega)]; done) | (rw [if_neg (by omega)]; done)
      · refine p_iload_n 16 dX11_isWinter_15 rfl rfl ?_
        refine p_bipush 18 dX11_isWinter_16 rfl ?_
        refine p_icmp_gt 25 21 dX11_isWinter_18 (by omega) (by omega) (by omega) (by omega) (fun h18 => ?_) (fun h18 => ?_)
        · refine p_iconst 26 dX11_isWinter_25 ?_
          refine p_zret dX11_isWinter_26 rfl (by decide) ?_
          refine ⟨_, rfl, ?_, rfl⟩
          first | (rw [if_pos (by omega)]; done) | (rw [if_neg (by omega)]; done)
        · refine p_iconst 22 dX11_isWinter_21 ?_
          refine p_goto 26 dX11_isWinter_22 ?_
          refine p_zret dX11_isWinter_26 rfl (by decide) ?_
          refine ⟨_, rfl, ?_, rfl⟩
          first | (rw [if_pos (by omega)]; done) | (rw [if_neg (by omega)]; done)
theorem s_isWorth {l : Launch} {X : ZX} {M : ZM} {v : Int} (hv1 : -2147483648 ≤ v) (hv2 : v < 2147483648) : zCi l X 0 yX11_isWorth tX11_isWorth [zi v] M (fun a M' => a = (if 0 ≤ v ∧ v ≤ 99 then 1 else 0) ∧ M' = M) := by
  refine zC.of [some (zi v)] (by decide +kernel) rfl rfl (Nat.le_of_ble_eq_true rfl) rfl ?_
  refine p_iload_n 1 dX11_isWorth_0 rfl rfl ?_
  refine p_if_lt 14 4 dX11_isWorth_1 (by omega) (by omega) (fun h1 => ?_) (fun h1 => ?_)
  · refine p_iconst 15 dX11_isWorth_14 ?_
    refine p_zret dX11_isWorth_15 rfl (by decide) ?_
    refine ⟨_, rfl, ?_, rfl⟩
    first | (rw [if_pos (by omega)]; done) | (rw [if_neg (by omega)]; done)
  · refine p_iload_n 5 dX11_isWorth_4 rfl rfl ?_
    refine p_bipush 7 dX11_isWorth_5 rfl ?_
    refine p_icmp_gt 14 10 dX11_isWorth_7 (by omega) (by omega) (by omega) (by omega) (fun h7 => ?_) (fun h7 => ?_)
    · refine p_iconst 15 dX11_isWorth_14 ?_
      refine p_zret dX11_isWorth_15 rfl (by decide) ?_
      refine ⟨_, rfl, ?_, rfl⟩
      first | (rw [if_pos (by omega)]; done) | (rw [if_neg (by omega)]; done)
    · refine p_iconst 11 dX11_isWorth_10 ?_
      refine p_goto 15 dX11_isWorth_11 ?_
      refine p_zret dX11_isWorth_15 rfl (by decide) ?_
      refine ⟨_, rfl, ?_, rfl⟩
      first | (rw [if_pos (by omega)]; done) | (rw [if_neg (by omega)]; done)
