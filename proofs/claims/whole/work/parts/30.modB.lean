theorem z_iand_comm (a b : Int) : z_iand a b = z_iand b a := by
  unfold z_iand
  rw [Int32.and_comm]
theorem z_ior_comm (a b : Int) : z_ior a b = z_ior b a := by
  unfold z_ior
  rw [Int32.or_comm]
theorem z_ior_zero (a : Nat) (ha : a < 2147483648) : z_ior (a : Int) 0 = (a : Int) := by
  have h := z_ior_n a 0 ha (by decide)
  rw [Nat.or_zero] at h
  exact h
/-- words that aren't among those said, of the first n -/
def q_un (n S : Nat) : Nat := (2 ^ n - 1) &&& (2147483647 ^^^ S)
theorem q_un_lt (n S : Nat) : q_un n S < 2 ^ n := by
  have h : 0 < 2 ^ n := Nat.two_pow_pos n
  exact Nat.lt_of_le_of_lt Nat.and_le_left (by omega)
theorem z_un (n S : Nat) (hn : n < 31) (hS : S < 2147483648) : z_iand (z_ixor (S : Int) (-1)) ((2 ^ n - 1 : Nat) : Int) = (q_un n S : Int) := by
  have h2 : 2 ^ n ≤ 2 ^ 31 := Nat.pow_le_pow_right (by decide) (by omega)
  have h3 : 0 < 2 ^ n := Nat.two_pow_pos n
  rw [z_iand_comm]
  exact z_andn_n (2 ^ n - 1) S (by omega) hS
theorem z_full (n : Nat) (hn : n < 31) : z_ishl 1 (n : Int) - 1 = ((2 ^ n - 1 : Nat) : Int) := by
  have h := z_ishl_n 1 n hn (by rw [Nat.one_mul]; exact Nat.lt_of_lt_of_le (Nat.pow_lt_pow_right (by decide) hn) (by decide))
  rw [Nat.one_mul] at h
  have h2 : 0 < 2 ^ n := Nat.two_pow_pos n
  rw [show z_ishl 1 (n : Int) = ((2 ^ n : Nat) : Int) from h]
  omega
theorem z_bit (n : Nat) (hn : n < 31) : z_ishl 1 (n : Int) = ((2 ^ n : Nat) : Int) := by
  have h := z_ishl_n 1 n hn (by rw [Nat.one_mul]; exact Nat.lt_of_lt_of_le (Nat.pow_lt_pow_right (by decide) hn) (by decide))
  rw [Nat.one_mul] at h
  exact h
/-- who is tended now -/
def q_tset (τ : Nat → Int) : Nat := q_set (fun s => decide (τ (7 + s) ≠ 0)) 7
theorem q_tset_bit {ρ τ : Nat → Int} (hT : wfT ρ τ) : ∀ i, i < 7 → ((q_tset τ).testBit i = true ↔ 0 < τ (7 + i)) := by
  intro i hi
  have h0 := hT.1 (7 + i) (by omega)
  unfold q_tset
  rw [q_set_bit]
  simp only [hi, decide_true, Bool.true_and, decide_eq_true_eq]
  omega
theorem q_tset_lt (τ : Nat → Int) : q_tset τ < 2147483648 := Nat.lt_of_lt_of_le (q_set_lt _ 7) (by decide)
def q_harmN (r : Nat → Nat) (τ : Nat → Int) (s : Nat) : Nat := if 0 < τ 16 then 0 else q_harm r (q_tset τ) s
theorem s_harmNow {l : Launch} {X : ZX} {M : ZM} {ρ : Nat → Int} (hW : zWm M) (hE : ∀ i, i < 421 → M 127 i = ρ i) (hR : wfR ρ) {τ : Nat → Int} (hU : ∀ i, i < 18 → M 129 i = τ i) (hT : wfT ρ τ) {s : Nat} (hs : s < 7) : zCi l X 3 yX12_harmNow tX12_harmNow [zr 124, zi (s : Int)] M (fun a M' => a = (q_harmN (q_n ρ) τ s : Int) ∧ M' = M) := by
  have t1 := hT.2.2.2.2.1
  have t0 := hT.1 16 (by decide)
  refine zC.of [some (zr 124), some (zi (s : Int))] (by decide +kernel) rfl rfl (Nat.le_of_ble_eq_true rfl) rfl ?_
  refine p_aload_n 1 dX12_harmNow_0 rfl rfl (by decide) ?_
  refine p_getR 124 4 dX12_harmNow_1 fX12_26 rfl (hW (124, 17, 129) (by decide)) ?_
  refine p_bipush 6 dX12_harmNow_4 rfl ?_
  refine p_iald 129 7 dX12_harmNow_6 rfl (by omega) (by omega) ?_
  try simp only [Int.toNat_natCast, Int.reduceToNat]
  rw [hU 16 (by decide)]
  refine p_if_le 14 10 dX12_harmNow_7 (by omega) (by omega) (fun h7 => ?_) (fun h7 => ?_)
  · refine p_aload_n 15 dX12_harmNow_14 rfl rfl (by decide) ?_
    refine p_aload_n 16 dX12_harmNow_15 rfl rfl (by decide) ?_
    refine p_getR 124 19 dX12_harmNow_16 fX12_26 rfl (hW (124, 17, 129) (by decide)) ?_
    refine p_bipush 21 dX12_harmNow_19 rfl ?_
    refine p_iload_n 22 dX12_harmNow_21 rfl rfl ?_
    refine p_callV3i 124 25 dX12_harmNow_22 (s_harmBy_129 hW hE hR (v := fun i => τ (7 + i)) (fun i hi => hU _ (by omega)) (fun i hi => hT.1 _ (by omega)) (fun i hi => by have := (hT.2.1 i hi).2.1; have := hR.2.1.2.2.2.1; omega) (q_tset_bit hT) hs) lk_X12_290 mX12_harmBy rfl rfl (by decide) (Nat.le_of_ble_eq_true rfl) ?_
    rintro _ _ ⟨rfl, rfl⟩
    refine p_iret dX12_harmNow_25 rfl ?_
    refine ⟨_, rfl, ?_, rfl⟩
    unfold q_harmN
    first | (rw [if_pos (by omega)]; rfl) | (rw [if_neg (by omega)])
  · refine p_iconst 11 dX12_harmNow_10 ?_
    refine p_goto 25 dX12_harmNow_11 ?_
    refine p_iret dX12_harmNow_25 rfl ?_
    refine ⟨_, rfl, ?_, rfl⟩
    unfold q_harmN
    first | (rw [if_pos (by omega)]; rfl) | (rw [if_neg (by omega)])
theorem l_harmAll {l : Launch} {X : ZX} {M : ZM} {ρ : Nat → Int} (hW : zWm M) (hE : ∀ i, i < 421 → M 127 i = ρ i) (hR : wfR ρ) {τ : Nat → Int} (hU : ∀ i, i < 18 → M 129 i = τ i) (hT : wfT ρ τ) : ∀ (j i : Nat), i + j = q_n ρ 2 → zP l X 4 tX12_harmAll 4 [some (zr 124), some (zi (q_sum (q_harmN (q_n ρ) τ) i : Int)), some (zi (i : Int))] [] M (fun r M' => ∃ a, r = some (zi a) ∧ (a = (q_sum (q_harmN (q_n ρ) τ) (q_n ρ 2) : Int) ∧ M' = M)) := by
  have e2 : ρ 2 = (q_n ρ 2 : Int) := hR.n (by decide)
  have e3 : ρ 3 = (q_n ρ 3 : Int) := hR.n (by decide)
  have e4 : ρ 4 = (q_n ρ 4 : Int) := hR.n (by decide)
  have b2 := hR.2.1.2.2.1
  have b3 := hR.2.1.2.2.2.1
  have b4 := hR.2.1.2.2.2.2.1
  intro j
  induction j with
  | zero =>
    intro i hi
    refine p_iload_n 5 dX12_harmAll_4 rfl rfl ?_
    refine p_aload_n 6 dX12_harmAll_5 rfl rfl (by decide) ?_
    refine p_getR 124 9 dX12_harmAll_6 fX12_20 rfl (hW (124, 15, 127) (by decide)) ?_
    refine p_iconst 10 dX12_harmAll_9 ?_
    refine p_iald 127 11 dX12_harmAll_10 rfl (by omega) (by omega) ?_
    try simp only [Int.toNat_natCast, Int.reduceToNat]
    rw [hE 2 (by decide)]
    refine p_icmp_ge 28 14 dX12_harmAll_11 (by omega) (by omega) (by omega) (by omega) (fun h11 => ?_) (fun h11 => absurd (by omega) (fun h9 : False => h9))
    refine p_iload_n 29 dX12_harmAll_28 rfl rfl ?_
    refine p_iret dX12_harmAll_29 rfl ?_
    rw [Nat.add_zero] at hi
    exact ⟨_, rfl, by rw [hi], rfl⟩
  | succ j ih =>
    intro i hi
    refine p_iload_n 5 dX12_harmAll_4 rfl rfl ?_
    refine p_aload_n 6 dX12_harmAll_5 rfl rfl (by decide) ?_
    refine p_getR 124 9 dX12_harmAll_6 fX12_20 rfl (hW (124, 15, 127) (by decide)) ?_
    refine p_iconst 10 dX12_harmAll_9 ?_
    refine p_iald 127 11 dX12_harmAll_10 rfl (by omega) (by omega) ?_
    try simp only [Int.toNat_natCast, Int.reduceToNat]
    rw [hE 2 (by decide)]
    refine p_icmp_ge 28 14 dX12_harmAll_11 (by omega) (by omega) (by omega) (by omega) (fun h11 => absurd (by omega) (fun h9 : False => h9)) (fun h11 => ?_)
    refine p_iload_n 15 dX12_harmAll_14 rfl rfl ?_
    refine p_aload_n 16 dX12_harmAll_15 rfl rfl (by decide) ?_
    refine p_iload_n 17 dX12_harmAll_16 rfl rfl ?_
    refine p_callV1i 124 20 dX12_harmAll_17 (s_harmNow hW hE hR hU hT (s := i) (by omega)) lk_X12_294 mX12_harmNow rfl rfl (by decide) (Nat.le_of_ble_eq_true rfl) ?_
    rintro _ _ ⟨rfl, rfl⟩
    refine p_iadd 21 dX12_harmAll_20 ?_
    refine p_istore_n 22 dX12_harmAll_21 rfl (Nat.le_of_ble_eq_true rfl) rfl rfl ?_
    dsimp only [List.set]
    refine p_iinc 25 dX12_harmAll_22 rfl rfl rfl ?_
    dsimp only [List.set]
    refine p_goto 4 dX12_harmAll_25 ?_
    exact ih (i + 1) (by omega)
theorem s_harmAll {l : Launch} {X : ZX} {M : ZM} {ρ : Nat → Int} (hW : zWm M) (hE : ∀ i, i < 421 → M 127 i = ρ i) (hR : wfR ρ) {τ : Nat → Int} (hU : ∀ i, i < 18 → M 129 i = τ i) (hT : wfT ρ τ) : zCi l X 4 yX12_harmAll tX12_harmAll [zr 124] M (fun a M' => a = (q_sum (q_harmN (q_n ρ) τ) (q_n ρ 2) : Int) ∧ M' = M) := by
  refine zC.of [some (zr 124), none, none] (by decide +kernel) rfl rfl (Nat.le_of_ble_eq_true rfl) rfl ?_
  refine p_iconst 1 dX12_harmAll_0 ?_
  refine p_istore_n 2 dX12_harmAll_1 rfl (Nat.le_of_ble_eq_true rfl) rfl rfl ?_
  dsimp only [List.set]
  refine p_iconst 3 dX12_harmAll_2 ?_
  refine p_istore_n 4 dX12_harmAll_3 rfl (Nat.le_of_ble_eq_true rfl) rfl rfl ?_
  dsimp only [List.set]
  exact l_harmAll hW hE hR hU hT (q_n ρ 2) 0 (Nat.zero_add _)
theorem l_tendedOf {l : Launch} {X : ZX} {M : ZM} {ρ : Nat → Int} (hW : zWm M) (hE : ∀ i, i < 421 → M 127 i = ρ i) (hR : wfR ρ) {τ : Nat → Int} (hU : ∀ i, i < 18 → M 129 i = τ i) (hT : wfT ρ τ) {a : Nat} (ha : a < 1000) : ∀ (j i : Nat), i + j = q_n ρ 2 → zP l X 0 tX12_tendedOf 4 [some (zr 124), some (zi (a : Int)), some (zi (q_set (fun s => decide (τ (7 + s) = (a : Int) + 1)) i : Int)), some (zi (i : Int))] [] M (fun r M' => ∃ x, r = some (zi x) ∧ (x = (q_set (fun s => decide (τ (7 + s) = (a : Int) + 1)) (q_n ρ 2) : Int) ∧ M' = M)) := by
  have e2 : ρ 2 = (q_n ρ 2 : Int) := hR.n (by decide)
  have e3 : ρ 3 = (q_n ρ 3 : Int) := hR.n (by decide)
  have e4 : ρ 4 = (q_n ρ 4 : Int) := hR.n (by decide)
  have b2 := hR.2.1.2.2.1
  have b3 := hR.2.1.2.2.2.1
  have b4 := hR.2.1.2.2.2.2.1
  intro j
  induction j with
  | zero =>
    intro i hi
    refine p_iload_n 5 dX12_tendedOf_4 rfl rfl ?_
    refine p_aload_n 6 dX12_tendedOf_5 rfl rfl (by decide) ?_
    refine p_getR 124 9 dX12_tendedOf_6 fX12_20 rfl (hW (124, 15, 127) (by decide)) ?_
    refine p_iconst 10 dX12_tendedOf_9 ?_
    refine p_iald 127 11 dX12_tendedOf_10 rfl (by omega) (by omega) ?_
    try simp only [Int.toNat_natCast, Int.reduceToNat]
    rw [hE 2 (by decide)]
    refine p_icmp_ge 45 14 dX12_tendedOf_11 (by omega) (by omega) (by omega) (by omega) (fun h11 => ?_) (fun h11 => absurd (by omega) (fun h9 : False => h9))
    refine p_iload_n 46 dX12_tendedOf_45 rfl rfl ?_
    refine p_iret dX12_tendedOf_46 rfl ?_
    rw [Nat.add_zero] at hi
    exact ⟨_, rfl, by rw [hi], rfl⟩
  | succ j ih =>
    intro i hi
    have t1 := (hT.2.1 i (by omega)).2.1
    have t0 := hT.1 (7 + i) (by omega)
    refine p_iload_n 5 dX12_tendedOf_4 rfl rfl ?_
    refine p_aload_n 6 dX12_tendedOf_5 rfl rfl (by decide) ?_
    refine p_getR 124 9 dX12_tendedOf_6 fX12_20 rfl (hW (124, 15, 127) (by decide)) ?_
    refine p_iconst 10 dX12_tendedOf_9 ?_
    refine p_iald 127 11 dX12_tendedOf_10 rfl (by omega) (by omega) ?_
    try simp only [Int.toNat_natCast, Int.reduceToNat]
    rw [hE 2 (by decide)]
    refine p_icmp_ge 45 14 dX12_tendedOf_11 (by omega) (by omega) (by omega) (by omega) (fun h11 => absurd (by omega) (fun h9 : False => h9)) (fun h11 => ?_)
    refine p_iload_n 15 dX12_tendedOf_14 rfl rfl ?_
    refine p_aload_n 16 dX12_tendedOf_15 rfl rfl (by decide) ?_
    refine p_getR 124 19 dX12_tendedOf_16 fX12_26 rfl (hW (124, 17, 129) (by decide)) ?_
    refine p_bipush 21 dX12_tendedOf_19 rfl ?_
    refine p_iload_n 22 dX12_tendedOf_21 rfl rfl ?_
    refine p_iadd 23 dX12_tendedOf_22 ?_
    refine p_ialdn 129 24 (7 + i) dX12_tendedOf_23 rfl (by omega) (by omega) ?_
    refine p_iload_n 25 dX12_tendedOf_24 rfl rfl ?_
    refine p_iconst 26 dX12_tendedOf_25 ?_
    refine p_iadd 27 dX12_tendedOf_26 ?_
    rw [hU _ (by omega)]
    refine p_icmp_ne 36 30 dX12_tendedOf_27 (by omega) (by omega) (by omega) (by omega) (fun h27 => ?_) (fun h27 => ?_)
    · refine p_iconst 37 dX12_tendedOf_36 ?_
      refine p_ior 38 dX12_tendedOf_37 ?_
      refine p_istore_n 39 dX12_tendedOf_38 rfl (Nat.le_of_ble_eq_true rfl) rfl rfl ?_
      dsimp only [List.set]
      refine p_iinc 42 dX12_tendedOf_39 rfl rfl rfl ?_
      dsimp only [List.set]
      refine p_goto 4 dX12_tendedOf_42 ?_
      have e := ih (i + 1) (by omega)
      have er : q_set (fun s => decide (τ (7 + s) = (a : Int) + 1)) (i + 1) = if (fun s => decide (τ (7 + s) = (a : Int) + 1)) i then q_set (fun s => decide (τ (7 + s) = (a : Int) + 1)) i ||| 2 ^ i else q_set (fun s => decide (τ (7 + s) = (a : Int) + 1)) i := rfl
      first
        | (rw [er, if_pos (decide_eq_true (by omega)), ← z_ior_set _ (show i < 30 by omega), ← z_bit i (by omega)] at e
           exact e)
        | (rw [er, if_neg (by rw [decide_eq_true_eq]; omega)] at e
           rw [z_ior_zero _ (Nat.lt_of_lt_of_le (q_set_lt _ i) (Nat.pow_le_pow_right (n := 2) (by decide) (show i ≤ 31 by omega)))]
           exact e)
    · refine p_iconst 31 dX12_tendedOf_30 ?_
      refine p_iload_n 32 dX12_tendedOf_31 rfl rfl ?_
      refine p_ishl 33 dX12_tendedOf_32 ?_
      refine p_goto 37 dX12_tendedOf_33 ?_
      refine p_ior 38 dX12_tendedOf_37 ?_
      refine p_istore_n 39 dX12_tendedOf_38 rfl (Nat.le_of_ble_eq_true rfl) rfl rfl ?_
      dsimp only [List.set]
      refine p_iinc 42 dX12_tendedOf_39 rfl rfl rfl ?_
      dsimp only [List.set]
      refine p_goto 4 dX12_tendedOf_42 ?_
      have e := ih (i + 1) (by omega)
      have er : q_set (fun s => decide (τ (7 + s) = (a : Int) + 1)) (i + 1) = if (fun s => decide (τ (7 + s) = (a : Int) + 1)) i then q_set (fun s => decide (τ (7 + s) = (a : Int) + 1)) i ||| 2 ^ i else q_set (fun s => decide (τ (7 + s) = (a : Int) + 1)) i := rfl
      first
        | (rw [er, if_pos (decide_eq_true (by omega)), ← z_ior_set _ (show i < 30 by omega), ← z_bit i (by omega)] at e
           exact e)
        | (rw [er, if_neg (by rw [decide_eq_true_eq]; omega)] at e
           rw [z_ior_zero _ (Nat.lt_of_lt_of_le (q_set_lt _ i) (Nat.pow_le_pow_right (n := 2) (by decide) (show i ≤ 31 by omega)))]
           exact e)
theorem s_tendedOf {l : Launch} {X : ZX} {M : ZM} {ρ : Nat → Int} (hW : zWm M) (hE : ∀ i, i < 421 → M 127 i = ρ i) (hR : wfR ρ) {τ : Nat → Int} (hU : ∀ i, i < 18 → M 129 i = τ i) (hT : wfT ρ τ) {a : Nat} (ha : a < 1000) : zCi l X 0 yX12_tendedOf tX12_tendedOf [zr 124, zi (a : Int)] M (fun x M' => x = (q_set (fun s => decide (τ (7 + s) = (a : Int) + 1)) (q_n ρ 2) : Int) ∧ M' = M) := by
  refine zC.of [some (zr 124), some (zi (a : Int)), none, none] (by decide +kernel) rfl rfl (Nat.le_of_ble_eq_true rfl) rfl ?_
  refine p_iconst 1 dX12_tendedOf_0 ?_
  refine p_istore_n 2 dX12_tendedOf_1 rfl (Nat.le_of_ble_eq_true rfl) rfl rfl ?_
  dsimp only [List.set]
  refine p_iconst 3 dX12_tendedOf_2 ?_
  refine p_istore_n 4 dX12_tendedOf_3 rfl (Nat.le_of_ble_eq_true rfl) rfl rfl ?_
  dsimp only [List.set]
  exact l_tendedOf hW hE hR hU hT ha (q_n ρ 2) 0 (Nat.zero_add _)
theorem s_isSleeper {l : Launch} {X : ZX} {M : ZM} {ρ : Nat → Int} (hW : zWm M) (hE : ∀ i, i < 421 → M 127 i = ρ i) (hR : wfR ρ) (hh : M 124 14 = 0 ∨ M 124 14 = 1) {s : Int} (hs1 : -2147483648 ≤ s) (hs2 : s < 2147483648) : zCi l X 1 yX12_isSleeper tX12_isSleeper [zr 124, zi s] M (fun a M' => a = (if M 124 14 = 1 ∧ 0 ≤ s ∧ s < ρ 2 then 1 else 0) ∧ M' = M) := by
  have e2 : ρ 2 = (q_n ρ 2 : Int) := hR.n (by decide)
  have e3 : ρ 3 = (q_n ρ 3 : Int) := hR.n (by decide)
  have e4 : ρ 4 = (q_n ρ 4 : Int) := hR.n (by decide)
  have b2 := hR.2.1.2.2.1
  have b3 := hR.2.1.2.2.2.1
  have b4 := hR.2.1.2.2.2.2.1
  have n0 := hR.1 2 (by decide)
  refine zC.of [some (zr 124), some (zi s)] (by decide +kernel) rfl rfl (Nat.le_of_ble_eq_true rfl) rfl ?_
  refine p_aload_n 1 dX12_isSleeper_0 rfl rfl (by decide) ?_
  refine p_getI 124 4 dX12_isSleeper_1 fX12_178 rfl ?_
  refine p_if_eq 27 7 dX12_isSleeper_4 (by omega) (by omega) (fun h4 => ?_) (fun h4 => ?_)
  · refine p_iconst 28 dX12_isSleeper_27 ?_
    refine p_zret dX12_isSleeper_28 rfl (by decide) ?_
    refine ⟨_, rfl, ?_, rfl⟩
    first | (rw [if_neg (by omega)]; done) | (split at h20 <;> first | (rw [if_pos (by omega)]; done) | (rw [if_neg (by omega)]; done) | omega)
  · refine p_iload_n 8 dX12_isSleeper_7 rfl rfl ?_
    refine p_iconst 9 dX12_isSleeper_8 ?_
    refine p_aload_n 10 dX12_isSleeper_9 rfl rfl (by decide) ?_
    refine p_getR 124 13 dX12_isSleeper_10 fX12_20 rfl (hW (124, 15, 127) (by decide)) ?_
    refine p_iconst 14 dX12_isSleeper_13 ?_
    refine p_iald 127 15 dX12_isSleeper_14 rfl (by omega) (by omega) ?_
    try simp only [Int.toNat_natCast, Int.reduceToNat]
    rw [hE 2 (by decide)]
    refine p_iconst 16 dX12_isSleeper_15 ?_
    refine p_isub 17 dX12_isSleeper_16 ?_
    refine p_callS3i 20 dX12_isSleeper_17 (s_in (by omega) (by omega) (by omega) (by omega) (by omega) (by omega)) lk_X12_146 mX12_in (by decide) (Nat.le_of_ble_eq_true rfl) ?_
    rintro _ _ ⟨rfl, rfl⟩
    refine p_if_eq 27 23 dX12_isSleeper_20 (by split <;> omega) (by split <;> omega) (fun h20 => ?_) (fun h20 => ?_)
    · refine p_iconst 28 dX12_isSleeper_27 ?_
      refine p_zret dX12_isSleeper_28 rfl (by decide) ?_
      refine ⟨_, rfl, ?_, rfl⟩
      first | (rw [if_neg (by omega)]; done) | (split at h20 <;> first | (rw [if_pos (by omega)]; done) | (rw [if_neg (by omega)]; done) | omega)
    · refine p_iconst 24 dX12_isSleeper_23 ?_
      refine p_goto 28 dX12_isSleeper_24 ?_
      refine p_zret dX12_isSleeper_28 rfl (by decide) ?_
      refine ⟨_, rfl, ?_, rfl⟩
      first | (rw [if_neg (by omega)]; done) | (split at h20 <;> first | (rw [if_pos (by omega)]; done) | (rw [if_neg (by omega)]; done) | omega)
theorem s_isAwake {l : Launch} {X : ZX} {M : ZM} {ρ : Nat → Int} (hW : zWm M) (hE : ∀ i, i < 421 → M 127 i = ρ i) (hR : wfR ρ) (hh : M 124 14 = 0 ∨ M 124 14 = 1) {s : Int} (hs1 : -2147483648 ≤ s) (hs2 : s < 2147483648) : zCi l X 1 yX12_isAwake tX12_isAwake [zr 124, zi s] M (fun a M' => a = (if M 124 14 = 1 ∧ 0 ≤ s ∧ s < ρ 3 then 1 else 0) ∧ M' = M) := by
  have e2 : ρ 2 = (q_n ρ 2 : Int) := hR.n (by decide)
  have e3 : ρ 3 = (q_n ρ 3 : Int) := hR.n (by decide)
  have e4 : ρ 4 = (q_n ρ 4 : Int) := hR.n (by decide)
  have b2 := hR.2.1.2.2.1
  have b3 := hR.2.1.2.2.2.1
  have b4 := hR.2.1.2.2.2.2.1
  have n0 := hR.1 3 (by decide)
  refine zC.of [some (zr 124), some (zi s)] (by decide +kernel) rfl rfl (Nat.le_of_ble_eq_true rfl) rfl ?_
  refine p_aload_n 1 dX12_isAwake_0 rfl rfl (by decide) ?_
  refine p_getI 124 4 dX12_isAwake_1 fX12_178 rfl ?_
  refine p_if_eq 27 7 dX12_isAwake_4 (by omega) (by omega) (fun h4 => ?_) (fun h4 => ?_)
  · refine p_iconst 28 dX12_isAwake_27 ?_
    refine p_zret dX12_isAwake_28 rfl (by decide) ?_
    refine ⟨_, rfl, ?_, rfl⟩
    first | (rw [if_neg (by omega)]; done) | (split at h20 <;> first | (rw [if_pos (by omega)]; done) | (rw [if_neg (by omega)]; done) | omega)
  · refine p_iload_n 8 dX12_isAwake_7 rfl rfl ?_
    refine p_iconst 9 dX12_isAwake_8 ?_
    refine p_aload_n 10 dX12_isAwake_9 rfl rfl (by decide) ?_
    refine p_getR 124 13 dX12_isAwake_10 fX12_20 rfl (hW (124, 15, 127) (by decide)) ?_
    refine p_iconst 14 dX12_isAwake_13 ?_
    refine p_iald 127 15 dX12_isAwake_14 rfl (by omega) (by omega) ?_
    try simp only [Int.toNat_natCast, Int.reduceToNat]
    rw [hE 3 (by decide)]
    refine p_iconst 16 dX12_isAwake_15 ?_
    refine p_isub 17 dX12_isAwake_16 ?_
    refine p_callS3i 20 dX12_isAwake_17 (s_in (by omega) (by omega) (by omega) (by omega) (by omega) (by omega)) lk_X12_146 mX12_in (by decide) (Nat.le_of_ble_eq_true rfl) ?_
    rintro _ _ ⟨rfl, rfl⟩
    refine p_if_eq 27 23 dX12_isAwake_20 (by split <;> omega) (by split <;> omega) (fun h20 => ?_) (fun h20 => ?_)
    · refine p_iconst 28 dX12_isAwake_27 ?_
      refine p_zret dX12_isAwake_28 rfl (by decide) ?_
      refine ⟨_, rfl, ?_, rfl⟩
      first | (rw [if_neg (by omega)]; done) | (split at h20 <;> first | (rw [if_pos (by omega)]; done) | (rw [if_neg (by omega)]; done) | omega)
    · refine p_iconst 24 dX12_isAwake_23 ?_
      refine p_goto 28 dX12_isAwake_24 ?_
      refine p_zret dX12_isAwake_28 rfl (by decide) ?_
      refine ⟨_, rfl, ?_, rfl⟩
      first | (rw [if_neg (by omega)]; done) | (split at h20 <;> first | (rw [if_pos (by omega)]; done) | (rw [if_neg (by omega)]; done) | omega)
theorem s_isWordThere {l : Launch} {X : ZX} {M : ZM} {ρ : Nat → Int} (hW : zWm M) (hE : ∀ i, i < 421 → M 127 i = ρ i) (hR : wfR ρ) (hh : M 124 14 = 0 ∨ M 124 14 = 1) {s : Int} (hs1 : -2147483648 ≤ s) (hs2 : s < 2147483648) : zCi l X 1 yX12_isWordThere tX12_isWordThere [zr 124, zi s] M (fun a M' => a = (if M 124 14 = 1 ∧ 0 ≤ s ∧ s < ρ 4 then 1 else 0) ∧ M' = M) := by
  have e2 : ρ 2 = (q_n ρ 2 : Int) := hR.n (by decide)
  have e3 : ρ 3 = (q_n ρ 3 : Int) := hR.n (by decide)
  have e4 : ρ 4 = (q_n ρ 4 : Int) := hR.n (by decide)
  have b2 := hR.2.1.2.2.1
  have b3 := hR.2.1.2.2.2.1
  have b4 := hR.2.1.2.2.2.2.1
  have n0 := hR.1 4 (by decide)
  refine zC.of [some (zr 124), some (zi s)] (by decide +kernel) rfl rfl (Nat.le_of_ble_eq_true rfl) rfl ?_
  refine p_aload_n 1 dX12_isWordThere_0 rfl rfl (by decide) ?_
  refine p_getI 124 4 dX12_isWordThere_1 fX12_178 rfl ?_
  refine p_if_eq 27 7 dX12_isWordThere_4 (by omega) (by omega) (fun h4 => ?_) (fun h4 => ?_)
  · refine p_iconst 28 dX12_isWordThere_27 ?_
    refine p_zret dX12_isWordThere_28 rfl (by decide) ?_
    refine ⟨_, rfl, ?_, rfl⟩
    first | (rw [if_neg (by omega)]; done) | (split at h20 <;> first | (rw [if_pos (by omega)]; done) | (rw [if_neg (by omega)]; done) | omega)
  · refine p_iload_n 8 dX12_isWordThere_7 rfl rfl ?_
    refine p_iconst 9 dX12_isWordThere_8 ?_
    refine p_aload_n 10 dX12_isWordThere_9 rfl rfl (by decide) ?_
    refine p_getR 124 13 dX12_isWordThere_10 fX12_20 rfl (hW (124, 15, 127) (by decide)) ?_
    refine p_iconst 14 dX12_isWordThere_13 ?_
    refine p_iald 127 15 dX12_isWordThere_14 rfl (by omega) (by omega) ?_
    try simp only [Int.toNat_natCast, Int.reduceToNat]
    rw [hE 4 (by decide)]
    refine p_iconst 16 dX12_isWordThere_15 ?_
    refine p_isub 17 dX12_isWordThere_16 ?_
    refine p_callS3i 20 dX12_isWordThere_17 (s_in (by omega) (by omega) (by omega) (by omega) (by omega) (by omega)) lk_X12_146 mX12_in (by decide) (Nat.le_of_ble_eq_true rfl) ?_
    rintro _ _ ⟨rfl, rfl⟩
    refine p_if_eq 27 23 dX12_isWordThere_20 (by split <;> omega) (by split <;> omega) (fun h20 => ?_) (fun h20 => ?_)
    · refine p_iconst 28 dX12_isWordThere_27 ?_
      refine p_zret dX12_isWordThere_28 rfl (by decide) ?_
      refine ⟨_, rfl, ?_, rfl⟩
      first | (rw [if_neg (by omega)]; done) | (split at h20 <;> first | (rw [if_pos (by omega)]; done) | (rw [if_neg (by omega)]; done) | omega)
    · refine p_iconst 24 dX12_isWordThere_23 ?_
      refine p_goto 28 dX12_isWordThere_24 ?_
      refine p_zret dX12_isWordThere_28 rfl (by decide) ?_
      refine ⟨_, rfl, ?_, rfl⟩
      first | (rw [if_neg (by omega)]; done) | (split at h20 <;> first | (rw [if_pos (by omega)]; done) | (rw [if_neg (by omega)]; done) | omega)
theorem l_thingsFor {l : Launch} {X : ZX} {M : ZM} {d : Nat} {c : Nat} (hc : zTT[c]? = some (.inl 0)) {k : Nat} (hk : k ≤ 9) (hlk : M c 1 = (k : Int)) (a1 : Int) : ∀ (f v : Nat), v ≤ f → v < 2147483648 → ∀ (a2 a3 : Int) (o5 : Option ZV), zP l X d tX0_thingsFor 7 [some (zr (c : Int)), some (zi a1), some (zi a2), some (zi a3), some (zi (v : Int)), o5] [] M (fun r M' => ∃ a, r = some (zi a) ∧ ((match q_rly k v with
  | some x => a = a2 + a3 * (x : Int)
  | none => a = -2) ∧ M' = M)) := by
  intro f
  induction f with
  | zero =>
    intro v hv hb a2 a3 o5
    have e : v = 0 := by omega
    subst e
    refine p_iload 9 dX0_thingsFor_7 rfl ?_
    refine p_if_le 69 12 dX0_thingsFor_9 (by omega) (by omega) (fun h9 => ?_) (fun h9 => absurd (by omega) (fun h9 : False => h9))
    refine p_iload_n 70 dX0_thingsFor_69 rfl rfl ?_
    refine p_iret dX0_thingsFor_70 rfl ?_
    refine ⟨_, rfl, ?_, rfl⟩
    unfold q_rly
    simp
  | succ f ih =>
    intro v hv hb a2 a3 o5
    by_cases e0 : v = 0
    · subst e0
      refine p_iload 9 dX0_thingsFor_7 rfl ?_
      refine p_if_le 69 12 dX0_thingsFor_9 (by omega) (by omega) (fun h9 => ?_) (fun h9 => absurd (by omega) (fun h9 : False => h9))
      refine p_iload_n 70 dX0_thingsFor_69 rfl rfl ?_
      refine p_iret dX0_thingsFor_70 rfl ?_
      refine ⟨_, rfl, ?_, rfl⟩
      unfold q_rly
      simp
    · have er := z_irem_n v 10 hb (by decide)
      have ed := z_idiv_n v 10 hb (by decide)
      refine p_iload 9 dX0_thingsFor_7 rfl ?_
      refine p_if_le 69 12 dX0_thingsFor_9 (by omega) (by omega) (fun h9 => absurd (by omega) (fun h9 : False => h9)) (fun h9 => ?_)
      refine p_iload 14 dX0_thingsFor_12 rfl ?_
      refine p_bipush 16 dX0_thingsFor_14 rfl ?_
      refine p_irem 17 dX0_thingsFor_16 (by decide) ?_
      rw [show z_irem (v : Int) 10 = ((v % 10 : Nat) : Int) from er]
      refine p_istore 19 dX0_thingsFor_17 (Nat.le_of_ble_eq_true rfl) rfl rfl ?_
      dsimp only [List.set]
      refine p_iload 21 dX0_thingsFor_19 rfl ?_
      refine p_aload_n 22 dX0_thingsFor_21 rfl rfl (by omega) ?_
      refine p_getI (c) 25 dX0_thingsFor_22 fX0_43 hc ?_
      rw [hlk]
      refine p_icmp_ne 31 28 dX0_thingsFor_25 (by omega) (by omega) (by omega) (by omega) (fun h25 => ?_) (fun h25 => ?_)
      · refine p_iload_n 32 dX0_thingsFor_31 rfl rfl ?_
        refine p_iload 34 dX0_thingsFor_32 rfl ?_
        refine p_aload_n 35 dX0_thingsFor_34 rfl rfl (by omega) ?_
        refine p_getI (c) 38 dX0_thingsFor_35 fX0_43 hc ?_
        rw [hlk]
        refine p_icmp_le 48 41 dX0_thingsFor_38 (by omega) (by omega) (by omega) (by omega) (fun h38 => ?_) (fun h38 => ?_)
        · refine p_iload 50 dX0_thingsFor_48 rfl ?_
          refine p_iload_n 51 dX0_thingsFor_50 rfl rfl ?_
          refine p_imul 52 dX0_thingsFor_51 ?_
          refine p_iadd 53 dX0_thingsFor_52 ?_
          refine p_istore_n 54 dX0_thingsFor_53 rfl (Nat.le_of_ble_eq_true rfl) rfl rfl ?_
          dsimp only [List.set]
          refine p_iload_n 55 dX0_thingsFor_54 rfl rfl ?_
          refine p_bipush 57 dX0_thingsFor_55 rfl ?_
          refine p_imul 58 dX0_thingsFor_57 ?_
          refine p_istore_n 59 dX0_thingsFor_58 rfl (Nat.le_of_ble_eq_true rfl) rfl rfl ?_
          dsimp only [List.set]
          refine p_iload 61 dX0_thingsFor_59 rfl ?_
          refine p_bipush 63 dX0_thingsFor_61 rfl ?_
          refine p_idiv 64 dX0_thingsFor_63 (by decide) ?_
          refine p_istore 66 dX0_thingsFor_64 (Nat.le_of_ble_eq_true rfl) rfl rfl ?_
          dsimp only [List.set]
          refine p_goto 7 dX0_thingsFor_66 ?_
          rw [show z_idiv (v : Int) 10 = ((v / 10 : Nat) : Int) from ed]
          refine (ih (v / 10) (by omega) (by omega) _ _ _).mono (fun r M9 h9 => ?_)
          obtain ⟨a, ea, eb, ec⟩ := h9
          refine ⟨a, ea, ?_, ec⟩
          unfold q_rly
          rw [dif_neg e0, if_neg (by omega)]
          cases hq : q_rly k (v / 10) with
          | none => rw [hq] at eb; exact eb
          | some x =>
            rw [hq] at eb
            simp only [Option.map_some]
            rw [eb]
            first | (rw [if_neg (by omega)]; push_cast; grind) | (rw [if_pos (by omega), Int.natCast_add, Int.natCast_sub (by omega)]; push_cast; grind)
        · refine p_iload 43 dX0_thingsFor_41 rfl ?_
          refine p_iconst 44 dX0_thingsFor_43 ?_
          refine p_isub 45 dX0_thingsFor_44 ?_
          refine p_goto 50 dX0_thingsFor_45 ?_
          refine p_iload_n 51 dX0_thingsFor_50 rfl rfl ?_
          refine p_imul 52 dX0_thingsFor_51 ?_
          refine p_iadd 53 dX0_thingsFor_52 ?_
          refine p_istore_n 54 dX0_thingsFor_53 rfl (Nat.le_of_ble_eq_true rfl) rfl rfl ?_
          dsimp only [List.set]
          refine p_iload_n 55 dX0_thingsFor_54 rfl rfl ?_
          refine p_bipush 57 dX0_thingsFor_55 rfl ?_
          refine p_imul 58 dX0_thingsFor_57 ?_
          refine p_istore_n 59 dX0_thingsFor_58 rfl (Nat.le_of_ble_eq_true rfl) rfl rfl ?_
          dsimp only [List.set]
          refine p_iload 61 dX0_thingsFor_59 rfl ?_
          refine p_bipush 63 dX0_thingsFor_61 rfl ?_
          refine p_idiv 64 dX0_thingsFor_63 (by decide) ?_
          refine p_istore 66 dX0_thingsFor_64 (Nat.le_of_ble_eq_true rfl) rfl rfl ?_
          dsimp only [List.set]
          refine p_goto 7 dX0_thingsFor_66 ?_
          rw [show z_idiv (v : Int) 10 = ((v / 10 : Nat) : Int) from ed]
          refine (ih (v / 10) (by omega) (by omega) _ _ _).mono (fun r M9 h9 => ?_)
          obtain ⟨a, ea, eb, ec⟩ := h9
          refine ⟨a, ea, ?_, ec⟩
          unfold q_rly
          rw [dif_neg e0, if_neg (by omega)]
          cases hq : q_rly k (v / 10) with
          | none => rw [hq] at eb; exact eb
          | some x =>
            rw [hq] at eb
            simp only [Option.map_some]
            rw [eb]
            first | (rw [if_neg (by omega)]; push_cast; grind) | (rw [if_pos (by omega), Int.natCast_add, Int.natCast_sub (by omega)]; push_cast; grind)
      · refine p_bipush 30 dX0_thingsFor_28 rfl ?_
        refine p_iret dX0_thingsFor_30 rfl ?_
        refine ⟨_, rfl, ?_, rfl⟩
        unfold q_rly
        rw [dif_neg e0, if_pos (by omega)]
theorem s_thingsFor {l : Launch} {X : ZX} {M : ZM} {c : Nat} (hc : zTT[c]? = some (.inl 0)) {k : Nat} (hk : k ≤ 9) (hlk : M c 1 = (k : Int)) {v : Nat} (hv : v < 2147483648) : zCi l X 0 yX0_thingsFor tX0_thingsFor [zr (c : Int), zi (v : Int)] M (fun a M' => a = q_opt (q_rly k v) ∧ M' = M) := by
  refine zC.of [some (zr (c : Int)), some (zi (v : Int)), none, none, none, none] (by decide +kernel) rfl rfl (Nat.le_of_ble_eq_true rfl) rfl ?_
  refine p_iconst 1 dX0_thingsFor_0 ?_
  refine p_istore_n 2 dX0_thingsFor_1 rfl (Nat.le_of_ble_eq_true rfl) rfl rfl ?_
  dsimp only [List.set]
  refine p_iconst 3 dX0_thingsFor_2 ?_
  refine p_istore_n 4 dX0_thingsFor_3 rfl (Nat.le_of_ble_eq_true rfl) rfl rfl ?_
  dsimp only [List.set]
  refine p_iload_n 5 dX0_thingsFor_4 rfl rfl ?_
  refine p_istore 7 dX0_thingsFor_5 (Nat.le_of_ble_eq_true rfl) rfl rfl ?_
  dsimp only [List.set]
  refine (l_thingsFor hc hk hlk _ v v (Nat.le_refl v) hv _ _ _).mono (fun r M9 h9 => ?_)
  obtain ⟨a, ea, eb, ec⟩ := h9
  refine ⟨a, ea, ?_, ec⟩
  cases hq : q_rly k v with
  | none => rw [hq] at eb; exact eb
  | some x => rw [hq] at eb; rw [eb]; unfold q_opt; simp
theorem l_reallyOf {l : Launch} {X : ZX} {M : ZM} {d : Nat} (hW : zWm M) {k : Nat} (hk : k ≤ 9) (hlk : M 127 0 = (k : Int)) (a1 : Int) : ∀ (f v : Nat), v ≤ f → v < 2147483648 → ∀ (a2 a3 : Int) (o5 : Option ZV), zP l X d tX12_reallyOf 7 [some (zr 124), some (zi a1), some (zi a2), some (zi a3), some (zi (v : Int)), o5] [] M (fun r M' => ∃ a, r = some (zi a) ∧ ((match q_rly k v with
  | some x => a = a2 + a3 * (x : Int)
  | none => a = -2) ∧ M' = M)) := by
  intro f
  induction f with
  | zero =>
    intro v hv hb a2 a3 o5
    have e : v = 0 := by omega
    subst e
    refine p_iload 9 dX12_reallyOf_7 rfl ?_
    refine p_if_le 73 12 dX12_reallyOf_9 (by omega) (by omega) (fun h9 => ?_) (fun h9 => absurd (by omega) (fun h9 : False => h9))
    refine p_iload_n 74 dX12_reallyOf_73 rfl rfl ?_
    refine p_iret dX12_reallyOf_74 rfl ?_
    refine ⟨_, rfl, ?_, rfl⟩
    unfold q_rly
    simp
  | succ f ih =>
    intro v hv hb a2 a3 o5
    by_cases e0 : v = 0
    · subst e0
      refine p_iload 9 dX12_reallyOf_7 rfl ?_
      refine p_if_le 73 12 dX12_reallyOf_9 (by omega) (by omega) (fun h9 => ?_) (fun h9 => absurd (by omega) (fun h9 : False => h9))
      refine p_iload_n 74 dX12_reallyOf_73 rfl rfl ?_
      refine p_iret dX12_reallyOf_74 rfl ?_
      refine ⟨_, rfl, ?_, rfl⟩
      unfold q_rly
      simp
    · have er := z_irem_n v 10 hb (by decide)
      have ed := z_idiv_n v 10 hb (by decide)
      refine p_iload 9 dX12_reallyOf_7 rfl ?_
      refine p_if_le 73 12 dX12_reallyOf_9 (by omega) (by omega) (fun h9 => absurd (by omega) (fun h9 : False => h9)) (fun h9 => ?_)
      refine p_iload 14 dX12_reallyOf_12 rfl ?_
      refine p_bipush 16 dX12_reallyOf_14 rfl ?_
      refine p_irem 17 dX12_reallyOf_16 (by decide) ?_
      rw [show z_irem (v : Int) 10 = ((v % 10 : Nat) : Int) from er]
      refine p_istore 19 dX12_reallyOf_17 (Nat.le_of_ble_eq_true rfl) rfl rfl ?_
      dsimp only [List.set]
      refine p_iload 21 dX12_reallyOf_19 rfl ?_
      refine p_aload_n 22 dX12_reallyOf_21 rfl rfl (by decide) ?_
      refine p_getR 124 25 dX12_reallyOf_22 fX12_20 rfl (hW (124, 15, 127) (by decide)) ?_
      refine p_iconst 26 dX12_reallyOf_25 ?_
      refine p_iald 127 27 dX12_reallyOf_26 rfl (by omega) (by omega) ?_
      try simp only [Int.toNat_natCast, Int.reduceToNat]
      rw [hlk]
      refine p_icmp_ne 33 30 dX12_reallyOf_27 (by omega) (by omega) (by omega) (by omega) (fun h27 => ?_) (fun h27 => ?_)
      · refine p_iload_n 34 dX12_reallyOf_33 rfl rfl ?_
        refine p_iload_n 35 dX12_reallyOf_34 rfl rfl ?_
        refine p_iload 37 dX12_reallyOf_35 rfl ?_
        refine p_aload_n 38 dX12_reallyOf_37 rfl rfl (by decide) ?_
        refine p_getR 124 41 dX12_reallyOf_38 fX12_20 rfl (hW (124, 15, 127) (by decide)) ?_
        refine p_iconst 42 dX12_reallyOf_41 ?_
        refine p_iald 127 43 dX12_reallyOf_42 rfl (by omega) (by omega) ?_
        try simp only [Int.toNat_natCast, Int.reduceToNat]
        rw [hlk]
        refine p_icmp_le 53 46 dX12_reallyOf_43 (by omega) (by omega) (by omega) (by omega) (fun h43 => ?_) (fun h43 => ?_)
        · refine p_iload 55 dX12_reallyOf_53 rfl ?_
          refine p_imul 56 dX12_reallyOf_55 ?_
          refine p_iadd 57 dX12_reallyOf_56 ?_
          refine p_istore_n 58 dX12_reallyOf_57 rfl (Nat.le_of_ble_eq_true rfl) rfl rfl ?_
          dsimp only [List.set]
          refine p_iload_n 59 dX12_reallyOf_58 rfl rfl ?_
          refine p_bipush 61 dX12_reallyOf_59 rfl ?_
          refine p_imul 62 dX12_reallyOf_61 ?_
          refine p_istore_n 63 dX12_reallyOf_62 rfl (Nat.le_of_ble_eq_true rfl) rfl rfl ?_
          dsimp only [List.set]
          refine p_iload 65 dX12_reallyOf_63 rfl ?_
          refine p_bipush 67 dX12_reallyOf_65 rfl ?_
          refine p_idiv 68 dX12_reallyOf_67 (by decide) ?_
          refine p_istore 70 dX12_reallyOf_68 (Nat.le_of_ble_eq_true rfl) rfl rfl ?_
          dsimp only [List.set]
          refine p_goto 7 dX12_reallyOf_70 ?_
          rw [show z_idiv (v : Int) 10 = ((v / 10 : Nat) : Int) from ed]
          refine (ih (v / 10) (by omega) (by omega) _ _ _).mono (fun r M9 h9 => ?_)
          obtain ⟨a, ea, eb, ec⟩ := h9
          refine ⟨a, ea, ?_, ec⟩
          unfold q_rly
          rw [dif_neg e0, if_neg (by omega)]
          cases hq : q_rly k (v / 10) with
          | none => rw [hq] at eb; exact eb
          | some x =>
            rw [hq] at eb
            simp only [Option.map_some]
            rw [eb]
            first | (rw [if_neg (by omega)]; push_cast; grind) | (rw [if_pos (by omega), Int.natCast_add, Int.natCast_sub (by omega)]; push_cast; grind)
        · refine p_iload 48 dX12_reallyOf_46 rfl ?_
          refine p_iconst 49 dX12_reallyOf_48 ?_
          refine p_isub 50 dX12_reallyOf_49 ?_
          refine p_goto 55 dX12_reallyOf_50 ?_
          refine p_imul 56 dX12_reallyOf_55 ?_
          refine p_iadd 57 dX12_reallyOf_56 ?_
          refine p_istore_n 58 dX12_reallyOf_57 rfl (Nat.le_of_ble_eq_true rfl) rfl rfl ?_
          dsimp only [List.set]
          refine p_iload_n 59 dX12_reallyOf_58 rfl rfl ?_
          refine p_bipush 61 dX12_reallyOf_59 rfl ?_
          refine p_imul 62 dX12_reallyOf_61 ?_
          refine p_istore_n 63 dX12_reallyOf_62 rfl (Nat.le_of_ble_eq_true rfl) rfl rfl ?_
          dsimp only [List.set]
          refine p_iload 65 dX12_reallyOf_63 rfl ?_
          refine p_bipush 67 dX12_reallyOf_65 rfl ?_
          refine p_idiv 68 dX12_reallyOf_67 (by decide) ?_
          refine p_istore 70 dX12_reallyOf_68 (Nat.le_of_ble_eq_true rfl) rfl rfl ?_
          dsimp only [List.set]
          refine p_goto 7 dX12_reallyOf_70 ?_
          rw [show z_idiv (v : Int) 10 = ((v / 10 : Nat) : Int) from ed]
          refine (ih (v / 10) (by omega) (by omega) _ _ _).mono (fun r M9 h9 => ?_)
          obtain ⟨a, ea, eb, ec⟩ := h9
          refine ⟨a, ea, ?_, ec⟩
          unfold q_rly
          rw [dif_neg e0, if_neg (by omega)]
          cases hq : q_rly k (v / 10) with
          | none => rw [hq] at eb; exact eb
          | some x =>
            rw [hq] at eb
            simp only [Option.map_some]
            rw [eb]
            first | (rw [if_neg (by omega)]; push_cast; grind) | (rw [if_pos (by omega), Int.natCast_add, Int.natCast_sub (by omega)]; push_cast; grind)
      · refine p_bipush 32 dX12_reallyOf_30 rfl ?_
        refine p_iret dX12_reallyOf_32 rfl ?_
        refine ⟨_, rfl, ?_, rfl⟩
        unfold q_rly
        rw [dif_neg e0, if_pos (by omega)]
theorem s_reallyOf {l : Launch} {X : ZX} {M : ZM} (hW : zWm M) {k : Nat} (hk : k ≤ 9) (hlk : M 127 0 = (k : Int)) {v : Nat} (hv : v < 2147483648) : zCi l X 0 yX12_reallyOf tX12_reallyOf [zr 124, zi (v : Int)] M (fun a M' => a = q_opt (q_rly k v) ∧ M' = M) := by
  refine zC.of [some (zr 124), some (zi (v : Int)), none, none, none, none] (by decide +kernel) rfl rfl (Nat.le_of_ble_eq_true rfl) rfl ?_
  refine p_iconst 1 dX12_reallyOf_0 ?_
  refine p_istore_n 2 dX12_reallyOf_1 rfl (Nat.le_of_ble_eq_true rfl) rfl rfl ?_
  dsimp only [List.set]
  refine p_iconst 3 dX12_reallyOf_2 ?_
  refine p_istore_n 4 dX12_reallyOf_3 rfl (Nat.le_of_ble_eq_true rfl) rfl rfl ?_
  dsimp only [List.set]
  refine p_iload_n 5 dX12_reallyOf_4 rfl rfl ?_
  refine p_istore 7 dX12_reallyOf_5 (Nat.le_of_ble_eq_true rfl) rfl rfl ?_
  dsimp only [List.set]
  refine (l_reallyOf hW hk hlk _ v v (Nat.le_refl v) hv _ _ _).mono (fun r M9 h9 => ?_)
  obtain ⟨a, ea, eb, ec⟩ := h9
  refine ⟨a, ea, ?_, ec⟩
  cases hq : q_rly k v with
  | none => rw [hq] at eb; exact eb
  | some x => rw [hq] at eb; rw [eb]; unfold q_opt; simp
theorem s_oddsOf {l : Launch} {X : ZX} {M : ZM} {ρ : Nat → Int} (hW : zWm M) (hE : ∀ i, i < 421 → M 127 i = ρ i) (hR : wfR ρ) {w : Nat} (hw : w < 7) : zCi l X 0 yX12_oddsOf tX12_oddsOf [zr 124, zi (w : Int)] M (fun a M' => a = ρ (38 + 3 * w) ∧ M' = M) := by
  refine zC.of [some (zr 124), some (zi (w : Int))] (by decide +kernel) rfl rfl (Nat.le_of_ble_eq_true rfl) rfl ?_
  refine p_aload_n 1 dX12_oddsOf_0 rfl rfl (by decide) ?_
  refine p_getR 124 4 dX12_oddsOf_1 fX12_20 rfl (hW (124, 15, 127) (by decide)) ?_
  refine p_bipush 6 dX12_oddsOf_4 rfl ?_
  refine p_iconst 7 dX12_oddsOf_6 ?_
  refine p_iload_n 8 dX12_oddsOf_7 rfl rfl ?_
  refine p_imul 9 dX12_oddsOf_8 ?_
  refine p_iadd 10 dX12_oddsOf_9 ?_
  refine p_ialdn 127 11 (38 + 3 * w) dX12_oddsOf_10 rfl (by omega) (by omega) ?_
  refine p_iret dX12_oddsOf_11 rfl ?_
  exact ⟨_, rfl, hE _ (by omega), rfl⟩
theorem s_minutesOf {l : Launch} {X : ZX} {M : ZM} {ρ : Nat → Int} (hW : zWm M) (hE : ∀ i, i < 421 → M 127 i = ρ i) (hR : wfR ρ) {w : Nat} (hw : w < 7) : zCi l X 0 yX12_minutesOf tX12_minutesOf [zr 124, zi (w : Int)] M (fun a M' => a = ρ (38 + 3 * w + 1) ∧ M' = M) := by
  refine zC.of [some (zr 124), some (zi (w : Int))] (by decide +kernel) rfl rfl (Nat.le_of_ble_eq_true rfl) rfl ?_
  refine p_aload_n 1 dX12_minutesOf_0 rfl rfl (by decide) ?_
  refine p_getR 124 4 dX12_minutesOf_1 fX12_20 rfl (hW (124, 15, 127) (by decide)) ?_
  refine p_bipush 6 dX12_minutesOf_4 rfl ?_
  refine p_iconst 7 dX12_minutesOf_6 ?_
  refine p_iload_n 8 dX12_minutesOf_7 rfl rfl ?_
  refine p_imul 9 dX12_minutesOf_8 ?_
  refine p_iadd 10 dX12_minutesOf_9 ?_
  refine p_iconst 11 dX12_minutesOf_10 ?_
  refine p_iadd 12 dX12_minutesOf_11 ?_
  refine p_ialdn 127 13 (38 + 3 * w + 1) dX12_minutesOf_12 rfl (by omega) (by omega) ?_
  refine p_iret dX12_minutesOf_13 rfl ?_
  exact ⟨_, rfl, hE _ (by omega), rfl⟩
theorem s_unsaid {l : Launch} {X : ZX} {M : ZM} {ρ : Nat → Int} (hW : zWm M) (hE : ∀ i, i < 421 → M 127 i = ρ i) (hR : wfR ρ) {τ : Nat → Int} (hU : ∀ i, i < 18 → M 129 i = τ i) (hT : wfT ρ τ) : zCi l X 0 yX12_unsaid tX12_unsaid [zr 124] M (fun a M' => a = (q_un (q_n ρ 4) (τ 14).toNat : Int) ∧ M' = M) := by
  have e2 : ρ 2 = (q_n ρ 2 : Int) := hR.n (by decide)
  have e3 : ρ 3 = (q_n ρ 3 : Int) := hR.n (by decide)
  have e4 : ρ 4 = (q_n ρ 4 : Int) := hR.n (by decide)
  have b2 := hR.2.1.2.2.1
  have b3 := hR.2.1.2.2.2.1
  have b4 := hR.2.1.2.2.2.2.1
  have s14 : τ 14 = ((τ 14).toNat : Int) := (Int.toNat_of_nonneg (hT.1 14 (by decide))).symm
  have s14b : (τ 14).toNat < 2147483648 := by
    have h := hT.2.2.1
    have h2 : 2 ^ (ρ 4).toNat ≤ 2 ^ 31 := Nat.pow_le_pow_right (by decide) (by omega)
    have h3 : ((2 ^ (ρ 4).toNat : Nat) : Int) ≤ ((2 ^ 31 : Nat) : Int) := by exact_mod_cast h2
    have h4 : (2 : Int) ^ (ρ 4).toNat = ((2 ^ (ρ 4).toNat : Nat) : Int) := by push_cast; rfl
    rw [h4] at h
    omega
  refine zC.of [some (zr 124)] (by decide +kernel) rfl rfl (Nat.le_of_ble_eq_true rfl) rfl ?_
  refine p_aload_n 1 dX12_unsaid_0 rfl rfl (by decide) ?_
  refine p_getR 124 4 dX12_unsaid_1 fX12_26 rfl (hW (124, 17, 129) (by decide)) ?_
  refine p_bipush 6 dX12_unsaid_4 rfl ?_
  refine p_iald 129 7 dX12_unsaid_6 rfl (by omega) (by omega) ?_
  try simp only [Int.toNat_natCast, Int.reduceToNat]
  rw [hU 14 (by decide), s14]
  refine p_iconst 8 dX12_unsaid_7 ?_
  refine p_ixor 9 dX12_unsaid_8 ?_
  refine p_iconst 10 dX12_unsaid_9 ?_
  refine p_aload_n 11 dX12_unsaid_10 rfl rfl (by decide) ?_
  refine p_getR 124 14 dX12_unsaid_11 fX12_20 rfl (hW (124, 15, 127) (by decide)) ?_
  refine p_iconst 15 dX12_unsaid_14 ?_
  refine p_iald 127 16 dX12_unsaid_15 rfl (by omega) (by omega) ?_
  try simp only [Int.toNat_natCast, Int.reduceToNat]
  rw [hE 4 (by decide), e4]
  refine p_ishl 17 dX12_unsaid_16 ?_
  refine p_iconst 18 dX12_unsaid_17 ?_
  refine p_isub 19 dX12_unsaid_18 ?_
  rw [z_full (q_n ρ 4) (by omega)]
  refine p_iand 20 dX12_unsaid_19 ?_
  rw [z_un _ _ (by omega) s14b]
  refine p_iret dX12_unsaid_20 rfl ?_
  exact ⟨_, rfl, rfl, rfl⟩
theorem l_oddsIn {l : Launch} {X : ZX} {M : ZM} {ρ : Nat → Int} (hW : zWm M) (hE : ∀ i, i < 421 → M 127 i = ρ i) (hR : wfR ρ) {S : Nat} (hS : S < 2147483648) : ∀ (j i : Nat), i + j = q_n ρ 4 → zP l X 1 tX12_oddsIn 4 [some (zr 124), some (zi (S : Int)), some (zi (q_sum (fun w => if S.testBit w then q_n ρ (38 + 3 * w) else 0) i : Int)), some (zi (i : Int))] [] M (fun r M' => ∃ a, r = some (zi a) ∧ (a = (q_odds (q_n ρ) S : Int) ∧ M' = M)) := by
  have e2 : ρ 2 = (q_n ρ 2 : Int) := hR.n (by decide)
  have e3 : ρ 3 = (q_n ρ 3 : Int) := hR.n (by decide)
  have e4 : ρ 4 = (q_n ρ 4 : Int) := hR.n (by decide)
  have b2 := hR.2.1.2.2.1
  have b3 := hR.2.1.2.2.2.1
  have b4 := hR.2.1.2.2.2.2.1
  intro j
  induction j with
  | zero =>
    intro i hi
    refine p_iload_n 5 dX12_oddsIn_4 rfl rfl ?_
    refine p_aload_n 6 dX12_oddsIn_5 rfl rfl (by decide) ?_
    refine p_getR 124 9 dX12_oddsIn_6 fX12_20 rfl (hW (124, 15, 127) (by decide)) ?_
    refine p_iconst 10 dX12_oddsIn_9 ?_
    refine p_iald 127 11 dX12_oddsIn_10 rfl (by omega) (by omega) ?_
    try simp only [Int.toNat_natCast, Int.reduceToNat]
    rw [hE 4 (by decide)]
    refine p_icmp_ge 40 14 dX12_oddsIn_11 (by omega) (by omega) (by omega) (by omega) (fun h11 => ?_) (fun h11 => absurd (by omega) (fun h9 : False => h9))
    refine p_iload_n 41 dX12_oddsIn_40 rfl rfl ?_
    refine p_iret dX12_oddsIn_41 rfl ?_
    rw [Nat.add_zero] at hi
    exact ⟨_, rfl, by unfold q_odds; rw [hi], rfl⟩
  | succ j ih =>
    intro i hi
    have o0 := hR.1 (38 + 3 * i) (by omega)
    refine p_iload_n 5 dX12_oddsIn_4 rfl rfl ?_
    refine p_aload_n 6 dX12_oddsIn_5 rfl rfl (by decide) ?_
    refine p_getR 124 9 dX12_oddsIn_6 fX12_20 rfl (hW (124, 15, 127) (by decide)) ?_
    refine p_iconst 10 dX12_oddsIn_9 ?_
    refine p_iald 127 11 dX12_oddsIn_10 rfl (by omega) (by omega) ?_
    try simp only [Int.toNat_natCast, Int.reduceToNat]
    rw [hE 4 (by decide)]
    refine p_icmp_ge 40 14 dX12_oddsIn_11 (by omega) (by omega) (by omega) (by omega) (fun h11 => absurd (by omega) (fun h9 : False => h9)) (fun h11 => ?_)
    refine p_iload_n 15 dX12_oddsIn_14 rfl rfl ?_
    refine p_iload_n 16 dX12_oddsIn_15 rfl rfl ?_
    refine p_iload_n 17 dX12_oddsIn_16 rfl rfl ?_
    refine p_callS2i 20 dX12_oddsIn_17 (s_hasBit (S := S) (k := i) (by omega) hS) lk_X12_241 mX12_hasBit (by decide) (Nat.le_of_ble_eq_true rfl) ?_
    rintro _ _ ⟨rfl, rfl⟩
    refine p_if_eq 31 23 dX12_oddsIn_20 (by split <;> omega) (by split <;> omega) (fun h20 => ?_) (fun h20 => ?_)
    · refine p_iconst 32 dX12_oddsIn_31 ?_
      refine p_iadd 33 dX12_oddsIn_32 ?_
      refine p_istore_n 34 dX12_oddsIn_33 rfl (Nat.le_of_ble_eq_true rfl) rfl rfl ?_
      dsimp only [List.set]
      refine p_iinc 37 dX12_oddsIn_34 rfl rfl rfl ?_
      dsimp only [List.set]
      refine p_goto 4 dX12_oddsIn_37 ?_
      have e := ih (i + 1) (by omega)
      have er : ((q_sum (fun w => if S.testBit w then q_n ρ (38 + 3 * w) else 0) (i + 1) : Nat) : Int) = (q_sum (fun w => if S.testBit w then q_n ρ (38 + 3 * w) else 0) i : Int) + (if S.testBit i then ρ (38 + 3 * i) else 0) := by
        show ((q_sum (fun w => if S.testBit w then q_n ρ (38 + 3 * w) else 0) i + (if S.testBit i then q_n ρ (38 + 3 * i) else 0) : Nat) : Int) = _
        unfold q_n
        split <;> omega
      rw [er] at e
      cases hb : S.testBit i
      · rw [hb] at e h20
        first | exact e | exact absurd rfl h20
      · rw [hb] at e h20
        first | exact e | exact absurd h20 (by decide)
    · refine p_aload_n 24 dX12_oddsIn_23 rfl rfl (by decide) ?_
      refine p_iload_n 25 dX12_oddsIn_24 rfl rfl ?_
      refine p_callV1i 124 28 dX12_oddsIn_25 (s_oddsOf hW hE hR (w := i) (by omega)) lk_X12_309 mX12_oddsOf rfl rfl (by decide) (Nat.le_of_ble_eq_true rfl) ?_
      rintro _ _ ⟨rfl, rfl⟩
      refine p_goto 32 dX12_oddsIn_28 ?_
      refine p_iadd 33 dX12_oddsIn_32 ?_
      refine p_istore_n 34 dX12_oddsIn_33 rfl (Nat.le_of_ble_eq_true rfl) rfl rfl ?_
      dsimp only [List.set]
      refine p_iinc 37 dX12_oddsIn_34 rfl rfl rfl ?_
      dsimp only [List.set]
      refine p_goto 4 dX12_oddsIn_37 ?_
      have e := ih (i + 1) (by omega)
      have er : ((q_sum (fun w => if S.testBit w then q_n ρ (38 + 3 * w) else 0) (i + 1) : Nat) : Int) = (q_sum (fun w => if S.testBit w then q_n ρ (38 + 3 * w) else 0) i : Int) + (if S.testBit i then ρ (38 + 3 * i) else 0) := by
        show ((q_sum (fun w => if S.testBit w then q_n ρ (38 + 3 * w) else 0) i + (if S.testBit i then q_n ρ (38 + 3 * i) else 0) : Nat) : Int) = _
        unfold q_n
        split <;> omega
      rw [er] at e
      cases hb : S.testBit i
      · rw [hb] at e h20
        first | exact e | exact absurd rfl h20
      · rw [hb] at e h20
        first | exact e | exact absurd h20 (by decide)
theorem s_oddsIn {l : Launch} {X : ZX} {M : ZM} {ρ : Nat → Int} (hW : zWm M) (hE : ∀ i, i < 421 → M 127 i = ρ i) (hR : wfR ρ) {S : Nat} (hS : S < 2147483648) : zCi l X 1 yX12_oddsIn tX12_oddsIn [zr 124, zi (S : Int)] M (fun a M' => a = (q_odds (q_n ρ) S : Int) ∧ M' = M) := by
  refine zC.of [some (zr 124), some (zi (S : Int)), none, none] (by decide +kernel) rfl rfl (Nat.le_of_ble_eq_true rfl) rfl ?_
  refine p_iconst 1 dX12_oddsIn_0 ?_
  refine p_istore_n 2 dX12_oddsIn_1 rfl (Nat.le_of_ble_eq_true rfl) rfl rfl ?_
  dsimp only [List.set]
  refine p_iconst 3 dX12_oddsIn_2 ?_
  refine p_istore_n 4 dX12_oddsIn_3 rfl (Nat.le_of_ble_eq_true rfl) rfl rfl ?_
  dsimp only [List.set]
  exact l_oddsIn hW hE hR hS (q_n ρ 4) 0 (Nat.zero_add _)
