theorem q_un_bit {n S i : Nat} (hi : i < 31) : (q_un n S).testBit i = (decide (i < n) && !(S.testBit i)) := by
  unfold q_un
  have t2 : Nat.testBit 2147483647 i = true := by
    rw [show (2147483647 : Nat) = 2 ^ 31 - 1 from rfl, Nat.testBit_two_pow_sub_one]
    simp; omega
  rw [Nat.testBit_and, Nat.testBit_xor, t2, Nat.testBit_two_pow_sub_one]
  cases S.testBit i <;> simp
/-- a word may be said now -/
def q_say (ρ τ : Nat → Int) (w : Nat) : Bool := decide (τ 16 = 0) && !((τ 14).toNat.testBit w) && decide (q_ab (q_n ρ) w &&& (2147483647 ^^^ (τ 14).toNat) = 0)
def pa_word (h : Int) (ρ τ : Nat → Int) (w k : Int) : Int × Int := if h = 0 ∨ w < 0 ∨ ρ 4 ≤ w ∨ k < 0 ∨ 3 < k then (-1, 1) else if k = 0 then (ρ (38 + 3 * w.toNat), 0) else if k = 1 then (ρ (38 + 3 * w.toNat + 1), 0) else if k = 2 then ((if (τ 14).toNat.testBit w.toNat = true then 1 else 0), 0) else ((q_ab (q_n ρ) w.toNat : Int), 0)
def pa_next (h : Int) (ρ τ : Nat → Int) : Int × Int := if h = 0 then (-1, 1) else ((q_set (q_say ρ τ) (q_n ρ 4) : Int), 0)
theorem s_canSay_2 {l : Launch} {X : ZX} {M : ZM} {ρ : Nat → Int} {h : Int} (hW : zWc M) (hC : ICc ρ h 2 M) (hR : wfR ρ) (hco : M 0 5 = 2) {τ : Nat → Int} (hN : ICn τ h 49 M) (hT : wfT ρ τ) {w : Nat} (hw : (w : Int) < ρ 4) : zCi l X 3 yX11_canSay tX11_canSay [zr 0, zi (w : Int)] M (fun a M' => a = (if q_say ρ τ w = true then 1 else 0) ∧ M' = M) := by
  have e4 : ρ 4 = (q_n ρ 4 : Int) := hR.n (by decide)
  have b4 := hR.2.1.2.2.2.2.1
  have hsa : M 49 2 = τ 14 := hN.2.2.1
  have t160 := hT.1 16 (by decide)
  have s14 : τ 14 = ((τ 14).toNat : Int) := (Int.toNat_of_nonneg (hT.1 14 (by decide))).symm
  have s14b := hT.said hR
  have gab := q_ab_lt hR.ab (w := w) (by omega)
  obtain ⟨-, -, gb⟩ := hC.2.2.2.1 w hw
  have gb : M 18 w = (q_ab (q_n ρ) w : Int) := gb
  have hp7 : 2 ^ w ≤ 2 ^ 7 := Nat.pow_le_pow_right (by decide) (by omega)
  have hp1 : 0 < 2 ^ w := Nat.two_pow_pos w
  have hp0 : (0 : Int) < ((2 ^ w : Nat) : Int) := by omega
  have hun := q_un_lt (q_n ρ 4) (τ 14).toNat
  have hun2 : 2 ^ q_n ρ 4 ≤ 2 ^ 7 := Nat.pow_le_pow_right (by decide) (by omega)
  have hts : z_iand (if 0 < τ 16 then 0 else (q_un (q_n ρ 4) (τ 14).toNat : Int)) ((2 ^ w : Nat) : Int) = if τ 16 = 0 ∧ (τ 14).toNat.testBit w = false then ((2 ^ w : Nat) : Int) else 0 := by
    by_cases g : 0 < τ 16
    · rw [if_pos g, if_neg (by omega)]
      have h9 := z_and_bit 0 (i := w) (by omega) (by decide)
      rw [Nat.zero_testBit, if_neg (by decide)] at h9
      exact h9
    · rw [if_neg g, z_and_bit _ (by omega) (by omega), q_un_bit (by omega)]
      cases hb : (τ 14).toNat.testBit w
      · rw [if_pos (by simp; omega), if_pos ⟨by omega, rfl⟩]
      · rw [if_neg (by simp), if_neg (by rintro ⟨-, g2⟩; cases g2)]
  refine zC.of [some (zr 0), some (zi (w : Int))] (by decide +kernel) rfl rfl (Nat.le_of_ble_eq_true rfl) rfl ?_
  refine p_aload_n 1 dX11_canSay_0 rfl rfl (by decide) ?_
  refine p_callV0i 0 4 dX11_canSay_1 (s_toSay_2 hW hC hR hco hN hT) lk_X11_232 mX11_toSay rfl rfl (by decide) (Nat.le_of_ble_eq_true rfl) ?_
  rintro _ _ ⟨rfl, e9⟩
  have e9 := e9.symm
  subst e9
  refine p_iload_n 5 dX11_canSay_4 rfl rfl ?_
  refine p_callS1i 8 dX11_canSay_5 (s_bit (i := w) (by omega)) lk_X11_226 mX11_bit (by decide) (Nat.le_of_ble_eq_true rfl) ?_
  rintro _ _ ⟨rfl, e9⟩
  have e9 := e9.symm
  subst e9
  refine p_iand 9 dX11_canSay_8 ?_
  rw [hts]
  refine p_if_eq 41 12 dX11_canSay_9 (by split <;> omega) (by split <;> omega) (fun h9 => ?_) (fun h9 => ?_)
  · have g : ¬ (τ 16 = 0 ∧ (τ 14).toNat.testBit w = false) := by
      intro g
      rw [if_pos g] at h9
      omega
    refine p_iconst 42 dX11_canSay_41 ?_
    refine p_zret dX11_canSay_42 rfl (by decide) ?_
    refine ⟨_, rfl, ?_, rfl⟩
    unfold q_say
    first
      | (rw [if_neg]
         intro hq
         simp only [Bool.and_eq_true, decide_eq_true_eq, Bool.not_eq_true'] at hq
         first
           | exact g hq.1
           | (exact h34 (by rw [hq.2]; rfl)))
      | (rw [if_pos]
         rw [g.2, show decide (τ 16 = 0) = true from decide_eq_true g.1, show decide (q_ab (q_n ρ) w &&& (2147483647 ^^^ (τ 14).toNat) = 0) = true from decide_eq_true (by omega)]
         rfl)
  · have g : τ 16 = 0 ∧ (τ 14).toNat.testBit w = false := by
      by_cases g : τ 16 = 0 ∧ (τ 14).toNat.testBit w = false
      · exact g
      · rw [if_neg g] at h9; exact absurd rfl h9
    refine p_aload_n 13 dX11_canSay_12 rfl rfl (by decide) ?_
    refine p_getR 0 16 dX11_canSay_13 fX11_16 rfl hco ?_
    refine p_getR 2 19 dX11_canSay_16 fX11_211 rfl (hW (2, 5, 13) (by decide)) ?_
    refine p_getR 13 22 dX11_canSay_19 fX11_229 rfl (hW (13, 6, 18) (by decide)) ?_
    refine p_iload_n 23 dX11_canSay_22 rfl rfl ?_
    skip
    refine p_ialdn 18 24 (w) dX11_canSay_23 rfl (by omega) (by omega) ?_
    rw [gb]
    refine p_aload_n 25 dX11_canSay_24 rfl rfl (by decide) ?_
    refine p_getR 0 28 dX11_canSay_25 fX11_33 rfl (hW (0, 8, 49) (by decide)) ?_
    refine p_getI 49 31 dX11_canSay_28 fX11_223 rfl ?_
    rw [hsa, s14]
    refine p_iconst 32 dX11_canSay_31 ?_
    refine p_ixor 33 dX11_canSay_32 ?_
    refine p_iand 34 dX11_canSay_33 ?_
    rw [z_andn_n _ _ (by omega) (by omega)]
    refine p_if_ne 41 37 dX11_canSay_34 (by have := Nat.and_le_left (n := q_ab (q_n ρ) w) (m := 2147483647 ^^^ (τ 14).toNat); omega) (by have := Nat.and_le_left (n := q_ab (q_n ρ) w) (m := 2147483647 ^^^ (τ 14).toNat); omega) (fun h34 => ?_) (fun h34 => ?_)
    · refine p_iconst 42 dX11_canSay_41 ?_
      refine p_zret dX11_canSay_42 rfl (by decide) ?_
      refine ⟨_, rfl, ?_, rfl⟩
      unfold q_say
      first
        | (rw [if_neg]
           intro hq
           simp only [Bool.and_eq_true, decide_eq_true_eq, Bool.not_eq_true'] at hq
           first
             | exact g hq.1
             | (exact h34 (by rw [hq.2]; rfl)))
        | (rw [if_pos]
           rw [g.2, show decide (τ 16 = 0) = true from decide_eq_true g.1, show decide (q_ab (q_n ρ) w &&& (2147483647 ^^^ (τ 14).toNat) = 0) = true from decide_eq_true (by omega)]
           rfl)
    · refine p_iconst 38 dX11_canSay_37 ?_
      refine p_goto 42 dX11_canSay_38 ?_
      refine p_zret dX11_canSay_42 rfl (by decide) ?_
      refine ⟨_, rfl, ?_, rfl⟩
      unfold q_say
      first
        | (rw [if_neg]
           intro hq
           simp only [Bool.and_eq_true, decide_eq_true_eq, Bool.not_eq_true'] at hq
           first
             | exact g hq.1
             | (exact h34 (by rw [hq.2]; rfl)))
        | (rw [if_pos]
           rw [g.2, show decide (τ 16 = 0) = true from decide_eq_true g.1, show decide (q_ab (q_n ρ) w &&& (2147483647 ^^^ (τ 14).toNat) = 0) = true from decide_eq_true (by omega)]
           rfl)
theorem s_canSay_25 {l : Launch} {X : ZX} {M : ZM} {ρ : Nat → Int} {h : Int} (hW : zWc M) (hC : ICc ρ h 25 M) (hR : wfR ρ) (hco : M 0 5 = 25) {τ : Nat → Int} (hN : ICn τ h 49 M) (hT : wfT ρ τ) {w : Nat} (hw : (w : Int) < ρ 4) : zCi l X 3 yX11_canSay tX11_canSay [zr 0, zi (w : Int)] M (fun a M' => a = (if q_say ρ τ w = true then 1 else 0) ∧ M' = M) := by
  have e4 : ρ 4 = (q_n ρ 4 : Int) := hR.n (by decide)
  have b4 := hR.2.1.2.2.2.2.1
  have hsa : M 49 2 = τ 14 := hN.2.2.1
  have t160 := hT.1 16 (by decide)
  have s14 : τ 14 = ((τ 14).toNat : Int) := (Int.toNat_of_nonneg (hT.1 14 (by decide))).symm
  have s14b := hT.said hR
  have gab := q_ab_lt hR.ab (w := w) (by omega)
  obtain ⟨-, -, gb⟩ := hC.2.2.2.1 w hw
  have gb : M 41 w = (q_ab (q_n ρ) w : Int) := gb
  have hp7 : 2 ^ w ≤ 2 ^ 7 := Nat.pow_le_pow_right (by decide) (by omega)
  have hp1 : 0 < 2 ^ w := Nat.two_pow_pos w
  have hp0 : (0 : Int) < ((2 ^ w : Nat) : Int) := by omega
  have hun := q_un_lt (q_n ρ 4) (τ 14).toNat
  have hun2 : 2 ^ q_n ρ 4 ≤ 2 ^ 7 := Nat.pow_le_pow_right (by decide) (by omega)
  have hts : z_iand (if 0 < τ 16 then 0 else (q_un (q_n ρ 4) (τ 14).toNat : Int)) ((2 ^ w : Nat) : Int) = if τ 16 = 0 ∧ (τ 14).toNat.testBit w = false then ((2 ^ w : Nat) : Int) else 0 := by
    by_cases g : 0 < τ 16
    · rw [if_pos g, if_neg (by omega)]
      have h9 := z_and_bit 0 (i := w) (by omega) (by decide)
      rw [Nat.zero_testBit, if_neg (by decide)] at h9
      exact h9
    · rw [if_neg g, z_and_bit _ (by omega) (by omega), q_un_bit (by omega)]
      cases hb : (τ 14).toNat.testBit w
      · rw [if_pos (by simp; omega), if_pos ⟨by omega, rfl⟩]
      · rw [if_neg (by simp), if_neg (by rintro ⟨-, g2⟩; cases g2)]
  refine zC.of [some (zr 0), some (zi (w : Int))] (by decide +kernel) rfl rfl (Nat.le_of_ble_eq_true rfl) rfl ?_
  refine p_aload_n 1 dX11_canSay_0 rfl rfl (by decide) ?_
  refine p_callV0i 0 4 dX11_canSay_1 (s_toSay_25 hW hC hR hco hN hT) lk_X11_232 mX11_toSay rfl rfl (by decide) (Nat.le_of_ble_eq_true rfl) ?_
  rintro _ _ ⟨rfl, e9⟩
  have e9 := e9.symm
  subst e9
  refine p_iload_n 5 dX11_canSay_4 rfl rfl ?_
  refine p_callS1i 8 dX11_canSay_5 (s_bit (i := w) (by omega)) lk_X11_226 mX11_bit (by decide) (Nat.le_of_ble_eq_true rfl) ?_
  rintro _ _ ⟨rfl, e9⟩
  have e9 := e9.symm
  subst e9
  refine p_iand 9 dX11_canSay_8 ?_
  rw [hts]
  refine p_if_eq 41 12 dX11_canSay_9 (by split <;> omega) (by split <;> omega) (fun h9 => ?_) (fun h9 => ?_)
  · have g : ¬ (τ 16 = 0 ∧ (τ 14).toNat.testBit w = false) := by
      intro g
      rw [if_pos g] at h9
      omega
    refine p_iconst 42 dX11_canSay_41 ?_
    refine p_zret dX11_canSay_42 rfl (by decide) ?_
    refine ⟨_, rfl, ?_, rfl⟩
    unfold q_say
    first
      | (rw [if_neg]
         intro hq
         simp only [Bool.and_eq_true, decide_eq_true_eq, Bool.not_eq_true'] at hq
         first
           | exact g hq.1
           | (exact h34 (by rw [hq.2]; rfl)))
      | (rw [if_pos]
         rw [g.2, show decide (τ 16 = 0) = true from decide_eq_true g.1, show decide (q_ab (q_n ρ) w &&& (2147483647 ^^^ (τ 14).toNat) = 0) = true from decide_eq_true (by omega)]
         rfl)
  · have g : τ 16 = 0 ∧ (τ 14).toNat.testBit w = false := by
      by_cases g : τ 16 = 0 ∧ (τ 14).toNat.testBit w = false
      · exact g
      · rw [if_neg g] at h9; exact absurd rfl h9
    refine p_aload_n 13 dX11_canSay_12 rfl rfl (by decide) ?_
    refine p_getR 0 16 dX11_canSay_13 fX11_16 rfl hco ?_
    refine p_getR 25 19 dX11_canSay_16 fX11_211 rfl (hW (25, 5, 36) (by decide)) ?_
    refine p_getR 36 22 dX11_canSay_19 fX11_229 rfl (hW (36, 6, 41) (by decide)) ?_
    refine p_iload_n 23 dX11_canSay_22 rfl rfl ?_
    skip
    refine p_ialdn 41 24 (w) dX11_canSay_23 rfl (by omega) (by omega) ?_
    rw [gb]
    refine p_aload_n 25 dX11_canSay_24 rfl rfl (by decide) ?_
    refine p_getR 0 28 dX11_canSay_25 fX11_33 rfl (hW (0, 8, 49) (by decide)) ?_
    refine p_getI 49 31 dX11_canSay_28 fX11_223 rfl ?_
    rw [hsa, s14]
    refine p_iconst 32 dX11_canSay_31 ?_
    refine p_ixor 33 dX11_canSay_32 ?_
    refine p_iand 34 dX11_canSay_33 ?_
    rw [z_andn_n _ _ (by omega) (by omega)]
    refine p_if_ne 41 37 dX11_canSay_34 (by have := Nat.and_le_left (n := q_ab (q_n ρ) w) (m := 2147483647 ^^^ (τ 14).toNat); omega) (by have := Nat.and_le_left (n := q_ab (q_n ρ) w) (m := 2147483647 ^^^ (τ 14).toNat); omega) (fun h34 => ?_) (fun h34 => ?_)
    · refine p_iconst 42 dX11_canSay_41 ?_
      refine p_zret dX11_canSay_42 rfl (by decide) ?_
      refine ⟨_, rfl, ?_, rfl⟩
      unfold q_say
      first
        | (rw [if_neg]
           intro hq
           simp only [Bool.and_eq_true, decide_eq_true_eq, Bool.not_eq_true'] at hq
           first
             | exact g hq.1
             | (exact h34 (by rw [hq.2]; rfl)))
        | (rw [if_pos]
           rw [g.2, show decide (τ 16 = 0) = true from decide_eq_true g.1, show decide (q_ab (q_n ρ) w &&& (2147483647 ^^^ (τ 14).toNat) = 0) = true from decide_eq_true (by omega)]
           rfl)
    · refine p_iconst 38 dX11_canSay_37 ?_
      refine p_goto 42 dX11_canSay_38 ?_
      refine p_zret dX11_canSay_42 rfl (by decide) ?_
      refine ⟨_, rfl, ?_, rfl⟩
      unfold q_say
      first
        | (rw [if_neg]
           intro hq
           simp only [Bool.and_eq_true, decide_eq_true_eq, Bool.not_eq_true'] at hq
           first
             | exact g hq.1
             | (exact h34 (by rw [hq.2]; rfl)))
        | (rw [if_pos]
           rw [g.2, show decide (τ 16 = 0) = true from decide_eq_true g.1, show decide (q_ab (q_n ρ) w &&& (2147483647 ^^^ (τ 14).toNat) = 0) = true from decide_eq_true (by omega)]
           rfl)
theorem s_canSay {l : Launch} {X : ZX} {M : ZM} {ρ : Nat → Int} (hW : zWm M) (hE : ∀ i, i < 421 → M 127 i = ρ i) (hR : wfR ρ) {τ : Nat → Int} (hU : ∀ i, i < 18 → M 129 i = τ i) (hT : wfT ρ τ) {w : Nat} (hw : w < 7) : zCi l X 2 yX12_canSay tX12_canSay [zr 124, zi (w : Int)] M (fun a M' => a = (if q_say ρ τ w = true then 1 else 0) ∧ M' = M) := by
  have t160 := hT.1 16 (by decide)
  have t161 := hT.2.2.2.2.1
  have s14 : τ 14 = ((τ 14).toNat : Int) := (Int.toNat_of_nonneg (hT.1 14 (by decide))).symm
  have s14b := hT.said hR
  have gab := q_ab_lt hR.ab (w := w) hw
  refine zC.of [some (zr 124), some (zi (w : Int))] (by decide +kernel) rfl rfl (Nat.le_of_ble_eq_true rfl) rfl ?_
  refine p_aload_n 1 dX12_canSay_0 rfl rfl (by decide) ?_
  refine p_getR 124 4 dX12_canSay_1 fX12_26 rfl (hW (124, 17, 129) (by decide)) ?_
  refine p_bipush 6 dX12_canSay_4 rfl ?_
  refine p_iald 129 7 dX12_canSay_6 rfl (by omega) (by omega) ?_
  try simp only [Int.toNat_natCast, Int.reduceToNat]
  rw [hU 16 (by decide)]
  refine p_if_ne 49 10 dX12_canSay_7 (by omega) (by omega) (fun h7 => ?_) (fun h7 => ?_)
  · refine p_iconst 50 dX12_canSay_49 ?_
    refine p_zret dX12_canSay_50 rfl (by decide) ?_
    refine ⟨_, rfl, ?_, rfl⟩
    unfold q_say
    first
      | (rw [if_neg]
         intro hq
         simp only [Bool.and_eq_true, decide_eq_true_eq, Bool.not_eq_true'] at hq
         first
           | omega
           | (rw [hq.1.2] at h21; exact absurd h21 (by decide))
           | (exact h42 (by rw [hq.2]; rfl)))
      | (rw [if_pos]
         have g2 : (τ 14).toNat.testBit w = false := by
           cases hb : (τ 14).toNat.testBit w
           · rfl
           · exact absurd hb h21
         rw [g2, show decide (τ 16 = 0) = true from decide_eq_true (by omega), show decide (q_ab (q_n ρ) w &&& (2147483647 ^^^ (τ 14).toNat) = 0) = true from decide_eq_true (by omega)]
         rfl)
  · refine p_aload_n 11 dX12_canSay_10 rfl rfl (by decide) ?_
    refine p_getR 124 14 dX12_canSay_11 fX12_26 rfl (hW (124, 17, 129) (by decide)) ?_
    refine p_bipush 16 dX12_canSay_14 rfl ?_
    refine p_iald 129 17 dX12_canSay_16 rfl (by omega) (by omega) ?_
    try simp only [Int.toNat_natCast, Int.reduceToNat]
    rw [hU 14 (by decide), s14]
    refine p_iload_n 18 dX12_canSay_17 rfl rfl ?_
    refine p_callS2i 21 dX12_canSay_18 (s_hasBit (S := (τ 14).toNat) (k := w) (by omega) (by omega)) lk_X12_241 mX12_hasBit (by decide) (Nat.le_of_ble_eq_true rfl) ?_
    rintro _ _ ⟨rfl, e9⟩
    have e9 := e9.symm
    subst e9
    refine p_if_ne 49 24 dX12_canSay_21 (by split <;> omega) (by split <;> omega) (fun h21 => ?_) (fun h21 => ?_)
    · have h21 := if_ne0 h21
      refine p_iconst 50 dX12_canSay_49 ?_
      refine p_zret dX12_canSay_50 rfl (by decide) ?_
      refine ⟨_, rfl, ?_, rfl⟩
      unfold q_say
      first
        | (rw [if_neg]
           intro hq
           simp only [Bool.and_eq_true, decide_eq_true_eq, Bool.not_eq_true'] at hq
           first
             | omega
             | (rw [hq.1.2] at h21; exact absurd h21 (by decide))
             | (exact h42 (by rw [hq.2]; rfl)))
        | (rw [if_pos]
           have g2 : (τ 14).toNat.testBit w = false := by
             cases hb : (τ 14).toNat.testBit w
             · rfl
             · exact absurd hb h21
           rw [g2, show decide (τ 16 = 0) = true from decide_eq_true (by omega), show decide (q_ab (q_n ρ) w &&& (2147483647 ^^^ (τ 14).toNat) = 0) = true from decide_eq_true (by omega)]
           rfl)
    · have h21 := if_nne0 h21
      refine p_aload_n 25 dX12_canSay_24 rfl rfl (by decide) ?_
      refine p_getR 124 28 dX12_canSay_25 fX12_20 rfl (hW (124, 15, 127) (by decide)) ?_
      refine p_iload_n 29 dX12_canSay_28 rfl rfl ?_
      refine p_callS2i 32 dX12_canSay_29 (s_allBefore_127 hE hR.ab hR.1 hw) lk_X12_248 mX12_allBefore (by decide) (Nat.le_of_ble_eq_true rfl) ?_
      rintro _ _ ⟨rfl, e9⟩
      have e9 := e9.symm
      subst e9
      refine p_aload_n 33 dX12_canSay_32 rfl rfl (by decide) ?_
      refine p_getR 124 36 dX12_canSay_33 fX12_26 rfl (hW (124, 17, 129) (by decide)) ?_
      refine p_bipush 38 dX12_canSay_36 rfl ?_
      refine p_iald 129 39 dX12_canSay_38 rfl (by omega) (by omega) ?_
      try simp only [Int.toNat_natCast, Int.reduceToNat]
      rw [hU 14 (by decide), s14]
      refine p_iconst 40 dX12_canSay_39 ?_
      refine p_ixor 41 dX12_canSay_40 ?_
      refine p_iand 42 dX12_canSay_41 ?_
      rw [z_andn_n _ _ (by omega) (by omega)]
      refine p_if_ne 49 45 dX12_canSay_42 (by have := Nat.and_le_left (n := q_ab (q_n ρ) w) (m := 2147483647 ^^^ (τ 14).toNat); omega) (by have := Nat.and_le_left (n := q_ab (q_n ρ) w) (m := 2147483647 ^^^ (τ 14).toNat); omega) (fun h42 => ?_) (fun h42 => ?_)
      · refine p_iconst 50 dX12_canSay_49 ?_
        refine p_zret dX12_canSay_50 rfl (by decide) ?_
        refine ⟨_, rfl, ?_, rfl⟩
        unfold q_say
        first
          | (rw [if_neg]
             intro hq
             simp only [Bool.and_eq_true, decide_eq_true_eq, Bool.not_eq_true'] at hq
             first
               | omega
               | (rw [hq.1.2] at h21; exact absurd h21 (by decide))
               | (exact h42 (by rw [hq.2]; rfl)))
          | (rw [if_pos]
             have g2 : (τ 14).toNat.testBit w = false := by
               cases hb : (τ 14).toNat.testBit w
               · rfl
               · exact absurd hb h21
             rw [g2, show decide (τ 16 = 0) = true from decide_eq_true (by omega), show decide (q_ab (q_n ρ) w &&& (2147483647 ^^^ (τ 14).toNat) = 0) = true from decide_eq_true (by omega)]
             rfl)
      · refine p_iconst 46 dX12_canSay_45 ?_
        refine p_goto 50 dX12_canSay_46 ?_
        refine p_zret dX12_canSay_50 rfl (by decide) ?_
        refine ⟨_, rfl, ?_, rfl⟩
        unfold q_say
        first
          | (rw [if_neg]
             intro hq
             simp only [Bool.and_eq_true, decide_eq_true_eq, Bool.not_eq_true'] at hq
             first
               | omega
               | (rw [hq.1.2] at h21; exact absurd h21 (by decide))
               | (exact h42 (by rw [hq.2]; rfl)))
          | (rw [if_pos]
             have g2 : (τ 14).toNat.testBit w = false := by
               cases hb : (τ 14).toNat.testBit w
               · rfl
               · exact absurd hb h21
             rw [g2, show decide (τ 16 = 0) = true from decide_eq_true (by omega), show decide (q_ab (q_n ρ) w &&& (2147483647 ^^^ (τ 14).toNat) = 0) = true from decide_eq_true (by omega)]
             rfl)
theorem c_word {l : Launch} {X : ZX} {M : ZM} (hI : IC M M) (hF : WF M) {s w : Int} (hs1 : -2147483648 ≤ s) (hs2 : s < 2147483648) (hw1 : -2147483648 ≤ w) (hw2 : w < 2147483648) : zCi l X 2 yX11_word tX11_word [zr 0, zi s, zi w] M (CQ M (pa_word (M 124 14) (M 127) (M 129) s w)) := by
  obtain ⟨hW, ⟨c, c', hcc, hco, hsp, hC⟩, ⟨j1, j2, j3, j4, j5⟩, hN, hpast, hten, ⟨hz0, hsea⟩, hfit⟩ := id hI
  have hR := hF.r
  have hT := hF.t
  have hh := hF.h
  have e0 : M 127 0 = (q_n (M 127) 0 : Int) := hR.n (by decide)
  have e2 : M 127 2 = (q_n (M 127) 2 : Int) := hR.n (by decide)
  have e3 : M 127 3 = (q_n (M 127) 3 : Int) := hR.n (by decide)
  have e4 : M 127 4 = (q_n (M 127) 4 : Int) := hR.n (by decide)
  have bR := hR.2.1
  have h20 : M 124 14 = 0 → M 127 2 = 0 := fun h => hF.r0 h 2 (by decide)
  have h30 : M 124 14 = 0 → M 127 3 = 0 := fun h => hF.r0 h 3 (by decide)
  have h40 : M 124 14 = 0 → M 127 4 = 0 := fun h => hF.r0 h 4 (by decide)
  have hwo : M 49 3 = M 129 16 := hN.2.2.2.1
  have t160 := hT.1 16 (by decide)
  have t161 := hT.2.2.2.2.1
  refine zC.of [some (zr 0), some (zi s), some (zi w)] (by decide +kernel) rfl rfl (Nat.le_of_ble_eq_true rfl) rfl ?_
  rcases hcc with ⟨rfl, rfl⟩ | ⟨rfl, rfl⟩
  · have hto : M 2 0 = M 124 14 := hC.1.1
    have hla : M 2 1 = M 127 0 := hC.1.2.1
    have hsn : M 2 2 = M 127 1 := hC.1.2.2.1
    have hcs : M 3 0 = M 127 2 := hC.1.2.2.2.1
    have hca : M 8 0 = M 127 3 := hC.1.2.2.2.2.1
    have hcw : M 13 0 = M 127 4 := hC.1.2.2.2.2.2.1
    have hcb : M 13 1 = M 127 5 := hC.1.2.2.2.2.2.2.1
    have hcor : M 19 0 = M 127 6 := hC.1.2.2.2.2.2.2.2.1
    have hcn : M 19 4 = M 127 7 := hC.1.2.2.2.2.2.2.2.2
    refine p_aload_n 1 dX11_word_0 rfl rfl (by decide) ?_
    refine p_iload_n 2 dX11_word_1 rfl rfl ?_
    refine p_callV1i 0 5 dX11_word_2 (s_isWord_2 hW hC hR hco (by omega) (by omega)) lk_X11_208 mX11_isWord rfl rfl (by decide) (Nat.le_of_ble_eq_true rfl) ?_
    rintro _ _ ⟨rfl, e9⟩
    have e9 := e9.symm
    subst e9
    refine p_if_ne 14 8 dX11_word_5 (by split <;> omega) (by split <;> omega) (fun h5 => ?_) (fun h5 => ?_)
    · have h5 := if_ne0 h5
      obtain ⟨n, rfl⟩ : ∃ k : Nat, s = (k : Int) := ⟨s.toNat, by omega⟩
      obtain ⟨g1, g2, g3⟩ := hC.2.2.2.1 n (by omega)
      have g1 : M 15 n = _ := g1
      have g2 : M 16 n = _ := g2
      have g3 : M 18 n = _ := g3
      have s14 : M 129 14 = ((M 129 14).toNat : Int) := (Int.toNat_of_nonneg (hT.1 14 (by decide))).symm
      have s14b := hT.said hR
      have hp7 : 2 ^ n ≤ 2 ^ 7 := Nat.pow_le_pow_right (by decide) (by omega)
      have hp1 : 0 < 2 ^ n := Nat.two_pow_pos n
      have hp0 : (0 : Int) < ((2 ^ n : Nat) : Int) := by omega
      refine p_iload_n 15 dX11_word_14 rfl rfl ?_
      have hsw15 : w = 0 ∨ w = 1 ∨ w = 2 ∨ w = 3 ∨ (w < 0 ∨ 3 < w) := by omega
      rcases hsw15 with hs15 | hs15 | hs15 | hs15 | hs15
      · refine p_tabJ (off := 29) 0 44 dX11_word_15 hs15 (by decide) (by decide) (by decide) ?_
        refine p_aload_n 45 dX11_word_44 rfl rfl (by decide) ?_
        refine p_aload_n 46 dX11_word_45 rfl rfl (by decide) ?_
        refine p_getR 0 49 dX11_word_46 fX11_16 rfl hco ?_
        refine p_getR 2 52 dX11_word_49 fX11_211 rfl (hW (2, 5, 13) (by decide)) ?_
        refine p_getR 13 55 dX11_word_52 fX11_215 rfl (hW (13, 3, 15) (by decide)) ?_
        refine p_iload_n 56 dX11_word_55 rfl rfl ?_
        refine p_ialdn 15 57 (n) dX11_word_56 rfl (by omega) (by omega) ?_
        refine p_callV1i 0 60 dX11_word_57 s_grant lk_X11_108 mX11_grant rfl rfl (by decide) (Nat.le_of_ble_eq_true rfl) ?_
        rintro _ _ ⟨rfl, rfl⟩
        refine p_iret dX11_word_60 rfl ?_
        exact ⟨_, rfl, CQ.of hI hF (fun k _ => rfl) (by unfold pa_word; (repeat' split) <;> first | rfl | (exfalso; omega) | exact g1 | exact g2 | exact g3 | (rename_i hx; exact absurd hx h91) | (rename_i hx; exact absurd h91 hx)) (by unfold pa_word; (repeat' split) <;> first | rfl | (exfalso; omega)) (by decide)⟩
      · refine p_tabJ (off := 46) 1 61 dX11_word_15 hs15 (by decide) (by decide) (by decide) ?_
        refine p_aload_n 62 dX11_word_61 rfl rfl (by decide) ?_
        refine p_aload_n 63 dX11_word_62 rfl rfl (by decide) ?_
        refine p_getR 0 66 dX11_word_63 fX11_16 rfl hco ?_
        refine p_getR 2 69 dX11_word_66 fX11_211 rfl (hW (2, 5, 13) (by decide)) ?_
        refine p_getR 13 72 dX11_word_69 fX11_220 rfl (hW (13, 4, 16) (by decide)) ?_
        refine p_iload_n 73 dX11_word_72 rfl rfl ?_
        refine p_ialdn 16 74 (n) dX11_word_73 rfl (by omega) (by omega) ?_
        refine p_callV1i 0 77 dX11_word_74 s_grant lk_X11_108 mX11_grant rfl rfl (by decide) (Nat.le_of_ble_eq_true rfl) ?_
        rintro _ _ ⟨rfl, rfl⟩
        refine p_iret dX11_word_77 rfl ?_
        exact ⟨_, rfl, CQ.of hI hF (fun k _ => rfl) (by unfold pa_word; (repeat' split) <;> first | rfl | (exfalso; omega) | exact g1 | exact g2 | exact g3 | (rename_i hx; exact absurd hx h91) | (rename_i hx; exact absurd h91 hx)) (by unfold pa_word; (repeat' split) <;> first | rfl | (exfalso; omega)) (by decide)⟩
      · refine p_tabJ (off := 63) 2 78 dX11_word_15 hs15 (by decide) (by decide) (by decide) ?_
        refine p_aload_n 79 dX11_word_78 rfl rfl (by decide) ?_
        refine p_aload_n 80 dX11_word_79 rfl rfl (by decide) ?_
        refine p_getR 0 83 dX11_word_80 fX11_33 rfl (hW (0, 8, 49) (by decide)) ?_
        refine p_getI 49 86 dX11_word_83 fX11_223 rfl ?_
        rw [show M 49 2 = M 129 14 from hN.2.2.1, s14]
        refine p_iload_n 87 dX11_word_86 rfl rfl ?_
        refine p_callS1i 90 dX11_word_87 (s_bit (i := n) (by omega)) lk_X11_226 mX11_bit (by decide) (Nat.le_of_ble_eq_true rfl) ?_
        rintro _ _ ⟨rfl, e9⟩
        have e9 := e9.symm
        subst e9
        refine p_iand 91 dX11_word_90 ?_
        rw [z_and_bit _ (by omega) (by omega)]
        refine p_if_eq 98 94 dX11_word_91 (by split <;> omega) (by split <;> omega) (fun h91 => ?_) (fun h91 => ?_)
        · have h91 : ¬ (M 129 14).toNat.testBit n = true := by
            intro hb
            rw [if_pos hb] at h91
            omega
          refine p_iconst 99 dX11_word_98 ?_
          refine p_callV1i 0 102 dX11_word_99 s_grant lk_X11_108 mX11_grant rfl rfl (by decide) (Nat.le_of_ble_eq_true rfl) ?_
          rintro _ _ ⟨rfl, rfl⟩
          refine p_iret dX11_word_102 rfl ?_
          exact ⟨_, rfl, CQ.of hI hF (fun k _ => rfl) (by unfold pa_word; (repeat' split) <;> first | rfl | (exfalso; omega) | exact g1 | exact g2 | exact g3 | (rename_i hx; exact absurd hx h91) | (rename_i hx; exact absurd h91 hx)) (by unfold pa_word; (repeat' split) <;> first | rfl | (exfalso; omega)) (by decide)⟩
        · have h91 : (M 129 14).toNat.testBit n = true := by
            cases hb : (M 129 14).toNat.testBit n
            · rw [hb, if_neg (by decide)] at h91; exact absurd rfl h91
            · rfl
          refine p_iconst 95 dX11_word_94 ?_
          refine p_goto 99 dX11_word_95 ?_
          refine p_callV1i 0 102 dX11_word_99 s_grant lk_X11_108 mX11_grant rfl rfl (by decide) (Nat.le_of_ble_eq_true rfl) ?_
          rintro _ _ ⟨rfl, rfl⟩
          refine p_iret dX11_word_102 rfl ?_
          exact ⟨_, rfl, CQ.of hI hF (fun k _ => rfl) (by unfold pa_word; (repeat' split) <;> first | rfl | (exfalso; omega) | exact g1 | exact g2 | exact g3 | (rename_i hx; exact absurd hx h91) | (rename_i hx; exact absurd h91 hx)) (by unfold pa_word; (repeat' split) <;> first | rfl | (exfalso; omega)) (by decide)⟩
      · refine p_tabJ (off := 88) 3 103 dX11_word_15 hs15 (by decide) (by decide) (by decide) ?_
        refine p_aload_n 104 dX11_word_103 rfl rfl (by decide) ?_
        refine p_aload_n 105 dX11_word_104 rfl rfl (by decide) ?_
        refine p_getR 0 108 dX11_word_105 fX11_16 rfl hco ?_
        refine p_getR 2 111 dX11_word_108 fX11_211 rfl (hW (2, 5, 13) (by decide)) ?_
        refine p_getR 13 114 dX11_word_111 fX11_229 rfl (hW (13, 6, 18) (by decide)) ?_
        refine p_iload_n 115 dX11_word_114 rfl rfl ?_
        refine p_ialdn 18 116 (n) dX11_word_115 rfl (by omega) (by omega) ?_
        refine p_callV1i 0 119 dX11_word_116 s_grant lk_X11_108 mX11_grant rfl rfl (by decide) (Nat.le_of_ble_eq_true rfl) ?_
        rintro _ _ ⟨rfl, rfl⟩
        refine p_iret dX11_word_119 rfl ?_
        exact ⟨_, rfl, CQ.of hI hF (fun k _ => rfl) (by unfold pa_word; (repeat' split) <;> first | rfl | (exfalso; omega) | exact g1 | exact g2 | exact g3 | (rename_i hx; exact absurd hx h91) | (rename_i hx; exact absurd h91 hx)) (by unfold pa_word; (repeat' split) <;> first | rfl | (exfalso; omega)) (by decide)⟩
      · refine p_tabD 120 dX11_word_15 (by omega) (by omega) hs15 ?_
        refine p_aload_n 121 dX11_word_120 rfl rfl (by decide) ?_
        refine p_iconst 122 dX11_word_121 ?_
        refine p_callV1i 0 125 dX11_word_122 s_refuse lk_X11_73 mX11_refuse rfl rfl (by decide) (Nat.le_of_ble_eq_true rfl) ?_
        rintro _ _ ⟨rfl, rfl⟩
        refine p_iret dX11_word_125 rfl ?_
        exact ⟨_, rfl, CQ.of hI hF (fun k _ => rfl) (by unfold pa_word; (repeat' split) <;> first | rfl | (exfalso; omega) | exact g1 | exact g2 | exact g3 | (rename_i hx; exact absurd hx h91) | (rename_i hx; exact absurd h91 hx)) (by unfold pa_word; (repeat' split) <;> first | rfl | (exfalso; omega)) (by decide)⟩
    · refine p_aload_n 9 dX11_word_8 rfl rfl (by decide) ?_
      refine p_iconst 10 dX11_word_9 ?_
      refine p_callV1i 0 13 dX11_word_10 s_refuse lk_X11_73 mX11_refuse rfl rfl (by decide) (Nat.le_of_ble_eq_true rfl) ?_
      rintro _ _ ⟨rfl, rfl⟩
      refine p_iret dX11_word_13 rfl ?_
      have h5 := if_nne0 h5
      exact ⟨_, rfl, CQ.of hI hF (fun k _ => rfl) (by unfold pa_word; (repeat' split) <;> first | rfl | (exfalso; omega)) (by unfold pa_word; (repeat' split) <;> first | rfl | (exfalso; omega)) (by decide)⟩
  · have hto : M 25 0 = M 124 14 := hC.1.1
    have hla : M 25 1 = M 127 0 := hC.1.2.1
    have hsn : M 25 2 = M 127 1 := hC.1.2.2.1
    have hcs : M 26 0 = M 127 2 := hC.1.2.2.2.1
    have hca : M 31 0 = M 127 3 := hC.1.2.2.2.2.1
    have hcw : M 36 0 = M 127 4 := hC.1.2.2.2.2.2.1
    have hcb : M 36 1 = M 127 5 := hC.1.2.2.2.2.2.2.1
    have hcor : M 42 0 = M 127 6 := hC.1.2.2.2.2.2.2.2.1
    have hcn : M 42 4 = M 127 7 := hC.1.2.2.2.2.2.2.2.2
    refine p_aload_n 1 dX11_word_0 rfl rfl (by decide) ?_
    refine p_iload_n 2 dX11_word_1 rfl rfl ?_
    refine p_callV1i 0 5 dX11_word_2 (s_isWord_25 hW hC hR hco (by omega) (by omega)) lk_X11_208 mX11_isWord rfl rfl (by decide) (Nat.le_of_ble_eq_true rfl) ?_
    rintro _ _ ⟨rfl, e9⟩
    have e9 := e9.symm
    subst e9
    refine p_if_ne 14 8 dX11_word_5 (by split <;> omega) (by split <;> omega) (fun h5 => ?_) (fun h5 => ?_)
    · have h5 := if_ne0 h5
      obtain ⟨n, rfl⟩ : ∃ k : Nat, s = (k : Int) := ⟨s.toNat, by omega⟩
      obtain ⟨g1, g2, g3⟩ := hC.2.2.2.1 n (by omega)
      have g1 : M 38 n = _ := g1
      have g2 : M 39 n = _ := g2
      have g3 : M 41 n = _ := g3
      have s14 : M 129 14 = ((M 129 14).toNat : Int) := (Int.toNat_of_nonneg (hT.1 14 (by decide))).symm
      have s14b := hT.said hR
      have hp7 : 2 ^ n ≤ 2 ^ 7 := Nat.pow_le_pow_right (by decide) (by omega)
      have hp1 : 0 < 2 ^ n := Nat.two_pow_pos n
      have hp0 : (0 : Int) < ((2 ^ n : Nat) : Int) := by omega
      refine p_iload_n 15 dX11_word_14 rfl rfl ?_
      have hsw15 : w = 0 ∨ w = 1 ∨ w = 2 ∨ w = 3 ∨ (w < 0 ∨ 3 < w) := by omega
      rcases hsw15 with hs15 | hs15 | hs15 | hs15 | hs15
      · refine p_tabJ (off := 29) 0 44 dX11_word_15 hs15 (by decide) (by decide) (by decide) ?_
        refine p_aload_n 45 dX11_word_44 rfl rfl (by decide) ?_
        refine p_aload_n 46 dX11_word_45 rfl rfl (by decide) ?_
        refine p_getR 0 49 dX11_word_46 fX11_16 rfl hco ?_
        refine p_getR 25 52 dX11_word_49 fX11_211 rfl (hW (25, 5, 36) (by decide)) ?_
        refine p_getR 36 55 dX11_word_52 fX11_215 rfl (hW (36, 3, 38) (by decide)) ?_
        refine p_iload_n 56 dX11_word_55 rfl rfl ?_
        refine p_ialdn 38 57 (n) dX11_word_56 rfl (by omega) (by omega) ?_
        refine p_callV1i 0 60 dX11_word_57 s_grant lk_X11_108 mX11_grant rfl rfl (by decide) (Nat.le_of_ble_eq_true rfl) ?_
        rintro _ _ ⟨rfl, rfl⟩
        refine p_iret dX11_word_60 rfl ?_
        exact ⟨_, rfl, CQ.of hI hF (fun k _ => rfl) (by unfold pa_word; (repeat' split) <;> first | rfl | (exfalso; omega) | exact g1 | exact g2 | exact g3 | (rename_i hx; exact absurd hx h91) | (rename_i hx; exact absurd h91 hx)) (by unfold pa_word; (repeat' split) <;> first | rfl | (exfalso; omega)) (by decide)⟩
      · refine p_tabJ (off := 46) 1 61 dX11_word_15 hs15 (by decide) (by decide) (by decide) ?_
        refine p_aload_n 62 dX11_word_61 rfl rfl (by decide) ?_
        refine p_aload_n 63 dX11_word_62 rfl rfl (by decide) ?_
        refine p_getR 0 66 dX11_word_63 fX11_16 rfl hco ?_
        refine p_getR 25 69 dX11_word_66 fX11_211 rfl (hW (25, 5, 36) (by decide)) ?_
        refine p_getR 36 72 dX11_word_69 fX11_220 rfl (hW (36, 4, 39) (by decide)) ?_
        refine p_iload_n 73 dX11_word_72 rfl rfl ?_
        refine p_ialdn 39 74 (n) dX11_word_73 rfl (by omega) (by omega) ?_
        refine p_callV1i 0 77 dX11_word_74 s_grant lk_X11_108 mX11_grant rfl rfl (by decide) (Nat.le_of_ble_eq_true rfl) ?_
        rintro _ _ ⟨rfl, rfl⟩
        refine p_iret dX11_word_77 rfl ?_
        exact ⟨_, rfl, CQ.of hI hF (fun k _ => rfl) (by unfold pa_word; (repeat' split) <;> first | rfl | (exfalso; omega) | exact g1 | exact g2 | exact g3 | (rename_i hx; exact absurd hx h91) | (rename_i hx; exact absurd h91 hx)) (by unfold pa_word; (repeat' split) <;> first | rfl | (exfalso; omega)) (by decide)⟩
      · refine p_tabJ (off := 63) 2 78 dX11_word_15 hs15 (by decide) (by decide) (by decide) ?_
        refine p_aload_n 79 dX11_word_78 rfl rfl (by decide) ?_
        refine p_aload_n 80 dX11_word_79 rfl rfl (by decide) ?_
        refine p_getR 0 83 dX11_word_80 fX11_33 rfl (hW (0, 8, 49) (by decide)) ?_
        refine p_getI 49 86 dX11_word_83 fX11_223 rfl ?_
        rw [show M 49 2 = M 129 14 from hN.2.2.1, s14]
        refine p_iload_n 87 dX11_word_86 rfl rfl ?_
        refine p_callS1i 90 dX11_word_87 (s_bit (i := n) (by omega)) lk_X11_226 mX11_bit (by decide) (Nat.le_of_ble_eq_true rfl) ?_
        rintro _ _ ⟨rfl, e9⟩
        have e9 := e9.symm
        subst e9
        refine p_iand 91 dX11_word_90 ?_
        rw [z_and_bit _ (by omega) (by omega)]
        refine p_if_eq 98 94 dX11_word_91 (by split <;> omega) (by split <;> omega) (fun h91 => ?_) (fun h91 => ?_)
        · have h91 : ¬ (M 129 14).toNat.testBit n = true := by
            intro hb
            rw [if_pos hb] at h91
            omega
          refine p_iconst 99 dX11_word_98 ?_
          refine p_callV1i 0 102 dX11_word_99 s_grant lk_X11_108 mX11_grant rfl rfl (by decide) (Nat.le_of_ble_eq_true rfl) ?_
          rintro _ _ ⟨rfl, rfl⟩
          refine p_iret dX11_word_102 rfl ?_
          exact ⟨_, rfl, CQ.of hI hF (fun k _ => rfl) (by unfold pa_word; (repeat' split) <;> first | rfl | (exfalso; omega) | exact g1 | exact g2 | exact g3 | (rename_i hx; exact absurd hx h91) | (rename_i hx; exact absurd h91 hx)) (by unfold pa_word; (repeat' split) <;> first | rfl | (exfalso; omega)) (by decide)⟩
        · have h91 : (M 129 14).toNat.testBit n = true := by
            cases hb : (M 129 14).toNat.testBit n
            · rw [hb, if_neg (by decide)] at h91; exact absurd rfl h91
            · rfl
          refine p_iconst 95 dX11_word_94 ?_
          refine p_goto 99 dX11_word_95 ?_
          refine p_callV1i 0 102 dX11_word_99 s_grant lk_X11_108 mX11_grant rfl rfl (by decide) (Nat.le_of_ble_eq_true rfl) ?_
          rintro _ _ ⟨rfl, rfl⟩
          refine p_iret dX11_word_102 rfl ?_
          exact ⟨_, rfl, CQ.of hI hF (fun k _ => rfl) (by unfold pa_word; (repeat' split) <;> first | rfl | (exfalso; omega) | exact g1 | exact g2 | exact g3 | (rename_i hx; exact absurd hx h91) | (rename_i hx; exact absurd h91 hx)) (by unfold pa_word; (repeat' split) <;> first | rfl | (exfalso; omega)) (by decide)⟩
      · refine p_tabJ (off := 88) 3 103 dX11_word_15 hs15 (by decide) (by decide) (by decide) ?_
        refine p_aload_n 104 dX11_word_103 rfl rfl (by decide) ?_
        refine p_aload_n 105 dX11_word_104 rfl rfl (by decide) ?_
        refine p_getR 0 108 dX11_word_105 fX11_16 rfl hco ?_
        refine p_getR 25 111 dX11_word_108 fX11_211 rfl (hW (25, 5, 36) (by decide)) ?_
        refine p_getR 36 114 dX11_word_111 fX11_229 rfl (hW (36, 6, 41) (by decide)) ?_
        refine p_iload_n 115 dX11_word_114 rfl rfl ?_
        refine p_ialdn 41 116 (n) dX11_word_115 rfl (by omega) (by omega) ?_
        refine p_callV1i 0 119 dX11_word_116 s_grant lk_X11_108 mX11_grant rfl rfl (by decide) (Nat.le_of_ble_eq_true rfl) ?_
        rintro _ _ ⟨rfl, rfl⟩
        refine p_iret dX11_word_119 rfl ?_
        exact ⟨_, rfl, CQ.of hI hF (fun k _ => rfl) (by unfold pa_word; (repeat' split) <;> first | rfl | (exfalso; omega) | exact g1 | exact g2 | exact g3 | (rename_i hx; exact absurd hx h91) | (rename_i hx; exact absurd h91 hx)) (by unfold pa_word; (repeat' split) <;> first | rfl | (exfalso; omega)) (by decide)⟩
      · refine p_tabD 120 dX11_word_15 (by omega) (by omega) hs15 ?_
        refine p_aload_n 121 dX11_word_120 rfl rfl (by decide) ?_
        refine p_iconst 122 dX11_word_121 ?_
        refine p_callV1i 0 125 dX11_word_122 s_refuse lk_X11_73 mX11_refuse rfl rfl (by decide) (Nat.le_of_ble_eq_true rfl) ?_
        rintro _ _ ⟨rfl, rfl⟩
        refine p_iret dX11_word_125 rfl ?_
        exact ⟨_, rfl, CQ.of hI hF (fun k _ => rfl) (by unfold pa_word; (repeat' split) <;> first | rfl | (exfalso; omega) | exact g1 | exact g2 | exact g3 | (rename_i hx; exact absurd hx h91) | (rename_i hx; exact absurd h91 hx)) (by unfold pa_word; (repeat' split) <;> first | rfl | (exfalso; omega)) (by decide)⟩
    · refine p_aload_n 9 dX11_word_8 rfl rfl (by decide) ?_
      refine p_iconst 10 dX11_word_9 ?_
      refine p_callV1i 0 13 dX11_word_10 s_refuse lk_X11_73 mX11_refuse rfl rfl (by decide) (Nat.le_of_ble_eq_true rfl) ?_
      rintro _ _ ⟨rfl, rfl⟩
      refine p_iret dX11_word_13 rfl ?_
      have h5 := if_nne0 h5
      exact ⟨_, rfl, CQ.of hI hF (fun k _ => rfl) (by unfold pa_word; (repeat' split) <;> first | rfl | (exfalso; omega)) (by unfold pa_word; (repeat' split) <;> first | rfl | (exfalso; omega)) (by decide)⟩
theorem m_word {l : Launch} {X : ZX} {M : ZM} (hW : zWm M) (hF : WF M) {s w : Int} (hs1 : -2147483648 ≤ s) (hs2 : s < 2147483648) (hw1 : -2147483648 ≤ w) (hw2 : w < 2147483648) : zCi l X 2 yX12_word tX12_word [zr 124, zi s, zi w] M (MQq M (pa_word (M 124 14) (M 127) (M 129) s w)) := by
  have hWg : zWm (zset (zset M 124 0 0) 124 11 0) := (hW.set (by decide +kernel)).set (by decide +kernel)
  have hR := hF.r
  have hT := hF.t
  have hh := hF.h
  have e0 : M 127 0 = (q_n (M 127) 0 : Int) := hR.n (by decide)
  have e2 : M 127 2 = (q_n (M 127) 2 : Int) := hR.n (by decide)
  have e3 : M 127 3 = (q_n (M 127) 3 : Int) := hR.n (by decide)
  have e4 : M 127 4 = (q_n (M 127) 4 : Int) := hR.n (by decide)
  have bR := hR.2.1
  have h20 : M 124 14 = 0 → M 127 2 = 0 := fun h => hF.r0 h 2 (by decide)
  have h30 : M 124 14 = 0 → M 127 3 = 0 := fun h => hF.r0 h 3 (by decide)
  have h40 : M 124 14 = 0 → M 127 4 = 0 := fun h => hF.r0 h 4 (by decide)
  refine zC.of [some (zr 124), some (zi s), some (zi w)] (by decide +kernel) rfl rfl (Nat.le_of_ble_eq_true rfl) rfl ?_
  refine p_aload_n 1 dX12_word_0 rfl rfl (by decide) ?_
  refine p_callV0v 124 4 dX12_word_1 s_good lk_X12_165 mX12_good rfl rfl (by decide) (Nat.le_of_ble_eq_true rfl) ?_
  rintro _ rfl
  refine p_aload_n 5 dX12_word_4 rfl rfl (by decide) ?_
  refine p_iload_n 6 dX12_word_5 rfl rfl ?_
  refine p_callV1i 124 9 dX12_word_6 (s_isWordThere (ρ := M 127) hWg (fun _ _ => rfl) hR (by exact hh) (by omega) (by omega)) lk_X12_312 mX12_isWordThere rfl rfl (by decide) (Nat.le_of_ble_eq_true rfl) ?_
  rintro _ _ ⟨rfl, e9⟩
  have e9 := e9.symm
  subst e9
  refine p_if_eq 21 12 dX12_word_9 (by split <;> omega) (by split <;> omega) (fun h9 => ?_) (fun h9 => ?_)
  · have h9 := if_eq0 h9
    have h9 : ¬ (M 124 14 = 1 ∧ 0 ≤ s ∧ s < M 127 4) := h9
    refine p_aload_n 22 dX12_word_21 rfl rfl (by decide) ?_
    refine p_iconst 23 dX12_word_22 ?_
    refine p_callV1i 124 26 dX12_word_23 s_no lk_X12_168 mX12_no rfl rfl (by decide) (Nat.le_of_ble_eq_true rfl) ?_
    rintro _ _ ⟨rfl, rfl⟩
    refine p_iret dX12_word_26 rfl ?_
    exact ⟨_, rfl, MQq.of hid_no hW (by unfold pa_word; (repeat' split) <;> first | rfl | (exfalso; omega)) (by unfold pa_word; (repeat' split) <;> first | rfl | (exfalso; omega))⟩
  · have h9 := if_neq0 h9
    have h9 : M 124 14 = 1 ∧ 0 ≤ s ∧ s < M 127 4 := h9
    refine p_iload_n 13 dX12_word_12 rfl rfl ?_
    refine p_iconst 14 dX12_word_13 ?_
    refine p_iconst 15 dX12_word_14 ?_
    refine p_callS3i 18 dX12_word_15 (s_in (by omega) (by omega) (by omega) (by omega) (by omega) (by omega)) lk_X12_146 mX12_in (by decide) (Nat.le_of_ble_eq_true rfl) ?_
    rintro _ _ ⟨rfl, e9⟩
    have e9 := e9.symm
    subst e9
    refine p_if_ne 27 21 dX12_word_18 (by split <;> omega) (by split <;> omega) (fun h18 => ?_) (fun h18 => ?_)
    · have h18 := if_ne0 h18
      obtain ⟨n, rfl⟩ : ∃ k : Nat, s = (k : Int) := ⟨s.toNat, by omega⟩
      obtain ⟨k, rfl⟩ : ∃ k : Nat, w = (k : Int) := ⟨w.toNat, by omega⟩
      have s14 : M 129 14 = ((M 129 14).toNat : Int) := (Int.toNat_of_nonneg (hT.1 14 (by decide))).symm
      have s14b := hT.said hR
      refine p_iload_n 28 dX12_word_27 rfl rfl ?_
      refine p_iconst 29 dX12_word_28 ?_
      refine p_icmp_ge 48 32 dX12_word_29 (by omega) (by omega) (by omega) (by omega) (fun h29 => ?_) (fun h29 => ?_)
      · refine p_iload_n 49 dX12_word_48 rfl rfl ?_
        refine p_iconst 50 dX12_word_49 ?_
        refine p_icmp_ne 67 53 dX12_word_50 (by omega) (by omega) (by omega) (by omega) (fun h50 => ?_) (fun h50 => ?_)
        · refine p_aload_n 68 dX12_word_67 rfl rfl (by decide) ?_
          refine p_getR 124 71 dX12_word_68 fX12_20 rfl (hWg (124, 15, 127) (by decide)) ?_
          refine p_iload_n 72 dX12_word_71 rfl rfl ?_
          refine p_callS2i 75 dX12_word_72 (s_allBefore_127 (M := zset (zset M 124 0 0) 124 11 0) (ρ := M 127) (fun _ _ => rfl) hR.ab hR.1 (w := n) (by omega)) lk_X12_248 mX12_allBefore (by decide) (Nat.le_of_ble_eq_true rfl) ?_
          rintro _ _ ⟨rfl, e9⟩
          have e9 := e9.symm
          subst e9
          refine p_iret dX12_word_75 rfl ?_
          by_cases hk3 : k < 2
          · have hk : k = 0 ∨ k = 1 := by omega
            rcases hk with rfl | rfl
            · exact ⟨_, rfl, MQq.of hid_good hW (by unfold pa_word; (repeat' split) <;> first | rfl | (exfalso; omega)) (by unfold pa_word; (repeat' split) <;> first | rfl | (exfalso; omega))⟩
            · exact ⟨_, rfl, MQq.of hid_good hW (by unfold pa_word; (repeat' split) <;> first | rfl | (exfalso; omega)) (by unfold pa_word; (repeat' split) <;> first | rfl | (exfalso; omega))⟩
          · cases hb : (M 129 14).toNat.testBit n
            · exact ⟨_, rfl, MQq.of hid_good hW (by first | (exfalso; omega) | (show (0 : Int) = (pa_word (M 124 14) (M 127) (M 129) (n : Int) (k : Int)).1; unfold pa_word; rw [if_neg (by omega), if_neg (by omega), if_neg (by omega), if_pos (by omega)]; show _ = (if (M 129 14).toNat.testBit n = true then (1 : Int) else 0); rw [hb]; rfl) | (show (1 : Int) = (pa_word (M 124 14) (M 127) (M 129) (n : Int) (k : Int)).1; unfold pa_word; rw [if_neg (by omega), if_neg (by omega), if_neg (by omega), if_pos (by omega)]; show _ = (if (M 129 14).toNat.testBit n = true then (1 : Int) else 0); rw [hb]; rfl) | (unfold pa_word; rw [if_neg (by omega), if_neg (by omega), if_neg (by omega), if_neg (by omega)]; rfl)) (by unfold pa_word; (repeat' split) <;> first | rfl | (exfalso; omega))⟩
            · exact ⟨_, rfl, MQq.of hid_good hW (by first | (exfalso; omega) | (show (0 : Int) = (pa_word (M 124 14) (M 127) (M 129) (n : Int) (k : Int)).1; unfold pa_word; rw [if_neg (by omega), if_neg (by omega), if_neg (by omega), if_pos (by omega)]; show _ = (if (M 129 14).toNat.testBit n = true then (1 : Int) else 0); rw [hb]; rfl) | (show (1 : Int) = (pa_word (M 124 14) (M 127) (M 129) (n : Int) (k : Int)).1; unfold pa_word; rw [if_neg (by omega), if_neg (by omega), if_neg (by omega), if_pos (by omega)]; show _ = (if (M 129 14).toNat.testBit n = true then (1 : Int) else 0); rw [hb]; rfl) | (unfold pa_word; rw [if_neg (by omega), if_neg (by omega), if_neg (by omega), if_neg (by omega)]; rfl)) (by unfold pa_word; (repeat' split) <;> first | rfl | (exfalso; omega))⟩
        · refine p_aload_n 54 dX12_word_53 rfl rfl (by decide) ?_
          refine p_getR 124 57 dX12_word_54 fX12_26 rfl (hWg (124, 17, 129) (by decide)) ?_
          refine p_bipush 59 dX12_word_57 rfl ?_
          refine p_iald 129 60 dX12_word_59 rfl (by omega) (by omega) ?_
          try simp only [Int.toNat_natCast, Int.reduceToNat]
          rw [show (zset (zset M 124 0 0) 124 11 0) 129 14 = ((M 129 14).toNat : Int) from s14]
          refine p_iload_n 61 dX12_word_60 rfl rfl ?_
          refine p_ishr 62 dX12_word_61 ?_
          refine p_iconst 63 dX12_word_62 ?_
          refine p_iand 64 dX12_word_63 ?_
          rw [z_shand _ _ (by omega) (by omega)]
          refine p_goto 75 dX12_word_64 ?_
          refine p_iret dX12_word_75 rfl ?_
          by_cases hk3 : k < 2
          · have hk : k = 0 ∨ k = 1 := by omega
            rcases hk with rfl | rfl
            · exact ⟨_, rfl, MQq.of hid_good hW (by unfold pa_word; (repeat' split) <;> first | rfl | (exfalso; omega)) (by unfold pa_word; (repeat' split) <;> first | rfl | (exfalso; omega))⟩
            · exact ⟨_, rfl, MQq.of hid_good hW (by unfold pa_word; (repeat' split) <;> first | rfl | (exfalso; omega)) (by unfold pa_word; (repeat' split) <;> first | rfl | (exfalso; omega))⟩
          · cases hb : (M 129 14).toNat.testBit n
            · exact ⟨_, rfl, MQq.of hid_good hW (by first | (exfalso; omega) | (show (0 : Int) = (pa_word (M 124 14) (M 127) (M 129) (n : Int) (k : Int)).1; unfold pa_word; rw [if_neg (by omega), if_neg (by omega), if_neg (by omega), if_pos (by omega)]; show _ = (if (M 129 14).toNat.testBit n = true then (1 : Int) else 0); rw [hb]; rfl) | (show (1 : Int) = (pa_word (M 124 14) (M 127) (M 129) (n : Int) (k : Int)).1; unfold pa_word; rw [if_neg (by omega), if_neg (by omega), if_neg (by omega), if_pos (by omega)]; show _ = (if (M 129 14).toNat.testBit n = true then (1 : Int) else 0); rw [hb]; rfl) | (unfold pa_word; rw [if_neg (by omega), if_neg (by omega), if_neg (by omega), if_neg (by omega)]; rfl)) (by unfold pa_word; (repeat' split) <;> first | rfl | (exfalso; omega))⟩
            · exact ⟨_, rfl, MQq.of hid_good hW (by first | (exfalso; omega) | (show (0 : Int) = (pa_word (M 124 14) (M 127) (M 129) (n : Int) (k : Int)).1; unfold pa_word; rw [if_neg (by omega), if_neg (by omega), if_neg (by omega), if_pos (by omega)]; show _ = (if (M 129 14).toNat.testBit n = true then (1 : Int) else 0); rw [hb]; rfl) | (show (1 : Int) = (pa_word (M 124 14) (M 127) (M 129) (n : Int) (k : Int)).1; unfold pa_word; rw [if_neg (by omega), if_neg (by omega), if_neg (by omega), if_pos (by omega)]; show _ = (if (M 129 14).toNat.testBit n = true then (1 : Int) else 0); rw [hb]; rfl) | (unfold pa_word; rw [if_neg (by omega), if_neg (by omega), if_neg (by omega), if_neg (by omega)]; rfl)) (by unfold pa_word; (repeat' split) <;> first | rfl | (exfalso; omega))⟩
      · refine p_aload_n 33 dX12_word_32 rfl rfl (by decide) ?_
        refine p_getR 124 36 dX12_word_33 fX12_20 rfl (hWg (124, 15, 127) (by decide)) ?_
        refine p_bipush 38 dX12_word_36 rfl ?_
        refine p_iconst 39 dX12_word_38 ?_
        refine p_iload_n 40 dX12_word_39 rfl rfl ?_
        refine p_imul 41 dX12_word_40 ?_
        refine p_iadd 42 dX12_word_41 ?_
        refine p_iload_n 43 dX12_word_42 rfl rfl ?_
        refine p_iadd 44 dX12_word_43 ?_
        refine p_ialdn 127 45 (38 + 3 * n + k) dX12_word_44 rfl (by omega) (by omega) ?_
        refine p_goto 75 dX12_word_45 ?_
        refine p_iret dX12_word_75 rfl ?_
        by_cases hk3 : k < 2
        · have hk : k = 0 ∨ k = 1 := by omega
          rcases hk with rfl | rfl
          · exact ⟨_, rfl, MQq.of hid_good hW (by unfold pa_word; (repeat' split) <;> first | rfl | (exfalso; omega)) (by unfold pa_word; (repeat' split) <;> first | rfl | (exfalso; omega))⟩
          · exact ⟨_, rfl, MQq.of hid_good hW (by unfold pa_word; (repeat' split) <;> first | rfl | (exfalso; omega)) (by unfold pa_word; (repeat' split) <;> first | rfl | (exfalso; omega))⟩
        · cases hb : (M 129 14).toNat.testBit n
          · exact ⟨_, rfl, MQq.of hid_good hW (by first | (exfalso; omega) | (show (0 : Int) = (pa_word (M 124 14) (M 127) (M 129) (n : Int) (k : Int)).1; unfold pa_word; rw [if_neg (by omega), if_neg (by omega), if_neg (by omega), if_pos (by omega)]; show _ = (if (M 129 14).toNat.testBit n = true then (1 : Int) else 0); rw [hb]; rfl) | (show (1 : Int) = (pa_word (M 124 14) (M 127) (M 129) (n : Int) (k : Int)).1; unfold pa_word; rw [if_neg (by omega), if_neg (by omega), if_neg (by omega), if_pos (by omega)]; show _ = (if (M 129 14).toNat.testBit n = true then (1 : Int) else 0); rw [hb]; rfl) | (unfold pa_word; rw [if_neg (by omega), if_neg (by omega), if_neg (by omega), if_neg (by omega)]; rfl)) (by unfold pa_word; (repeat' split) <;> first | rfl | (exfalso; omega))⟩
          · exact ⟨_, rfl, MQq.of hid_good hW (by first | (exfalso; omega) | (show (0 : Int) = (pa_word (M 124 14) (M 127) (M 129) (n : Int) (k : Int)).1; unfold pa_word; rw [if_neg (by omega), if_neg (by omega), if_neg (by omega), if_pos (by omega)]; show _ = (if (M 129 14).toNat.testBit n = true then (1 : Int) else 0); rw [hb]; rfl) | (show (1 : Int) = (pa_word (M 124 14) (M 127) (M 129) (n : Int) (k : Int)).1; unfold pa_word; rw [if_neg (by omega), if_neg (by omega), if_neg (by omega), if_pos (by omega)]; show _ = (if (M 129 14).toNat.testBit n = true then (1 : Int) else 0); rw [hb]; rfl) | (unfold pa_word; rw [if_neg (by omega), if_neg (by omega), if_neg (by omega), if_neg (by omega)]; rfl)) (by unfold pa_word; (repeat' split) <;> first | rfl | (exfalso; omega))⟩
    · have h18 := if_nne0 h18
      refine p_aload_n 22 dX12_word_21 rfl rfl (by decide) ?_
      refine p_iconst 23 dX12_word_22 ?_
      refine p_callV1i 124 26 dX12_word_23 s_no lk_X12_168 mX12_no rfl rfl (by decide) (Nat.le_of_ble_eq_true rfl) ?_
      rintro _ _ ⟨rfl, rfl⟩
      refine p_iret dX12_word_26 rfl ?_
      exact ⟨_, rfl, MQq.of hid_no hW (by unfold pa_word; (repeat' split) <;> first | rfl | (exfalso; omega)) (by unfold pa_word; (repeat' split) <;> first | rfl | (exfalso; omega))⟩
theorem l_next_2 {l : Launch} {X : ZX} {M : ZM} {ρ : Nat → Int} {h : Int} (hW : zWc M) (hC : ICc ρ h 2 M) (hR : wfR ρ) (hco : M 0 5 = 2) {τ : Nat → Int} (hN : ICn τ h 49 M) (hT : wfT ρ τ) {Q : Option ZV → ZM → Prop} (kk : ∀ o : List (Option ZV), o = [some (zr 0), some (zi (q_set (q_say ρ τ) (q_n ρ 4) : Int)), some (zi (q_n ρ 4 : Int))] → zP l X 4 tX11_next 55 o [] M Q) : ∀ (j i : Nat), i + j = q_n ρ 4 → zP l X 4 tX11_next 20 [some (zr 0), some (zi (q_set (q_say ρ τ) i : Int)), some (zi (i : Int))] [] M (Q) := by
  have e4 : ρ 4 = (q_n ρ 4 : Int) := hR.n (by decide)
  have b4 := hR.2.1.2.2.2.2.1
  have hcw : M 13 0 = ρ 4 := hC.1.2.2.2.2.2.1
  intro j
  induction j with
  | zero =>
    intro i hi
    refine p_iload_n 21 dX11_next_20 rfl rfl ?_
    refine p_aload_n 22 dX11_next_21 rfl rfl (by decide) ?_
    refine p_getR 0 25 dX11_next_22 fX11_16 rfl hco ?_
    refine p_getR 2 28 dX11_next_25 fX11_211 rfl (hW (2, 5, 13) (by decide)) ?_
    refine p_getI 13 31 dX11_next_28 fX11_266 rfl ?_
    rw [hcw]
    refine p_icmp_ge 55 34 dX11_next_31 (by omega) (by omega) (by omega) (by omega) (fun h31 => ?_) (fun h31 => absurd (by omega) (fun h9 : False => h9))
    rw [Nat.add_zero] at hi
    rw [hi]
    exact kk _ rfl
  | succ j ih =>
    intro i hi
    refine p_iload_n 21 dX11_next_20 rfl rfl ?_
    refine p_aload_n 22 dX11_next_21 rfl rfl (by decide) ?_
    refine p_getR 0 25 dX11_next_22 fX11_16 rfl hco ?_
    refine p_getR 2 28 dX11_next_25 fX11_211 rfl (hW (2, 5, 13) (by decide)) ?_
    refine p_getI 13 31 dX11_next_28 fX11_266 rfl ?_
    rw [hcw]
    refine p_icmp_ge 55 34 dX11_next_31 (by omega) (by omega) (by omega) (by omega) (fun h31 => absurd (by omega) (fun h9 : False => h9)) (fun h31 => ?_)
    refine p_aload_n 35 dX11_next_34 rfl rfl (by decide) ?_
    refine p_iload_n 36 dX11_next_35 rfl rfl ?_
    refine p_callV1i 0 39 dX11_next_36 (s_canSay_2 hW hC hR hco hN hT (w := i) (by omega)) lk_X11_257 mX11_canSay rfl rfl (by decide) (Nat.le_of_ble_eq_true rfl) ?_
    rintro _ _ ⟨rfl, e9⟩
    have e9 := e9.symm
    subst e9
    refine p_if_eq 49 42 dX11_next_39 (by split <;> omega) (by split <;> omega) (fun h39 => ?_) (fun h39 => ?_)
    · have h39 := if_eq0 h39
      refine p_iinc 52 dX11_next_49 rfl rfl rfl ?_
      dsimp only [List.set]
      refine p_goto 20 dX11_next_52 ?_
      have e := ih (i + 1) (by omega)
      have er : q_set (q_say ρ τ) (i + 1) = if q_say ρ τ i then q_set (q_say ρ τ) i ||| 2 ^ i else q_set (q_say ρ τ) i := rfl
      first
        | (rw [er, if_neg h39] at e; exact e)
        | (rw [er, if_pos h39] at e; rw [z_ior_set _ (by omega)]; exact e)
    · have h39 := if_neq0 h39
      refine p_iload_n 43 dX11_next_42 rfl rfl ?_
      refine p_iload_n 44 dX11_next_43 rfl rfl ?_
      refine p_callS1i 47 dX11_next_44 (s_bit (i := i) (by omega)) lk_X11_226 mX11_bit (by decide) (Nat.le_of_ble_eq_true rfl) ?_
      rintro _ _ ⟨rfl, e9⟩
      have e9 := e9.symm
      subst e9
      refine p_ior 48 dX11_next_47 ?_
      refine p_istore_n 49 dX11_next_48 rfl (Nat.le_of_ble_eq_true rfl) rfl rfl ?_
      dsimp only [List.set]
      refine p_iinc 52 dX11_next_49 rfl rfl rfl ?_
      dsimp only [List.set]
      refine p_goto 20 dX11_next_52 ?_
      have e := ih (i + 1) (by omega)
      have er : q_set (q_say ρ τ) (i + 1) = if q_say ρ τ i then q_set (q_say ρ τ) i ||| 2 ^ i else q_set (q_say ρ τ) i := rfl
      first
        | (rw [er, if_neg h39] at e; exact e)
        | (rw [er, if_pos h39] at e; rw [z_ior_set _ (by omega)]; exact e)
theorem l_next_25 {l : Launch} {X : ZX} {M : ZM} {ρ : Nat → Int} {h : Int} (hW : zWc M) (hC : ICc ρ h 25 M) (hR : wfR ρ) (hco : M 0 5 = 25) {τ : Nat → Int} (hN : ICn τ h 49 M) (hT : wfT ρ τ) {Q : Option ZV → ZM → Prop} (kk : ∀ o : List (Option ZV), o = [some (zr 0), some (zi (q_set (q_say ρ τ) (q_n ρ 4) : Int)), some (zi (q_n ρ 4 : Int))] → zP l X 4 tX11_next 55 o [] M Q) : ∀ (j i : Nat), i + j = q_n ρ 4 → zP l X 4 tX11_next 20 [some (zr 0), some (zi (q_set (q_say ρ τ) i : Int)), some (zi (i : Int))] [] M (Q) := by
  have e4 : ρ 4 = (q_n ρ 4 : Int) := hR.n (by decide)
  have b4 := hR.2.1.2.2.2.2.1
  have hcw : M 36 0 = ρ 4 := hC.1.2.2.2.2.2.1
  intro j
  induction j with
  | zero =>
    intro i hi
    refine p_iload_n 21 dX11_next_20 rfl rfl ?_
    refine p_aload_n 22 dX11_next_21 rfl rfl (by decide) ?_
    refine p_getR 0 25 dX11_next_22 fX11_16 rfl hco ?_
    refine p_getR 25 28 dX11_next_25 fX11_211 rfl (hW (25, 5, 36) (by decide)) ?_
    refine p_getI 36 31 dX11_next_28 fX11_266 rfl ?_
    rw [hcw]
    refine p_icmp_ge 55 34 dX11_next_31 (by omega) (by omega) (by omega) (by omega) (fun h31 => ?_) (fun h31 => absurd (by omega) (fun h9 : False => h9))
    rw [Nat.add_zero] at hi
    rw [hi]
    exact kk _ rfl
  | succ j ih =>
    intro i hi
    refine p_iload_n 21 dX11_next_20 rfl rfl ?_
    refine p_aload_n 22 dX11_next_21 rfl rfl (by decide) ?_
    refine p_getR 0 25 dX11_next_22 fX11_16 rfl hco ?_
    refine p_getR 25 28 dX11_next_25 fX11_211 rfl (hW (25, 5, 36) (by decide)) ?_
    refine p_getI 36 31 dX11_next_28 fX11_266 rfl ?_
    rw [hcw]
    refine p_icmp_ge 55 34 dX11_next_31 (by omega) (by omega) (by omega) (by omega) (fun h31 => absurd (by omega) (fun h9 : False => h9)) (fun h31 => ?_)
    refine p_aload_n 35 dX11_next_34 rfl rfl (by decide) ?_
    refine p_iload_n 36 dX11_next_35 rfl rfl ?_
    refine p_callV1i 0 39 dX11_next_36 (s_canSay_25 hW hC hR hco hN hT (w := i) (by omega)) lk_X11_257 mX11_canSay rfl rfl (by decide) (Nat.le_of_ble_eq_true rfl) ?_
    rintro _ _ ⟨rfl, e9⟩
    have e9 := e9.symm
    subst e9
    refine p_if_eq 49 42 dX11_next_39 (by split <;> omega) (by split <;> omega) (fun h39 => ?_) (fun h39 => ?_)
    · have h39 := if_eq0 h39
      refine p_iinc 52 dX11_next_49 rfl rfl rfl ?_
      dsimp only [List.set]
      refine p_goto 20 dX11_next_52 ?_
      have e := ih (i + 1) (by omega)
      have er : q_set (q_say ρ τ) (i + 1) = if q_say ρ τ i then q_set (q_say ρ τ) i ||| 2 ^ i else q_set (q_say ρ τ) i := rfl
      first
        | (rw [er, if_neg h39] at e; exact e)
        | (rw [er, if_pos h39] at e; rw [z_ior_set _ (by omega)]; exact e)
    · have h39 := if_neq0 h39
      refine p_iload_n 43 dX11_next_42 rfl rfl ?_
      refine p_iload_n 44 dX11_next_43 rfl rfl ?_
      refine p_callS1i 47 dX11_next_44 (s_bit (i := i) (by omega)) lk_X11_226 mX11_bit (by decide) (Nat.le_of_ble_eq_true rfl) ?_
      rintro _ _ ⟨rfl, e9⟩
      have e9 := e9.symm
      subst e9
      refine p_ior 48 dX11_next_47 ?_
      refine p_istore_n 49 dX11_next_48 rfl (Nat.le_of_ble_eq_true rfl) rfl rfl ?_
      dsimp only [List.set]
      refine p_iinc 52 dX11_next_49 rfl rfl rfl ?_
      dsimp only [List.set]
      refine p_goto 20 dX11_next_52 ?_
      have e := ih (i + 1) (by omega)
      have er : q_set (q_say ρ τ) (i + 1) = if q_say ρ τ i then q_set (q_say ρ τ) i ||| 2 ^ i else q_set (q_say ρ τ) i := rfl
      first
        | (rw [er, if_neg h39] at e; exact e)
        | (rw [er, if_pos h39] at e; rw [z_ior_set _ (by omega)]; exact e)
theorem c_next {l : Launch} {X : ZX} {M : ZM} (hI : IC M M) (hF : WF M)  : zCi l X 4 yX11_next tX11_next [zr 0] M (CQ M (pa_next (M 124 14) (M 127) (M 129))) := by
  obtain ⟨hW, ⟨c, c', hcc, hco, hsp, hC⟩, ⟨j1, j2, j3, j4, j5⟩, hN, hpast, hten, ⟨hz0, hsea⟩, hfit⟩ := id hI
  have hR := hF.r
  have hT := hF.t
  have hh := hF.h
  have e0 : M 127 0 = (q_n (M 127) 0 : Int) := hR.n (by decide)
  have e2 : M 127 2 = (q_n (M 127) 2 : Int) := hR.n (by decide)
  have e3 : M 127 3 = (q_n (M 127) 3 : Int) := hR.n (by decide)
  have e4 : M 127 4 = (q_n (M 127) 4 : Int) := hR.n (by decide)
  have bR := hR.2.1
  have h20 : M 124 14 = 0 → M 127 2 = 0 := fun h => hF.r0 h 2 (by decide)
  have h30 : M 124 14 = 0 → M 127 3 = 0 := fun h => hF.r0 h 3 (by decide)
  have h40 : M 124 14 = 0 → M 127 4 = 0 := fun h => hF.r0 h 4 (by decide)
  have hwo : M 49 3 = M 129 16 := hN.2.2.2.1
  have t160 := hT.1 16 (by decide)
  have t161 := hT.2.2.2.2.1
  refine zC.of [some (zr 0), none, none] (by decide +kernel) rfl rfl (Nat.le_of_ble_eq_true rfl) rfl ?_
  rcases hcc with ⟨rfl, rfl⟩ | ⟨rfl, rfl⟩
  · have hto : M 2 0 = M 124 14 := hC.1.1
    have hla : M 2 1 = M 127 0 := hC.1.2.1
    have hsn : M 2 2 = M 127 1 := hC.1.2.2.1
    have hcs : M 3 0 = M 127 2 := hC.1.2.2.2.1
    have hca : M 8 0 = M 127 3 := hC.1.2.2.2.2.1
    have hcw : M 13 0 = M 127 4 := hC.1.2.2.2.2.2.1
    have hcb : M 13 1 = M 127 5 := hC.1.2.2.2.2.2.2.1
    have hcor : M 19 0 = M 127 6 := hC.1.2.2.2.2.2.2.2.1
    have hcn : M 19 4 = M 127 7 := hC.1.2.2.2.2.2.2.2.2
    refine p_aload_n 1 dX11_next_0 rfl rfl (by decide) ?_
    refine p_getR 0 4 dX11_next_1 fX11_16 rfl hco ?_
    refine p_getI 2 7 dX11_next_4 fX11_114 rfl ?_
    rw [hto]
    refine p_if_ne 16 10 dX11_next_7 (by omega) (by omega) (fun h7 => ?_) (fun h7 => ?_)
    · refine p_iconst 17 dX11_next_16 ?_
      refine p_istore_n 18 dX11_next_17 rfl (Nat.le_of_ble_eq_true rfl) rfl rfl ?_
      dsimp only [List.set]
      refine p_iconst 19 dX11_next_18 ?_
      refine p_istore_n 20 dX11_next_19 rfl (Nat.le_of_ble_eq_true rfl) rfl rfl ?_
      dsimp only [List.set]
      refine l_next_2 hW hC hR hco hN hT (fun o ho => ?_) (q_n (M 127) 4) 0 (Nat.zero_add _)
      subst ho
      refine p_aload_n 56 dX11_next_55 rfl rfl (by decide) ?_
      refine p_iload_n 57 dX11_next_56 rfl rfl ?_
      refine p_callV1i 0 60 dX11_next_57 s_grant lk_X11_108 mX11_grant rfl rfl (by decide) (Nat.le_of_ble_eq_true rfl) ?_
      rintro _ _ ⟨rfl, rfl⟩
      refine p_iret dX11_next_60 rfl ?_
      exact ⟨_, rfl, CQ.of hI hF (fun k _ => rfl) (by unfold pa_next; (repeat' split) <;> first | rfl | (exfalso; omega)) (by unfold pa_next; (repeat' split) <;> first | rfl | (exfalso; omega)) (by decide)⟩
    · refine p_aload_n 11 dX11_next_10 rfl rfl (by decide) ?_
      refine p_iconst 12 dX11_next_11 ?_
      refine p_callV1i 0 15 dX11_next_12 s_refuse lk_X11_73 mX11_refuse rfl rfl (by decide) (Nat.le_of_ble_eq_true rfl) ?_
      rintro _ _ ⟨rfl, rfl⟩
      refine p_iret dX11_next_15 rfl ?_
      exact ⟨_, rfl, CQ.of hI hF (fun k _ => rfl) (by unfold pa_next; (repeat' split) <;> first | rfl | (exfalso; omega)) (by unfold pa_next; (repeat' split) <;> first | rfl | (exfalso; omega)) (by decide)⟩
  · have hto : M 25 0 = M 124 14 := hC.1.1
    have hla : M 25 1 = M 127 0 := hC.1.2.1
    have hsn : M 25 2 = M 127 1 := hC.1.2.2.1
    have hcs : M 26 0 = M 127 2 := hC.1.2.2.2.1
    have hca : M 31 0 = M 127 3 := hC.1.2.2.2.2.1
    have hcw : M 36 0 = M 127 4 := hC.1.2.2.2.2.2.1
    have hcb : M 36 1 = M 127 5 := hC.1.2.2.2.2.2.2.1
    have hcor : M 42 0 = M 127 6 := hC.1.2.2.2.2.2.2.2.1
    have hcn : M 42 4 = M 127 7 := hC.1.2.2.2.2.2.2.2.2
    refine p_aload_n 1 dX11_next_0 rfl rfl (by decide) ?_
    refine p_getR 0 4 dX11_next_1 fX11_16 rfl hco ?_
    refine p_getI 25 7 dX11_next_4 fX11_114 rfl ?_
    rw [hto]
    refine p_if_ne 16 10 dX11_next_7 (by omega) (by omega) (fun h7 => ?_) (fun h7 => ?_)
    · refine p_iconst 17 dX11_next_16 ?_
      refine p_istore_n 18 dX11_next_17 rfl (Nat.le_of_ble_eq_true rfl) rfl rfl ?_
      dsimp only [List.set]
      refine p_iconst 19 dX11_next_18 ?_
      refine p_istore_n 20 dX11_next_19 rfl (Nat.le_of_ble_eq_true rfl) rfl rfl ?_
      dsimp only [List.set]
      refine l_next_25 hW hC hR hco hN hT (fun o ho => ?_) (q_n (M 127) 4) 0 (Nat.zero_add _)
      subst ho
      refine p_aload_n 56 dX11_next_55 rfl rfl (by decide) ?_
      refine p_iload_n 57 dX11_next_56 rfl rfl ?_
      refine p_callV1i 0 60 dX11_next_57 s_grant lk_X11_108 mX11_grant rfl rfl (by decide) (Nat.le_of_ble_eq_true rfl) ?_
      rintro _ _ ⟨rfl, rfl⟩
      refine p_iret dX11_next_60 rfl ?_
      exact ⟨_, rfl, CQ.of hI hF (fun k _ => rfl) (by unfold pa_next; (repeat' split) <;> first | rfl | (exfalso; omega)) (by unfold pa_next; (repeat' split) <;> first | rfl | (exfalso; omega)) (by decide)⟩
    · refine p_aload_n 11 dX11_next_10 rfl rfl (by decide) ?_
      refine p_iconst 12 dX11_next_11 ?_
      refine p_callV1i 0 15 dX11_next_12 s_refuse lk_X11_73 mX11_refuse rfl rfl (by decide) (Nat.le_of_ble_eq_true rfl) ?_
      rintro _ _ ⟨rfl, rfl⟩
      refine p_iret dX11_next_15 rfl ?_
      exact ⟨_, rfl, CQ.of hI hF (fun k _ => rfl) (by unfold pa_next; (repeat' split) <;> first | rfl | (exfalso; omega)) (by unfold pa_next; (repeat' split) <;> first | rfl | (exfalso; omega)) (by decide)⟩
theorem l_nextM {l : Launch} {X : ZX} {M : ZM} {ρ : Nat → Int} (hW : zWm M) (hE : ∀ i, i < 421 → M 127 i = ρ i) (hR : wfR ρ) {τ : Nat → Int} (hU : ∀ i, i < 18 → M 129 i = τ i) (hT : wfT ρ τ) : ∀ (j i : Nat), i + j = q_n ρ 4 → zP l X 3 tX12_next 21 [some (zr 124), some (zi (q_set (q_say ρ τ) i : Int)), some (zi (i : Int))] [] M (fun r M' => ∃ a, r = some (zi a) ∧ (a = (q_set (q_say ρ τ) (q_n ρ 4) : Int) ∧ M' = M)) := by
  have e4 : ρ 4 = (q_n ρ 4 : Int) := hR.n (by decide)
  have b4 := hR.2.1.2.2.2.2.1
  intro j
  induction j with
  | zero =>
    intro i hi
    refine p_iload_n 22 dX12_next_21 rfl rfl ?_
    refine p_aload_n 23 dX12_next_22 rfl rfl (by decide) ?_
    refine p_getR 124 26 dX12_next_23 fX12_20 rfl (hW (124, 15, 127) (by decide)) ?_
    refine p_iconst 27 dX12_next_26 ?_
    refine p_iald 127 28 dX12_next_27 rfl (by omega) (by omega) ?_
    try simp only [Int.toNat_natCast, Int.reduceToNat]
    rw [hE 4 (by decide)]
    refine p_icmp_ge 55 31 dX12_next_28 (by omega) (by omega) (by omega) (by omega) (fun h28 => ?_) (fun h28 => absurd (by omega) (fun h9 : False => h9))
    refine p_iload_n 56 dX12_next_55 rfl rfl ?_
    refine p_iret dX12_next_56 rfl ?_
    rw [Nat.add_zero] at hi
    exact ⟨_, rfl, by rw [hi], rfl⟩
  | succ j ih =>
    intro i hi
    refine p_iload_n 22 dX12_next_21 rfl rfl ?_
    refine p_aload_n 23 dX12_next_22 rfl rfl (by decide) ?_
    refine p_getR 124 26 dX12_next_23 fX12_20 rfl (hW (124, 15, 127) (by decide)) ?_
    refine p_iconst 27 dX12_next_26 ?_
    refine p_iald 127 28 dX12_next_27 rfl (by omega) (by omega) ?_
    try simp only [Int.toNat_natCast, Int.reduceToNat]
    rw [hE 4 (by decide)]
    refine p_icmp_ge 55 31 dX12_next_28 (by omega) (by omega) (by omega) (by omega) (fun h28 => absurd (by omega) (fun h9 : False => h9)) (fun h28 => ?_)
    refine p_iload_n 32 dX12_next_31 rfl rfl ?_
    refine p_aload_n 33 dX12_next_32 rfl rfl (by decide) ?_
    refine p_iload_n 34 dX12_next_33 rfl rfl ?_
    refine p_callV1i 124 37 dX12_next_34 (s_canSay hW hE hR hU hT (w := i) (by omega)) lk_X12_352 mX12_canSay rfl rfl (by decide) (Nat.le_of_ble_eq_true rfl) ?_
    rintro _ _ ⟨rfl, e9⟩
    have e9 := e9.symm
    subst e9
    refine p_if_eq 46 40 dX12_next_37 (by split <;> omega) (by split <;> omega) (fun h37 => ?_) (fun h37 => ?_)
    · have h37 := if_eq0 h37
      refine p_iconst 47 dX12_next_46 ?_
      refine p_ior 48 dX12_next_47 ?_
      refine p_istore_n 49 dX12_next_48 rfl (Nat.le_of_ble_eq_true rfl) rfl rfl ?_
      dsimp only [List.set]
      refine p_iinc 52 dX12_next_49 rfl rfl rfl ?_
      dsimp only [List.set]
      refine p_goto 21 dX12_next_52 ?_
      have e := ih (i + 1) (by omega)
      have er : q_set (q_say ρ τ) (i + 1) = if q_say ρ τ i then q_set (q_say ρ τ) i ||| 2 ^ i else q_set (q_say ρ τ) i := rfl
      first
        | (rw [er, if_neg h37] at e; rw [z_ior_zero _ (Nat.lt_of_lt_of_le (q_set_lt _ i) (Nat.pow_le_pow_right (n := 2) (by decide) (show i ≤ 31 by omega)))]; exact e)
        | (rw [er, if_pos h37] at e; rw [z_bit i (by omega), z_ior_set _ (by omega)]; exact e)
    · have h37 := if_neq0 h37
      refine p_iconst 41 dX12_next_40 ?_
      refine p_iload_n 42 dX12_next_41 rfl rfl ?_
      refine p_ishl 43 dX12_next_42 ?_
      refine p_goto 47 dX12_next_43 ?_
      refine p_ior 48 dX12_next_47 ?_
      refine p_istore_n 49 dX12_next_48 rfl (Nat.le_of_ble_eq_true rfl) rfl rfl ?_
      dsimp only [List.set]
      refine p_iinc 52 dX12_next_49 rfl rfl rfl ?_
      dsimp only [List.set]
      refine p_goto 21 dX12_next_52 ?_
      have e := ih (i + 1) (by omega)
      have er : q_set (q_say ρ τ) (i + 1) = if q_say ρ τ i then q_set (q_say ρ τ) i ||| 2 ^ i else q_set (q_say ρ τ) i := rfl
      first
        | (rw [er, if_neg h37] at e; rw [z_ior_zero _ (Nat.lt_of_lt_of_le (q_set_lt _ i) (Nat.pow_le_pow_right (n := 2) (by decide) (show i ≤ 31 by omega)))]; exact e)
        | (rw [er, if_pos h37] at e; rw [z_bit i (by omega), z_ior_set _ (by omega)]; exact e)
theorem m_next {l : Launch} {X : ZX} {M : ZM} (hW : zWm M) (hF : WF M)  : zCi l X 3 yX12_next tX12_next [zr 124] M (MQq M (pa_next (M 124 14) (M 127) (M 129))) := by
  have hWg : zWm (zset (zset M 124 0 0) 124 11 0) := (hW.set (by decide +kernel)).set (by decide +kernel)
  have hR := hF.r
  have hT := hF.t
  have hh := hF.h
  have e0 : M 127 0 = (q_n (M 127) 0 : Int) := hR.n (by decide)
  have e2 : M 127 2 = (q_n (M 127) 2 : Int) := hR.n (by decide)
  have e3 : M 127 3 = (q_n (M 127) 3 : Int) := hR.n (by decide)
  have e4 : M 127 4 = (q_n (M 127) 4 : Int) := hR.n (by decide)
  have bR := hR.2.1
  have h20 : M 124 14 = 0 → M 127 2 = 0 := fun h => hF.r0 h 2 (by decide)
  have h30 : M 124 14 = 0 → M 127 3 = 0 := fun h => hF.r0 h 3 (by decide)
  have h40 : M 124 14 = 0 → M 127 4 = 0 := fun h => hF.r0 h 4 (by decide)
  refine zC.of [some (zr 124), none, none] (by decide +kernel) rfl rfl (Nat.le_of_ble_eq_true rfl) rfl ?_
  refine p_aload_n 1 dX12_next_0 rfl rfl (by decide) ?_
  refine p_callV0v 124 4 dX12_next_1 s_good lk_X12_165 mX12_good rfl rfl (by decide) (Nat.le_of_ble_eq_true rfl) ?_
  rintro _ rfl
  refine p_aload_n 5 dX12_next_4 rfl rfl (by decide) ?_
  refine p_getI 124 8 dX12_next_5 fX12_178 rfl ?_
  refine p_if_ne 17 11 dX12_next_8 (by show _ ≤ M 124 14; omega) (by show M 124 14 < _; omega) (fun h8 => ?_) (fun h8 => ?_)
  · have h8 : ¬ M 124 14 = 0 := h8
    refine p_iconst 18 dX12_next_17 ?_
    refine p_istore_n 19 dX12_next_18 rfl (Nat.le_of_ble_eq_true rfl) rfl rfl ?_
    dsimp only [List.set]
    refine p_iconst 20 dX12_next_19 ?_
    refine p_istore_n 21 dX12_next_20 rfl (Nat.le_of_ble_eq_true rfl) rfl rfl ?_
    dsimp only [List.set]
    refine (l_nextM hWg (ρ := M 127) (fun _ _ => rfl) hR (τ := M 129) (fun _ _ => rfl) hT (q_n (M 127) 4) 0 (Nat.zero_add _)).mono (fun r M9 h9 => ?_)
    obtain ⟨a9, ea, eb, ec⟩ := h9
    subst ec
    refine ⟨a9, ea, MQq.of hid_good hW (eb.trans ?_) (by unfold pa_next; (repeat' split) <;> first | rfl | (exfalso; omega))⟩
    unfold pa_next
    (repeat' split) <;> first | rfl | (exfalso; omega)
  · have h8 : ¬ M 124 14 ≠ 0 := h8
    refine p_aload_n 12 dX12_next_11 rfl rfl (by decide) ?_
    refine p_iconst 13 dX12_next_12 ?_
    refine p_callV1i 124 16 dX12_next_13 s_no lk_X12_168 mX12_no rfl rfl (by decide) (Nat.le_of_ble_eq_true rfl) ?_
    rintro _ _ ⟨rfl, rfl⟩
    refine p_iret dX12_next_16 rfl ?_
    exact ⟨_, rfl, MQq.of hid_no hW (by unfold pa_next; (repeat' split) <;> first | rfl | (exfalso; omega)) (by unfold pa_next; (repeat' split) <;> first | rfl | (exfalso; omega))⟩
