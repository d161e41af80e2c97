/-! LED: which word was said as the i-th -/
def q_lw (S : Nat) (i : Int) : Nat → Bool := fun w => S.testBit w && decide ((q_cntp (fun k => S.testBit k) w : Int) = i)
theorem q_cnt_s (p : Nat → Bool) (n : Nat) : q_cntp p (n + 1) = q_cntp p n + (if p n then 1 else 0) := rfl
theorem q_cnt_le (p : Nat → Bool) (n : Nat) : ∀ k, q_cntp p n ≤ q_cntp p (n + k) := by
  intro k
  induction k with
  | zero => exact Nat.le_refl _
  | succ k ih =>
    rw [← Nat.add_assoc, q_cnt_s]
    omega
theorem q_lw_none {S : Nat} {i : Int} {n : Nat} (h : i < 0 ∨ (q_cntp (fun k => S.testBit k) n : Int) ≤ i) : ∀ w, w < n → q_lw S i w = false := by
  intro w hw
  unfold q_lw
  by_cases hb : S.testBit w = true
  · rw [hb, Bool.true_and]
    refine decide_eq_false (fun e => ?_)
    have h1 := q_cnt_le (fun k => S.testBit k) (w + 1) (n - (w + 1))
    rw [show w + 1 + (n - (w + 1)) = n by omega, q_cnt_s, if_pos hb] at h1
    omega
  · rw [show S.testBit w = false by simpa using hb, Bool.false_and]
theorem q_lw_some {S : Nat} {i : Int} (h0 : 0 ≤ i) : ∀ n, i < (q_cntp (fun k => S.testBit k) n : Int) → ∃ w, w < n ∧ q_lw S i w = true := by
  intro n
  induction n with
  | zero =>
    intro h
    have : q_cntp (fun k => S.testBit k) 0 = 0 := rfl
    omega
  | succ n ih =>
    intro h
    rw [q_cnt_s] at h
    by_cases h1 : i < (q_cntp (fun k => S.testBit k) n : Int)
    · obtain ⟨w, hw, hp⟩ := ih h1
      exact ⟨w, by omega, hp⟩
    · have hb : S.testBit n = true := by
        by_cases hb : S.testBit n = true
        · exact hb
        · rw [if_neg hb] at h
          omega
      rw [if_pos hb] at h
      refine ⟨n, by omega, ?_⟩
      unfold q_lw
      rw [hb, Bool.true_and]
      exact decide_eq_true (by omega)
theorem q_lw_one {S : Nat} {i : Int} {w v : Nat} (hw : q_lw S i w = true) (hv : q_lw S i v = true) : w = v := by
  unfold q_lw at hw hv
  rw [Bool.and_eq_true, decide_eq_true_iff] at hw hv
  rcases Nat.lt_trichotomy w v with h | h | h
  · have h1 := q_cnt_le (fun k => S.testBit k) (w + 1) (v - (w + 1))
    rw [show w + 1 + (v - (w + 1)) = v by omega, q_cnt_s, if_pos hw.1] at h1
    omega
  · exact h
  · have h1 := q_cnt_le (fun k => S.testBit k) (v + 1) (w - (v + 1))
    rw [show v + 1 + (w - (v + 1)) = w by omega, q_cnt_s, if_pos hv.1] at h1
    omega
/-- the bits of what was said -/
def q_sd1 (M : ZM) : Nat := (M 129 14).toNat
def q_thr (M : ZM) (i : Int) : Prop := i < 0 ∨ (q_cntp (fun k => (q_sd1 M).testBit k) 7 : Int) ≤ i
theorem q_cnt_n (S n : Nat) (h : S < 2 ^ n) : ∀ k, q_cntp (fun k => S.testBit k) (n + k) = q_cntp (fun k => S.testBit k) n := by
  intro k
  induction k with
  | zero => rfl
  | succ k ih =>
    rw [← Nat.add_assoc, q_cnt_s, ih]
    have : S.testBit (n + k) = false := Nat.testBit_lt_two_pow (Nat.lt_of_lt_of_le h (Nat.pow_le_pow_right (by decide) (by omega)))
    rw [if_neg (by rw [this]; decide)]
    rfl
theorem q_cnt_bd (p : Nat → Bool) : ∀ n, q_cntp p n ≤ n := by
  intro n
  induction n with
  | zero => exact Nat.le_refl _
  | succ n ih =>
    rw [q_cnt_s]
    split <;> omega
def MLD (M : ZM) (i : Int) (a : Int) (M' : ZM) : Prop := (q_thr M i ∧ a = 0 ∧ M' = zset M 124 0 1) ∨ (¬ q_thr M i ∧ ∃ w : Nat, w < 7 ∧ a = (w : Int) ∧ q_lw (q_sd1 M) i w = true ∧ M' = zset M 124 0 0)
theorem q_thr_n {M : ZM} (hF : WF M) {i : Int} : q_thr M i ↔ (i < 0 ∨ (q_cntp (fun k => (q_sd1 M).testBit k) (q_n (M 127) 4) : Int) ≤ i) := by
  have hR := hF.r
  have hT := hF.t
  have hh := hF.h
  have e4 : M 127 4 = (q_n (M 127) 4 : Int) := hR.n (by decide)
  have b4 := hR.2.1
  have s14 : M 129 14 = (q_sd1 M : Int) := (Int.toNat_of_nonneg (hT.1 14 (by decide))).symm
  have hlt : q_sd1 M < 2 ^ q_n (M 127) 4 := by
    have h := hT.2.2.1
    rw [s14] at h
    exact_mod_cast h
  have hn7 : q_n (M 127) 4 ≤ 7 := by omega
  have h128 : q_sd1 M < 128 := Nat.lt_of_lt_of_le hlt (Nat.pow_le_pow_right (by decide) hn7 : 2 ^ q_n (M 127) 4 ≤ 2 ^ 7)
  unfold q_thr
  have := q_cnt_n (q_sd1 M) (q_n (M 127) 4) hlt (7 - q_n (M 127) 4)
  rw [show q_n (M 127) 4 + (7 - q_n (M 127) 4) = 7 by omega] at this
  rw [this]
theorem l_ledM {l : Launch} {X : ZX} {M : ZM} (hW : zWm M) (hF : WF M) (h1 : M 124 14 = 1) {i : Int} (hi1 : -2147483648 ≤ i) (hi2 : i < 2147483648) : ∀ (j w : Nat), w + j = q_n (M 127) 4 → (∀ v, v < w → q_lw (q_sd1 M) i v = false) → zP l X 1 tX12_led 4 [some (zr 124), some (zi i), some (zi (q_cntp (fun k => (q_sd1 M).testBit k) w : Int)), some (zi (w : Int))] [] M (fun r M' => ∃ a, r = some (zi a) ∧ MLD M i a M') := by
  have hR := hF.r
  have hT := hF.t
  have hh := hF.h
  have e4 : M 127 4 = (q_n (M 127) 4 : Int) := hR.n (by decide)
  have b4 := hR.2.1
  have s14 : M 129 14 = (q_sd1 M : Int) := (Int.toNat_of_nonneg (hT.1 14 (by decide))).symm
  have hlt : q_sd1 M < 2 ^ q_n (M 127) 4 := by
    have h := hT.2.2.1
    rw [s14] at h
    exact_mod_cast h
  have hn7 : q_n (M 127) 4 ≤ 7 := by omega
  have h128 : q_sd1 M < 128 := Nat.lt_of_lt_of_le hlt (Nat.pow_le_pow_right (by decide) hn7 : 2 ^ q_n (M 127) 4 ≤ 2 ^ 7)
  intro j
  induction j with
  | zero =>
    intro w hj hv
    rw [Nat.add_zero] at hj
    subst hj
    refine p_aload_n 5 dX12_led_4 rfl rfl (by decide) ?_
    refine p_getI 124 8 dX12_led_5 fX12_178 rfl ?_
    rw [h1]
    refine p_if_eq 59 11 dX12_led_8 (by decide) (by decide) (fun h8 => absurd (absurd h8 (by decide)) (fun h9 : False => h9)) (fun h8 => ?_)
    refine p_iload_n 12 dX12_led_11 rfl rfl ?_
    refine p_aload_n 13 dX12_led_12 rfl rfl (by decide) ?_
    refine p_getR 124 16 dX12_led_13 fX12_20 rfl (hW (124, 15, 127) (by decide)) ?_
    refine p_iconst 17 dX12_led_16 ?_
    refine p_ialdn 127 18 (4) dX12_led_17 rfl (by decide) (by decide) ?_
    rw [e4]
    refine p_icmp_ge 59 21 dX12_led_18 (by omega) (by omega) (by omega) (by omega) (fun h18 => ?_) (fun h18 => absurd (by omega) (fun h9 : False => h9))
    refine p_aload_n 60 dX12_led_59 rfl rfl (by decide) ?_
    refine p_iconst 61 dX12_led_60 ?_
    refine p_putI 124 64 dX12_led_61 wX12_53 rfl ?_
    refine p_iconst 65 dX12_led_64 ?_
    refine p_iret dX12_led_65 rfl ?_
    refine ⟨_, rfl, Or.inl ⟨(q_thr_n hF).mpr ?_, rfl, rfl⟩⟩
    by_cases h0 : i < 0
    · exact Or.inl h0
    · right
      by_cases hc : (q_cntp (fun k => (q_sd1 M).testBit k) (q_n (M 127) 4) : Int) ≤ i
      · exact hc
      · obtain ⟨v, hv1, hv2⟩ := q_lw_some (S := q_sd1 M) (i := i) (by omega) (q_n (M 127) 4) (by omega)
        rw [hv v hv1] at hv2
        cases hv2
  | succ j ih =>
    intro w hj hv
    have hcb : q_cntp (fun k => (q_sd1 M).testBit k) w ≤ 7 := by
      have h9 := q_cnt_le (fun k => (q_sd1 M).testBit k) w (7 - w)
      rw [show w + (7 - w) = 7 by omega] at h9
      exact Nat.le_trans h9 (q_cnt_bd _ 7)
    refine p_aload_n 5 dX12_led_4 rfl rfl (by decide) ?_
    refine p_getI 124 8 dX12_led_5 fX12_178 rfl ?_
    rw [h1]
    refine p_if_eq 59 11 dX12_led_8 (by decide) (by decide) (fun h8 => absurd (absurd h8 (by decide)) (fun h9 : False => h9)) (fun h8 => ?_)
    refine p_iload_n 12 dX12_led_11 rfl rfl ?_
    refine p_aload_n 13 dX12_led_12 rfl rfl (by decide) ?_
    refine p_getR 124 16 dX12_led_13 fX12_20 rfl (hW (124, 15, 127) (by decide)) ?_
    refine p_iconst 17 dX12_led_16 ?_
    refine p_ialdn 127 18 (4) dX12_led_17 rfl (by decide) (by decide) ?_
    rw [e4]
    refine p_icmp_ge 59 21 dX12_led_18 (by omega) (by omega) (by omega) (by omega) (fun h18 => absurd (by omega) (fun h9 : False => h9)) (fun h18 => ?_)
    refine p_aload_n 22 dX12_led_21 rfl rfl (by decide) ?_
    refine p_getR 124 25 dX12_led_22 fX12_26 rfl (hW (124, 17, 129) (by decide)) ?_
    refine p_bipush 27 dX12_led_25 rfl ?_
    refine p_ialdn 129 28 (14) dX12_led_27 rfl (by decide) (by decide) ?_
    refine p_iload_n 29 dX12_led_28 rfl rfl ?_
    rw [s14]
    refine p_callS2i 32 dX12_led_29 (s_hasBit (S := q_sd1 M) (k := w) (by omega) (by omega)) lk_X12_241 mX12_hasBit (by decide) (Nat.le_of_ble_eq_true rfl) ?_
    rintro _ _ ⟨rfl, e9⟩
    have e9 := e9.symm
    subst e9
    refine p_if_ne 38 35 dX12_led_32 (by split <;> omega) (by split <;> omega) (fun h32 => ?_) (fun h32 => ?_)
    · have hb := if_ne0 h32
      refine p_iload_n 39 dX12_led_38 rfl rfl ?_
      refine p_iload_n 40 dX12_led_39 rfl rfl ?_
      refine p_icmp_ne 50 43 dX12_led_40 (by omega) (by omega) (by omega) (by omega) (fun h40 => ?_) (fun h40 => ?_)
      · refine p_iinc 53 dX12_led_50 rfl rfl rfl ?_
        dsimp only [List.set]
        refine p_iinc 56 dX12_led_53 rfl rfl rfl ?_
        dsimp only [List.set]
        refine p_goto 4 dX12_led_56 ?_
        have hcn : (q_cntp (fun k => (q_sd1 M).testBit k) (w + 1) : Int) = (q_cntp (fun k => (q_sd1 M).testBit k) w : Int) + 1 := by rw [q_cnt_s, if_pos hb]; rfl
        rw [← hcn]
        refine ih (w + 1) (by omega) (fun v hv1 => ?_)
        by_cases e : v = w
        · subst e
          unfold q_lw
          rw [hb, Bool.true_and]
          exact decide_eq_false (by omega)
        · exact hv v (by omega)
      · refine p_aload_n 44 dX12_led_43 rfl rfl (by decide) ?_
        refine p_iconst 45 dX12_led_44 ?_
        refine p_putI 124 48 dX12_led_45 wX12_53 rfl ?_
        refine p_iload_n 49 dX12_led_48 rfl rfl ?_
        refine p_iret dX12_led_49 rfl ?_
        have hlw : q_lw (q_sd1 M) i w = true := by
          unfold q_lw
          rw [hb, Bool.true_and]
          exact decide_eq_true (by omega)
        refine ⟨_, rfl, Or.inr ⟨fun ht => ?_, w, by omega, rfl, hlw, rfl⟩⟩
        rw [q_lw_none ht w (by omega)] at hlw
        cases hlw
    · have hb := if_nne0 h32
      refine p_goto 53 dX12_led_35 ?_
      refine p_iinc 56 dX12_led_53 rfl rfl rfl ?_
      dsimp only [List.set]
      refine p_goto 4 dX12_led_56 ?_
      have hcn : q_cntp (fun k => (q_sd1 M).testBit k) (w + 1) = q_cntp (fun k => (q_sd1 M).testBit k) w := by rw [q_cnt_s, if_neg hb]; rfl
      rw [← hcn]
      refine ih (w + 1) (by omega) (fun v hv1 => ?_)
      by_cases e : v = w
      · subst e
        unfold q_lw
        rw [show (q_sd1 M).testBit v = false by simpa using hb, Bool.false_and]
      · exact hv v (by omega)
theorem m_led {l : Launch} {X : ZX} {M : ZM} (hW : zWm M) (hF : WF M) {i : Int} (hi1 : -2147483648 ≤ i) (hi2 : i < 2147483648) : zCi l X 1 yX12_led tX12_led [zr 124, zi i] M (MLD M i) := by
  have hR := hF.r
  have hT := hF.t
  have hh := hF.h
  have e4 : M 127 4 = (q_n (M 127) 4 : Int) := hR.n (by decide)
  have b4 := hR.2.1
  have s14 : M 129 14 = (q_sd1 M : Int) := (Int.toNat_of_nonneg (hT.1 14 (by decide))).symm
  have hlt : q_sd1 M < 2 ^ q_n (M 127) 4 := by
    have h := hT.2.2.1
    rw [s14] at h
    exact_mod_cast h
  have hn7 : q_n (M 127) 4 ≤ 7 := by omega
  have h128 : q_sd1 M < 128 := Nat.lt_of_lt_of_le hlt (Nat.pow_le_pow_right (by decide) hn7 : 2 ^ q_n (M 127) 4 ≤ 2 ^ 7)
  refine zC.of [some (zr 124), some (zi i), none, none] (by decide +kernel) rfl rfl (Nat.le_of_ble_eq_true rfl) rfl ?_
  refine p_iconst 1 dX12_led_0 ?_
  refine p_istore_n 2 dX12_led_1 rfl (Nat.le_of_ble_eq_true rfl) rfl rfl ?_
  dsimp only [List.set]
  refine p_iconst 3 dX12_led_2 ?_
  refine p_istore_n 4 dX12_led_3 rfl (Nat.le_of_ble_eq_true rfl) rfl rfl ?_
  dsimp only [List.set]
  rcases hh with h0 | h1
  · refine p_aload_n 5 dX12_led_4 rfl rfl (by decide) ?_
    refine p_getI 124 8 dX12_led_5 fX12_178 rfl ?_
    rw [h0]
    refine p_if_eq 59 11 dX12_led_8 (by decide) (by decide) (fun h8 => ?_) (fun h8 => absurd (absurd rfl h8) (fun h9 : False => h9))
    refine p_aload_n 60 dX12_led_59 rfl rfl (by decide) ?_
    refine p_iconst 61 dX12_led_60 ?_
    refine p_putI 124 64 dX12_led_61 wX12_53 rfl ?_
    refine p_iconst 65 dX12_led_64 ?_
    refine p_iret dX12_led_65 rfl ?_
    have hs0 : q_sd1 M = 0 := by
      unfold q_sd1
      rw [(hF.t0 h0).1 14 (by decide)]
      rfl
    refine ⟨_, rfl, Or.inl ⟨?_, rfl, rfl⟩⟩
    unfold q_thr
    rw [hs0, show q_cntp (fun k => (0 : Nat).testBit k) 7 = 0 from by decide]
    omega
  · exact l_ledM hW hF h1 hi1 hi2 (q_n (M 127) 4) 0 (by omega) (fun v hv => absurd hv (by omega))
theorem s_thrown {l : Launch} {X : ZX} {M : ZM}  : zCi l X 0 yX12_thrown tX12_thrown [zr 124] M (fun a M' => a = M 124 0 ∧ M' = M) := by
  refine zC.of [some (zr 124)] (by decide +kernel) rfl rfl (Nat.le_of_ble_eq_true rfl) rfl ?_
  refine p_aload_n 1 dX12_thrown_0 rfl rfl (by decide) ?_
  refine p_getI 124 4 dX12_thrown_1 fX12_53 rfl ?_
  refine p_iret dX12_thrown_4 rfl ?_
  exact ⟨_, rfl, rfl, rfl⟩
theorem l_ledC {l : Launch} {X : ZX} {M : ZM} (hW : zWc M) {S : Nat} (hS : M 49 2 = (S : Int)) (h128 : S < 128) {i : Int} (hi1 : -2147483648 ≤ i) (hi2 : i < 2147483648) {r : Nat} (hr : r < 7) (hlw : q_lw S i r = true) {Q : Option ZV → ZM → Prop} (hQ : Q (some (zi (r : Int))) M) : ∀ (j w : Nat), w + j = r → zP l X 1 tX11_led 33 [some (zr 0), some (zi i), some (zi (i - (q_cntp (fun k => S.testBit k) w : Int))), some (zi (w : Int))] [] M Q := by
  intro j
  induction j with
  | zero =>
    intro w hj
    rw [Nat.add_zero] at hj
    subst hj
    have hl := hlw
    unfold q_lw at hl
    rw [Bool.and_eq_true, decide_eq_true_iff] at hl
    have hpw : (2 ^ w : Nat) < 2147483648 := Nat.lt_of_lt_of_le (Nat.pow_lt_pow_right (by decide) hr) (by decide : (2 : Nat) ^ 7 ≤ 2147483648)
    have hp0 : 0 < (2 ^ w : Nat) := Nat.pos_of_ne_zero (by simp)
    refine p_iload_n 34 dX11_led_33 rfl rfl ?_
    refine p_bipush 36 dX11_led_34 rfl ?_
    refine p_icmp_ge 69 39 dX11_led_36 (by omega) (by omega) (by omega) (by omega) (fun h36 => absurd (by omega) (fun h9 : False => h9)) (fun h36 => ?_)
    refine p_aload_n 40 dX11_led_39 rfl rfl (by decide) ?_
    refine p_getR 0 43 dX11_led_40 fX11_33 rfl (hW (0, 8, 49) (by decide)) ?_
    refine p_getI 49 46 dX11_led_43 fX11_223 rfl ?_
    refine p_iload_n 47 dX11_led_46 rfl rfl ?_
    rw [hS]
    refine p_callS1i 50 dX11_led_47 (s_bit (i := w) (by omega)) lk_X11_226 mX11_bit (by decide) (Nat.le_of_ble_eq_true rfl) ?_
    rintro _ _ ⟨rfl, e9⟩
    have e9 := e9.symm
    subst e9
    refine p_iand 51 dX11_led_50 ?_
    rw [z_and_bit S (by omega) (by omega), if_pos hl.1]
    refine p_if_eq 63 54 dX11_led_51 (by omega) (by omega) (fun h51 => absurd (by omega) (fun h9 : False => h9)) (fun h51 => ?_)
    refine p_iload_n 55 dX11_led_54 rfl rfl ?_
    refine p_if_ne 60 58 dX11_led_55 (by omega) (by omega) (fun h55 => absurd (by omega) (fun h9 : False => h9)) (fun h55 => ?_)
    refine p_iload_n 59 dX11_led_58 rfl rfl ?_
    refine p_iret dX11_led_59 rfl ?_
    exact hQ
  | succ j ih =>
    intro w hj
    have hpw : (2 ^ w : Nat) < 2147483648 := Nat.lt_of_lt_of_le (Nat.pow_lt_pow_right (by decide) (by omega : w < 7)) (by decide : (2 : Nat) ^ 7 ≤ 2147483648)
    have hp0 : 0 < (2 ^ w : Nat) := Nat.pos_of_ne_zero (by simp)
    have hcb : q_cntp (fun k => S.testBit k) w ≤ w := q_cnt_bd _ w
    have hcr := hlw
    unfold q_lw at hcr
    rw [Bool.and_eq_true, decide_eq_true_iff] at hcr
    have hcs := q_cnt_le (fun k => S.testBit k) (w + 1) (r - (w + 1))
    rw [show w + 1 + (r - (w + 1)) = r by omega, q_cnt_s] at hcs
    refine p_iload_n 34 dX11_led_33 rfl rfl ?_
    refine p_bipush 36 dX11_led_34 rfl ?_
    refine p_icmp_ge 69 39 dX11_led_36 (by omega) (by omega) (by omega) (by omega) (fun h36 => absurd (by omega) (fun h9 : False => h9)) (fun h36 => ?_)
    refine p_aload_n 40 dX11_led_39 rfl rfl (by decide) ?_
    refine p_getR 0 43 dX11_led_40 fX11_33 rfl (hW (0, 8, 49) (by decide)) ?_
    refine p_getI 49 46 dX11_led_43 fX11_223 rfl ?_
    refine p_iload_n 47 dX11_led_46 rfl rfl ?_
    rw [hS]
    refine p_callS1i 50 dX11_led_47 (s_bit (i := w) (by omega)) lk_X11_226 mX11_bit (by decide) (Nat.le_of_ble_eq_true rfl) ?_
    rintro _ _ ⟨rfl, e9⟩
    have e9 := e9.symm
    subst e9
    refine p_iand 51 dX11_led_50 ?_
    rw [z_and_bit S (by omega) (by omega)]
    refine p_if_eq 63 54 dX11_led_51 (by split <;> omega) (by split <;> omega) (fun h51 => ?_) (fun h51 => ?_)
    · have hb : ¬ S.testBit w = true := fun hb => by rw [if_pos hb] at h51; omega
      refine p_iinc 66 dX11_led_63 rfl rfl rfl ?_
      dsimp only [List.set]
      refine p_goto 33 dX11_led_66 ?_
      have hcn : q_cntp (fun k => S.testBit k) (w + 1) = q_cntp (fun k => S.testBit k) w := by rw [q_cnt_s, if_neg hb]; rfl
      rw [← hcn]
      exact ih (w + 1) (by omega)
    · have hb : S.testBit w = true := by
        by_cases hb : S.testBit w = true
        · exact hb
        · rw [if_neg hb] at h51
          exact absurd rfl h51
      refine p_iload_n 55 dX11_led_54 rfl rfl ?_
      refine p_if_ne 60 58 dX11_led_55 (by omega) (by omega) (fun h55 => ?_) (fun h55 => absurd (by rw [if_pos hb] at hcs; omega) (fun h9 : False => h9))
      refine p_iinc 63 dX11_led_60 rfl rfl rfl ?_
      dsimp only [List.set]
      refine p_iinc 66 dX11_led_63 rfl rfl rfl ?_
      dsimp only [List.set]
      refine p_goto 33 dX11_led_66 ?_
      have hcn : i - (q_cntp (fun k => S.testBit k) w : Int) + -1 = i - (q_cntp (fun k => S.testBit k) (w + 1) : Int) := by rw [q_cnt_s, if_pos hb]; omega
      rw [hcn]
      exact ih (w + 1) (by omega)
theorem c_led {l : Launch} {X : ZX} {M : ZM} (hI : IC M M) (hF : WF M) {i : Int} (hi1 : -2147483648 ≤ i) (hi2 : i < 2147483648) (hno : ¬ q_thr M i) : zCi l X 1 yX11_led tX11_led [zr 0, zi i] M (fun a M' => (∃ w : Nat, w < 7 ∧ a = (w : Int) ∧ q_lw (q_sd1 M) i w = true) ∧ M' = M) := by
  have hW := hI.1
  have hN := hI.2.2.2.1
  have hR := hF.r
  have hT := hF.t
  have hh := hF.h
  have e4 : M 127 4 = (q_n (M 127) 4 : Int) := hR.n (by decide)
  have b4 := hR.2.1
  have s14 : M 129 14 = (q_sd1 M : Int) := (Int.toNat_of_nonneg (hT.1 14 (by decide))).symm
  have hlt : q_sd1 M < 2 ^ q_n (M 127) 4 := by
    have h := hT.2.2.1
    rw [s14] at h
    exact_mod_cast h
  have hn7 : q_n (M 127) 4 ≤ 7 := by omega
  have h128 : q_sd1 M < 128 := Nat.lt_of_lt_of_le hlt (Nat.pow_le_pow_right (by decide) hn7 : 2 ^ q_n (M 127) 4 ≤ 2 ^ 7)
  have hS : M 49 2 = (q_sd1 M : Int) := hN.2.2.1.trans s14
  have hc8 : q_cntp (fun k => (q_sd1 M).testBit k) 8 = q_cntp (fun k => (q_sd1 M).testBit k) 7 := q_cnt_n (q_sd1 M) 7 h128 1
  have hbd := q_cnt_bd (fun k => (q_sd1 M).testBit k) 7
  unfold q_thr at hno
  have hi0 : 0 ≤ i := by omega
  have hi7 : i < (q_cntp (fun k => (q_sd1 M).testBit k) 7 : Int) := by omega
  obtain ⟨r, hr, hlw⟩ := q_lw_some (S := q_sd1 M) hi0 7 hi7
  refine zC.of [some (zr 0), some (zi i), none, none] (by decide +kernel) rfl rfl (Nat.le_of_ble_eq_true rfl) rfl ?_
  refine p_iload_n 1 dX11_led_0 rfl rfl ?_
  refine p_if_lt 18 4 dX11_led_1 (by omega) (by omega) (fun h1 => absurd (by omega) (fun h9 : False => h9)) (fun h1 => ?_)
  refine p_iload_n 5 dX11_led_4 rfl rfl ?_
  refine p_aload_n 6 dX11_led_5 rfl rfl (by decide) ?_
  refine p_getR 0 9 dX11_led_6 fX11_33 rfl (hW (0, 8, 49) (by decide)) ?_
  refine p_getI 49 12 dX11_led_9 fX11_223 rfl ?_
  rw [hS]
  refine p_callS1i 15 dX11_led_12 (s_bitCount (S := q_sd1 M) h128) lk_X11_248 mJ6_bitCount_0f7a4 (by decide) (Nat.le_of_ble_eq_true rfl) ?_
  rintro _ _ ⟨rfl, e9⟩
  have e9 := e9.symm
  subst e9
  refine p_icmp_lt 29 18 dX11_led_15 (by omega) (by omega) (by omega) (by omega) (fun h15 => ?_) (fun h15 => absurd (by omega) (fun h9 : False => h9))
  refine p_iload_n 30 dX11_led_29 rfl rfl ?_
  refine p_istore_n 31 dX11_led_30 rfl (Nat.le_of_ble_eq_true rfl) rfl rfl ?_
  dsimp only [List.set]
  refine p_iconst 32 dX11_led_31 ?_
  refine p_istore_n 33 dX11_led_32 rfl (Nat.le_of_ble_eq_true rfl) rfl rfl ?_
  dsimp only [List.set]
  have h := l_ledC (l := l) (X := X) hW hS h128 hi1 hi2 hr hlw (Q := fun r M' => ∃ a, r = some (zi a) ∧ (∃ w : Nat, w < 7 ∧ a = (w : Int) ∧ q_lw (q_sd1 M) i w = true) ∧ M' = M) ⟨_, rfl, ⟨r, hr, rfl, hlw⟩, rfl⟩ r 0 (by omega)
  rw [show i - (q_cntp (fun k => (q_sd1 M).testBit k) 0 : Int) = i by show i - ((0 : Nat) : Int) = i; omega] at h
  exact h
