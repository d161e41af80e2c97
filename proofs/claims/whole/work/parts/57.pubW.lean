theorem m_winters {l : Launch} {X : ZX} {M : ZM} (hW : zWm M) (hF : WF M) {v : Int} (hv1 : -2147483648 ≤ v) (hv2 : v < 2147483648) {n : Int} (hn1 : -2147483648 ≤ n) (hn2 : n < 2147483648) : zCi l X 14 yX12_winters tX12_winters [zr 124, zi v, zi n] M (MQq M (pa_winters (M 124 14) (M 127) (M 129) v n)) := by
  have hWg : zWm (zset (zset M 124 0 0) 124 11 0) := (hW.set (by decide +kernel)).set (by decide +kernel)
  have hR := hF.r
  have hT := hF.t
  have hh := hF.h
  have e0 : M 127 0 = (q_n (M 127) 0 : Int) := hR.n (by decide)
  have e2 : M 127 2 = (q_n (M 127) 2 : Int) := hR.n (by decide)
  have e3 : M 127 3 = (q_n (M 127) 3 : Int) := hR.n (by decide)
  have e4 : M 127 4 = (q_n (M 127) 4 : Int) := hR.n (by decide)
  have bR := hR.2.1
  have h20 : M 124 14 = 0 → M 127 2 = 0 := fun h => hF.r0 h 2 (by decide)
  have h30 : M 124 14 = 0 → M 127 3 = 0 := fun h => hF.r0 h 3 (by decide)
  have h40 : M 124 14 = 0 → M 127 4 = 0 := fun h => hF.r0 h 4 (by decide)
  refine zC.of [some (zr 124), some (zi v), some (zi n), none] (by decide +kernel) rfl rfl (Nat.le_of_ble_eq_true rfl) rfl ?_
  refine p_aload_n 1 dX12_winters_0 rfl rfl (by decide) ?_
  refine p_callV0v 124 4 dX12_winters_1 s_good lk_X12_165 mX12_good rfl rfl (by omega) (Nat.le_of_ble_eq_true rfl) ?_
  rintro _ rfl
  refine p_aload_n 5 dX12_winters_4 rfl rfl (by decide) ?_
  refine p_aload_n 6 dX12_winters_5 rfl rfl (by decide) ?_
  refine p_getI 124 9 dX12_winters_6 fX12_178 rfl ?_
  rw [show (zset (zset M 124 0 0) 124 11 0) 124 14 = M 124 14 from rfl]
  refine p_iconst 10 dX12_winters_9 ?_
  refine p_iload_n 11 dX12_winters_10 rfl rfl ?_
  refine p_iload_n 12 dX12_winters_11 rfl rfl ?_
  refine p_callV4i 124 15 dX12_winters_12 (s_winterWhy (ρ := M 127) hR (τ := M 129) hT hWg (fun _ _ => rfl) (fun _ _ => rfl) (b := M 124 14) (m := (0 : Int)) (v := v) (n := n) hh (fun g => hF.r1 g) (by omega) (by omega) hv1 hv2 hn1 hn2) lk_X12_427 mX12_winterWhy rfl rfl (by omega) (Nat.le_of_ble_eq_true rfl) ?_
  intro y9 M9 h9
  obtain ⟨ey, ew1, ew2⟩ := h9
  have hy9 : (M 124 14 = 0 ∧ y9 = 1) ∨ (M 124 14 = 1 ∧ ¬ (0 ≤ v ∧ v ≤ 65536 ∧ 0 ≤ n ∧ n ≤ 90) ∧ y9 = 2) ∨ (M 124 14 = 1 ∧ (0 ≤ v ∧ v ≤ 65536 ∧ 0 ≤ n ∧ n ≤ 90) ∧ y9 = 0) := by
    by_cases g1 : M 124 14 = 0
    · rw [if_pos g1] at ey
      omega
    · by_cases g2 : (0 ≤ (0 : Int) ∧ (0 : Int) ≤ 9999) ∧ 0 ≤ v ∧ v ≤ 65536 ∧ 0 ≤ n ∧ n ≤ 90
      · rw [if_neg g1, if_pos g2] at ey
        omega
      · rw [if_neg g1, if_neg g2] at ey
        omega
  have hW9 : zWm M9 := by
    by_cases g : y9 = 0
    · exact (ew2 g).1.wm hWg
    · rw [ew1 g]; exact hWg
  refine p_istore_n 16 dX12_winters_15 rfl (Nat.le_of_ble_eq_true rfl) rfl rfl ?_
  dsimp only [List.set]
  refine p_iload_n 17 dX12_winters_16 rfl rfl ?_
  refine p_if_eq 28 20 dX12_winters_17 (by omega) (by omega) (fun h17 => ?_) (fun h17 => ?_)
  · refine p_aload_n 29 dX12_winters_28 rfl rfl (by decide) ?_
    refine p_getI 124 32 dX12_winters_29 fX12_420 rfl ?_
    refine p_iret dX12_winters_32 rfl ?_
    have hD := ew2 h17
    obtain ⟨k1, k11, k133, k36, k37, k137⟩ := hD
    refine ⟨_, rfl, MQq.of (hid_good.trans k1) hW ?_ ?_⟩ <;> unfold pa_winters <;> rw [if_neg (by omega), if_pos (by omega)]
    · exact k36
    · exact k11
  · refine p_aload_n 21 dX12_winters_20 rfl rfl (by decide) ?_
    refine p_iload_n 22 dX12_winters_21 rfl rfl ?_
    refine p_callV1i 124 25 dX12_winters_22 s_no lk_X12_168 mX12_no rfl rfl (by decide) (Nat.le_of_ble_eq_true rfl) ?_
    rintro _ _ ⟨rfl, rfl⟩
    refine p_goto 32 dX12_winters_25 ?_
    refine p_iret dX12_winters_32 rfl ?_
    have e9 := ew1 h17
    subst e9
    rcases hy9 with ⟨g1, g2⟩ | ⟨g1, g2, g3⟩ | ⟨g1, g2, g3⟩
    · subst g2
      exact ⟨_, rfl, MQq.of hid_no hW (by unfold pa_winters; rw [if_pos (by omega)]) (by unfold pa_winters; rw [if_pos (by omega)]; rfl)⟩
    · subst g3
      exact ⟨_, rfl, MQq.of hid_no hW (by unfold pa_winters; rw [if_neg (by omega), if_neg (by omega)]) (by unfold pa_winters; rw [if_neg (by omega), if_neg (by omega)]; rfl)⟩
    · exact absurd g3 h17
theorem m_above {l : Launch} {X : ZX} {M : ZM} (hW : zWm M) (hF : WF M) {m : Int} (hm1 : -2147483648 ≤ m) (hm2 : m < 2147483648) {v : Int} (hv1 : -2147483648 ≤ v) (hv2 : v < 2147483648) {n : Int} (hn1 : -2147483648 ≤ n) (hn2 : n < 2147483648) : zCi l X 14 yX12_above tX12_above [zr 124, zi m, zi v, zi n] M (MQq M (pa_above (M 124 14) (M 127) (M 129) m v n)) := by
  have hWg : zWm (zset (zset M 124 0 0) 124 11 0) := (hW.set (by decide +kernel)).set (by decide +kernel)
  have hR := hF.r
  have hT := hF.t
  have hh := hF.h
  have e0 : M 127 0 = (q_n (M 127) 0 : Int) := hR.n (by decide)
  have e2 : M 127 2 = (q_n (M 127) 2 : Int) := hR.n (by decide)
  have e3 : M 127 3 = (q_n (M 127) 3 : Int) := hR.n (by decide)
  have e4 : M 127 4 = (q_n (M 127) 4 : Int) := hR.n (by decide)
  have bR := hR.2.1
  have h20 : M 124 14 = 0 → M 127 2 = 0 := fun h => hF.r0 h 2 (by decide)
  have h30 : M 124 14 = 0 → M 127 3 = 0 := fun h => hF.r0 h 3 (by decide)
  have h40 : M 124 14 = 0 → M 127 4 = 0 := fun h => hF.r0 h 4 (by decide)
  refine zC.of [some (zr 124), some (zi m), some (zi v), some (zi n), none] (by decide +kernel) rfl rfl (Nat.le_of_ble_eq_true rfl) rfl ?_
  refine p_aload_n 1 dX12_above_0 rfl rfl (by decide) ?_
  refine p_callV0v 124 4 dX12_above_1 s_good lk_X12_165 mX12_good rfl rfl (by omega) (Nat.le_of_ble_eq_true rfl) ?_
  rintro _ rfl
  refine p_aload_n 5 dX12_above_4 rfl rfl (by decide) ?_
  refine p_aload_n 6 dX12_above_5 rfl rfl (by decide) ?_
  refine p_getI 124 9 dX12_above_6 fX12_178 rfl ?_
  rw [show (zset (zset M 124 0 0) 124 11 0) 124 14 = M 124 14 from rfl]
  refine p_iload_n 10 dX12_above_9 rfl rfl ?_
  refine p_iload_n 11 dX12_above_10 rfl rfl ?_
  refine p_iload_n 12 dX12_above_11 rfl rfl ?_
  refine p_callV4i 124 15 dX12_above_12 (s_winterWhy (ρ := M 127) hR (τ := M 129) hT hWg (fun _ _ => rfl) (fun _ _ => rfl) (b := M 124 14) (m := m) (v := v) (n := n) hh (fun g => hF.r1 g) (by omega) (by omega) hv1 hv2 hn1 hn2) lk_X12_427 mX12_winterWhy rfl rfl (by omega) (Nat.le_of_ble_eq_true rfl) ?_
  intro y9 M9 h9
  obtain ⟨ey, ew1, ew2⟩ := h9
  have hy9 : (M 124 14 = 0 ∧ y9 = 1) ∨ (M 124 14 = 1 ∧ ¬ ((0 ≤ m ∧ m ≤ 9999) ∧ 0 ≤ v ∧ v ≤ 65536 ∧ 0 ≤ n ∧ n ≤ 90) ∧ y9 = 2) ∨ (M 124 14 = 1 ∧ ((0 ≤ m ∧ m ≤ 9999) ∧ 0 ≤ v ∧ v ≤ 65536 ∧ 0 ≤ n ∧ n ≤ 90) ∧ y9 = 0) := by
    by_cases g1 : M 124 14 = 0
    · rw [if_pos g1] at ey
      omega
    · by_cases g2 : (0 ≤ m ∧ m ≤ 9999) ∧ 0 ≤ v ∧ v ≤ 65536 ∧ 0 ≤ n ∧ n ≤ 90
      · rw [if_neg g1, if_pos g2] at ey
        omega
      · rw [if_neg g1, if_neg g2] at ey
        omega
  have hW9 : zWm M9 := by
    by_cases g : y9 = 0
    · exact (ew2 g).1.wm hWg
    · rw [ew1 g]; exact hWg
  refine p_istore 17 dX12_above_15 (Nat.le_of_ble_eq_true rfl) rfl rfl ?_
  dsimp only [List.set]
  refine p_iload 19 dX12_above_17 rfl ?_
  refine p_if_eq 31 22 dX12_above_19 (by omega) (by omega) (fun h19 => ?_) (fun h19 => ?_)
  · refine p_aload_n 32 dX12_above_31 rfl rfl (by decide) ?_
    refine p_getI 124 35 dX12_above_32 fX12_423 rfl ?_
    refine p_iret dX12_above_35 rfl ?_
    have hD := ew2 h19
    obtain ⟨k1, k11, k133, k36, k37, k137⟩ := hD
    refine ⟨_, rfl, MQq.of (hid_good.trans k1) hW ?_ ?_⟩ <;> unfold pa_above <;> rw [if_neg (by omega), if_pos (by omega)]
    · exact k37
    · exact k11
  · refine p_aload_n 23 dX12_above_22 rfl rfl (by decide) ?_
    refine p_iload 25 dX12_above_23 rfl ?_
    refine p_callV1i 124 28 dX12_above_25 s_no lk_X12_168 mX12_no rfl rfl (by decide) (Nat.le_of_ble_eq_true rfl) ?_
    rintro _ _ ⟨rfl, rfl⟩
    refine p_goto 35 dX12_above_28 ?_
    refine p_iret dX12_above_35 rfl ?_
    have e9 := ew1 h19
    subst e9
    rcases hy9 with ⟨g1, g2⟩ | ⟨g1, g2, g3⟩ | ⟨g1, g2, g3⟩
    · subst g2
      exact ⟨_, rfl, MQq.of hid_no hW (by unfold pa_above; rw [if_pos (by omega)]) (by unfold pa_above; rw [if_pos (by omega)]; rfl)⟩
    · subst g3
      exact ⟨_, rfl, MQq.of hid_no hW (by unfold pa_above; rw [if_neg (by omega), if_neg (by omega)]) (by unfold pa_above; rw [if_neg (by omega), if_neg (by omega)]; rfl)⟩
    · exact absurd g3 h19
theorem m_wintersOf {l : Launch} {X : ZX} {M : ZM} (hW : zWm M) (hF : WF M) {s : Int} (hs1 : -2147483648 ≤ s) (hs2 : s < 2147483648) {v : Int} (hv1 : -2147483648 ≤ v) (hv2 : v < 2147483648) {n : Int} (hn1 : -2147483648 ≤ n) (hn2 : n < 2147483648) : zCi l X 14 yX12_wintersOf tX12_wintersOf [zr 124, zi s, zi v, zi n] M (MQq M (pa_wintersOf (M 124 14) (M 127) (M 129) s v n)) := by
  have hWg : zWm (zset (zset M 124 0 0) 124 11 0) := (hW.set (by decide +kernel)).set (by decide +kernel)
  have hR := hF.r
  have hT := hF.t
  have hh := hF.h
  have e0 : M 127 0 = (q_n (M 127) 0 : Int) := hR.n (by decide)
  have e2 : M 127 2 = (q_n (M 127) 2 : Int) := hR.n (by decide)
  have e3 : M 127 3 = (q_n (M 127) 3 : Int) := hR.n (by decide)
  have e4 : M 127 4 = (q_n (M 127) 4 : Int) := hR.n (by decide)
  have bR := hR.2.1
  have h20 : M 124 14 = 0 → M 127 2 = 0 := fun h => hF.r0 h 2 (by decide)
  have h30 : M 124 14 = 0 → M 127 3 = 0 := fun h => hF.r0 h 3 (by decide)
  have h40 : M 124 14 = 0 → M 127 4 = 0 := fun h => hF.r0 h 4 (by decide)
  have b2 := bR.2.2.1
  refine zC.of [some (zr 124), some (zi s), some (zi v), some (zi n), none] (by decide +kernel) rfl rfl (Nat.le_of_ble_eq_true rfl) rfl ?_
  refine p_aload_n 1 dX12_wintersOf_0 rfl rfl (by decide) ?_
  refine p_callV0v 124 4 dX12_wintersOf_1 s_good lk_X12_165 mX12_good rfl rfl (by omega) (Nat.le_of_ble_eq_true rfl) ?_
  rintro _ rfl
  refine p_aload_n 5 dX12_wintersOf_4 rfl rfl (by decide) ?_
  refine p_aload_n 6 dX12_wintersOf_5 rfl rfl (by decide) ?_
  refine p_iload_n 7 dX12_wintersOf_6 rfl rfl ?_
  refine p_callV1i 124 10 dX12_wintersOf_7 (s_isSleeper (ρ := M 127) hWg (fun _ _ => rfl) hR (by exact hh) (by omega) (by omega)) lk_X12_275 mX12_isSleeper rfl rfl (by omega) (Nat.le_of_ble_eq_true rfl) ?_
  rintro _ _ ⟨rfl, e9⟩
  have e9 := e9.symm
  subst e9
  rw [show (if (zset (zset M 124 0 0) 124 11 0) 124 14 = 1 ∧ 0 ≤ s ∧ s < M 127 2 then (1 : Int) else 0) = (if M 124 14 = 1 ∧ 0 ≤ s ∧ s < M 127 2 then (1 : Int) else 0) from rfl]
  refine p_iconst 11 dX12_wintersOf_10 ?_
  refine p_iload_n 12 dX12_wintersOf_11 rfl rfl ?_
  refine p_iload_n 13 dX12_wintersOf_12 rfl rfl ?_
  refine p_callV4i 124 16 dX12_wintersOf_13 (s_winterWhy (ρ := M 127) hR (τ := M 129) hT hWg (fun _ _ => rfl) (fun _ _ => rfl) (b := (if M 124 14 = 1 ∧ 0 ≤ s ∧ s < M 127 2 then (1 : Int) else 0)) (m := (0 : Int)) (v := v) (n := n) (by split <;> omega) (fun g => hF.r1 (by split at g <;> omega)) (by omega) (by omega) hv1 hv2 hn1 hn2) lk_X12_427 mX12_winterWhy rfl rfl (by omega) (Nat.le_of_ble_eq_true rfl) ?_
  intro y9 M9 h9
  obtain ⟨ey, ew1, ew2⟩ := h9
  have hy9 : ((M 124 14 = 0 ∨ s < 0 ∨ M 127 2 ≤ s) ∧ y9 = 1) ∨ ((M 124 14 = 1 ∧ 0 ≤ s ∧ s < M 127 2) ∧ ¬ (0 ≤ v ∧ v ≤ 65536 ∧ 0 ≤ n ∧ n ≤ 90) ∧ y9 = 2) ∨ ((M 124 14 = 1 ∧ 0 ≤ s ∧ s < M 127 2) ∧ (0 ≤ v ∧ v ≤ 65536 ∧ 0 ≤ n ∧ n ≤ 90) ∧ y9 = 0) := by
    by_cases g1 : (if M 124 14 = 1 ∧ 0 ≤ s ∧ s < M 127 2 then (1 : Int) else 0) = 0
    · rw [if_pos g1] at ey
      have g1 := if_eq0 g1
      omega
    · by_cases g2 : (0 ≤ (0 : Int) ∧ (0 : Int) ≤ 9999) ∧ 0 ≤ v ∧ v ≤ 65536 ∧ 0 ≤ n ∧ n ≤ 90
      · rw [if_neg g1, if_pos g2] at ey
        have g1 := if_neq0 g1
        omega
      · rw [if_neg g1, if_neg g2] at ey
        have g1 := if_neq0 g1
        omega
  have hW9 : zWm M9 := by
    by_cases g : y9 = 0
    · exact (ew2 g).1.wm hWg
    · rw [ew1 g]; exact hWg
  refine p_istore 18 dX12_wintersOf_16 (Nat.le_of_ble_eq_true rfl) rfl rfl ?_
  dsimp only [List.set]
  refine p_iload 20 dX12_wintersOf_18 rfl ?_
  refine p_if_eq 32 23 dX12_wintersOf_20 (by omega) (by omega) (fun h20 => ?_) (fun h20 => ?_)
  · refine p_aload_n 33 dX12_wintersOf_32 rfl rfl (by decide) ?_
    refine p_getR 124 36 dX12_wintersOf_33 fX12_50 rfl (hW9 (124, 35, 137) (by decide +kernel)) ?_
    refine p_iload_n 37 dX12_wintersOf_36 rfl rfl ?_
    refine p_ialdn 137 38 (s.toNat) dX12_wintersOf_37 rfl (by omega) (by omega) ?_
    refine p_iret dX12_wintersOf_38 rfl ?_
    have hD := ew2 h20
    obtain ⟨k1, k11, k133, k36, k37, k137⟩ := hD
    refine ⟨_, rfl, MQq.of (hid_good.trans k1) hW ?_ ?_⟩ <;> unfold pa_wintersOf <;> rw [if_neg (by omega), if_pos (by omega)]
    · rw [k137 s.toNat (by omega)]
    · exact k11
  · refine p_aload_n 24 dX12_wintersOf_23 rfl rfl (by decide) ?_
    refine p_iload 26 dX12_wintersOf_24 rfl ?_
    refine p_callV1i 124 29 dX12_wintersOf_26 s_no lk_X12_168 mX12_no rfl rfl (by decide) (Nat.le_of_ble_eq_true rfl) ?_
    rintro _ _ ⟨rfl, rfl⟩
    refine p_goto 38 dX12_wintersOf_29 ?_
    refine p_iret dX12_wintersOf_38 rfl ?_
    have e9 := ew1 h20
    subst e9
    rcases hy9 with ⟨g1, g2⟩ | ⟨g1, g2, g3⟩ | ⟨g1, g2, g3⟩
    · subst g2
      exact ⟨_, rfl, MQq.of hid_no hW (by unfold pa_wintersOf; rw [if_pos (by omega)]) (by unfold pa_wintersOf; rw [if_pos (by omega)]; rfl)⟩
    · subst g3
      exact ⟨_, rfl, MQq.of hid_no hW (by unfold pa_wintersOf; rw [if_neg (by omega), if_neg (by omega)]) (by unfold pa_wintersOf; rw [if_neg (by omega), if_neg (by omega)]; rfl)⟩
    · exact absurd g3 h20
