theorem m_chance {l : Launch} {X : ZX} {M : ZM} (hW : zWm M) (hF : WF M) {w b : Int} (hw1 : -2147483648 ≤ w) (hw2 : w < 2147483648) (hb : b = 0 ∨ b = 1) : zCl l X 2 yX12_chance tX12_chance [zr 124, zi w, zi b] M (MQq M (pa_chance (M 124 14) (M 127) (M 129) w b)) := by
  have hWg : zWm (zset (zset M 124 0 0) 124 11 0) := (hW.set (by decide +kernel)).set (by decide +kernel)
  have hR := hF.r
  have hT := hF.t
  have hh := hF.h
  have e0 : M 127 0 = (q_n (M 127) 0 : Int) := hR.n (by decide)
  have e2 : M 127 2 = (q_n (M 127) 2 : Int) := hR.n (by decide)
  have e3 : M 127 3 = (q_n (M 127) 3 : Int) := hR.n (by decide)
  have e4 : M 127 4 = (q_n (M 127) 4 : Int) := hR.n (by decide)
  have bR := hR.2.1
  have h20 : M 124 14 = 0 → M 127 2 = 0 := fun h => hF.r0 h 2 (by decide)
  have h30 : M 124 14 = 0 → M 127 3 = 0 := fun h => hF.r0 h 3 (by decide)
  have h40 : M 124 14 = 0 → M 127 4 = 0 := fun h => hF.r0 h 4 (by decide)
  have b4 := bR.2.2.2.2.1
  have hp7 := p7 (n := q_n (M 127) 4) (by omega)
  have htl := q_ts_lt (M 127) (M 129)
  have hto7 : q_ts (M 127) (M 129) < 128 := by omega
  have hol := q_odds_le hR (q_ts (M 127) (M 129))
  have hkl := q_cost_le hR 7 (q_ts (M 127) (M 129))
  have hul := q_un_lt (q_n (M 127) 4) (M 129 14).toNat
  have hD7 : (M 129 14).toNat < 2 ^ q_n (M 127) 4 := hT.said2 hR
  have e14 : M 129 14 = ((M 129 14).toNat : Int) := by have := hT.1 14 (by decide); omega
  have t160 := hT.1 16 (by decide)
  have t161 := hT.2.2.2.2.1
  have hG11 : zset (zset M 124 0 0) 124 11 0 124 11 = 0 := rfl
  refine zC.of [some (zr 124), some (zi w), some (zi b)] (by decide +kernel) rfl rfl (Nat.le_of_ble_eq_true rfl) rfl ?_
  refine p_aload_n 1 dX12_chance_0 rfl rfl (by decide) ?_
  refine p_callV0v 124 4 dX12_chance_1 s_good lk_X12_165 mX12_good rfl rfl (by decide) (Nat.le_of_ble_eq_true rfl) ?_
  rintro _ rfl
  refine p_aload_n 5 dX12_chance_4 rfl rfl (by decide) ?_
  refine p_iload_n 6 dX12_chance_5 rfl rfl ?_
  refine p_callV1i 124 9 dX12_chance_6 (s_isWordThere (ρ := M 127) hWg (fun _ _ => rfl) hR (by exact hh) (by omega) (by omega)) lk_X12_312 mX12_isWordThere rfl rfl (by decide) (Nat.le_of_ble_eq_true rfl) ?_
  rintro _ _ ⟨rfl, e9⟩
  have e9 := e9.symm
  subst e9
  refine p_if_ne 19 12 dX12_chance_9 (by split <;> omega) (by split <;> omega) (fun h9 => ?_) (fun h9 => ?_)
  · have h9t : M 124 14 = 1 ∧ 0 ≤ w ∧ w < M 127 4 := if_ne0 h9
    obtain ⟨n, rfl⟩ : ∃ k : Nat, w = (k : Int) := ⟨w.toNat, by omega⟩
    have h1 : M 124 14 = 1 := h9t.1
    have hR1 := hF.r1 h1
    have eo : M 127 (38 + 3 * n) = (q_n (M 127) (38 + 3 * n) : Int) := hR.n (by omega)
    have hbo := (hR.2.2.2.2.1 n (by omega)).1
    have hob := q_odds_le hR (q_un (q_n (M 127) 4) (M 129 14).toNat)
    refine p_aload_n 20 dX12_chance_19 rfl rfl (by decide) ?_
    refine p_getR 124 23 dX12_chance_20 fX12_26 rfl (hWg (124, 17, 129) (by decide)) ?_
    refine p_bipush 25 dX12_chance_23 rfl ?_
    refine p_ialdn 129 26 (16) dX12_chance_25 rfl (by omega) (by omega) ?_
    refine p_if_gt 43 29 dX12_chance_26 (by show _ ≤ M 129 16; omega) (by show M 129 16 < _; omega) (fun h26 => ?_) (fun h26 => ?_)
    · have h26 : 0 < M 129 16 := h26
      have hbt : ¬ (q_ts (M 127) (M 129)).testBit n = true := by rw [q_ts_w h26, Nat.zero_testBit]; decide
      refine p_lconst (z := 0) 44 dX12_chance_43 rfl ?_
      refine p_lconst (z := 1) 45 dX12_chance_44 rfl ?_
      refine p_iload_n 46 dX12_chance_45 rfl rfl ?_
      refine p_callS3l 49 dX12_chance_46 (s_lowest (u := 0) (v := 1) hb (by decide) (by decide) (by decide)) lk_X12_315 mX12_lowest (by decide) (Nat.le_of_ble_eq_true rfl) ?_
      rintro _ _ ⟨rfl, e9⟩
      have e9 := e9.symm
      subst e9
      refine p_goto 71 dX12_chance_49 ?_
      refine p_lret dX12_chance_71 rfl ?_
      refine ⟨_, rfl, MQq.of hid_good hW ?_ ?_⟩ <;> unfold pa_chance <;> rw [if_neg (by omega), Int.toNat_natCast]
      · first | (rw [if_neg hbt]; done) | (rw [if_pos hbt, ← q_ts_un h26]; done)
      · first | (rw [if_neg hbt]; rfl) | (rw [if_pos hbt]; rfl)
    · have h26 : ¬ 0 < M 129 16 := h26
      refine p_aload_n 30 dX12_chance_29 rfl rfl (by decide) ?_
      refine p_getR 124 33 dX12_chance_30 fX12_26 rfl (hWg (124, 17, 129) (by decide)) ?_
      refine p_bipush 35 dX12_chance_33 rfl ?_
      refine p_ialdn 129 36 (14) dX12_chance_35 rfl (by omega) (by omega) ?_
      rw [show zset (zset M 124 0 0) 124 11 0 129 14 = ((M 129 14).toNat : Int) from e14]
      refine p_iload_n 37 dX12_chance_36 rfl rfl ?_
      refine p_callS2i 40 dX12_chance_37 (s_hasBit (S := (M 129 14).toNat) (k := n) (by omega) (by omega)) lk_X12_241 mX12_hasBit (by decide) (Nat.le_of_ble_eq_true rfl) ?_
      rintro _ _ ⟨rfl, e9⟩
      have e9 := e9.symm
      subst e9
      refine p_if_eq 52 43 dX12_chance_40 (by split <;> omega) (by split <;> omega) (fun h40 => ?_) (fun h40 => ?_)
      · have hbu : (q_un (q_n (M 127) 4) (M 129 14).toNat).testBit n = true := by
          rw [q_unb (by omega), Bool.eq_false_iff.mpr (if_eq0 h40), decide_eq_true (by omega)]
          rfl
        have hbt : (q_ts (M 127) (M 129)).testBit n = true := by rw [← q_ts_un h26]; exact hbu
        have hne : (q_un (q_n (M 127) 4) (M 129 14).toNat) ≠ 0 := fun e => by rw [e, Nat.zero_testBit] at hbu; cases hbu
        have hop := q_odds_pos hR hR1 hne hul
        refine p_aload_n 53 dX12_chance_52 rfl rfl (by decide) ?_
        refine p_iload_n 54 dX12_chance_53 rfl rfl ?_
        refine p_callV1i 124 57 dX12_chance_54 (s_oddsOf hWg (fun _ _ => rfl) hR (w := n) (by omega)) lk_X12_309 mX12_oddsOf rfl rfl (by decide) (Nat.le_of_ble_eq_true rfl) ?_
        rintro _ _ ⟨rfl, e9⟩
        have e9 := e9.symm
        subst e9
        rw [eo]
        refine p_i2l 58 dX12_chance_57 ?_
        rw [w32_id (n := ((q_n (M 127) (38 + 3 * n) : Nat) : Int)) (by omega) (by omega)]
        refine p_aload_n 59 dX12_chance_58 rfl rfl (by decide) ?_
        refine p_aload_n 60 dX12_chance_59 rfl rfl (by decide) ?_
        refine p_callV0i 124 63 dX12_chance_60 (s_unsaid hWg (fun _ _ => rfl) hR (τ := M 129) (fun _ _ => rfl) hT) lk_X12_319 mX12_unsaid rfl rfl (by decide) (Nat.le_of_ble_eq_true rfl) ?_
        rintro _ _ ⟨rfl, e9⟩
        have e9 := e9.symm
        subst e9
        refine p_callV1i 124 66 dX12_chance_63 (s_oddsIn hWg (fun _ _ => rfl) hR (S := (q_un (q_n (M 127) 4) (M 129 14).toNat)) (by omega)) lk_X12_322 mX12_oddsIn rfl rfl (by decide) (Nat.le_of_ble_eq_true rfl) ?_
        rintro _ _ ⟨rfl, e9⟩
        have e9 := e9.symm
        subst e9
        refine p_i2l 67 dX12_chance_66 ?_
        rw [w32_id (n := (((q_odds (q_n (M 127)) (q_un (q_n (M 127) 4) (M 129 14).toNat)) : Nat) : Int)) (by omega) (by omega)]
        refine p_iload_n 68 dX12_chance_67 rfl rfl ?_
        refine p_callS3l 71 dX12_chance_68 (s_lowest (u := q_n (M 127) (38 + 3 * n)) (v := (q_odds (q_n (M 127)) (q_un (q_n (M 127) 4) (M 129 14).toNat))) hb (by omega) (by omega) (by omega)) lk_X12_315 mX12_lowest (by decide) (Nat.le_of_ble_eq_true rfl) ?_
        rintro _ _ ⟨rfl, e9⟩
        have e9 := e9.symm
        subst e9
        refine p_lret dX12_chance_71 rfl ?_
        refine ⟨_, rfl, MQq.of hid_good hW ?_ ?_⟩ <;> unfold pa_chance <;> rw [if_neg (by omega), Int.toNat_natCast]
        · first | (rw [if_neg hbt]; done) | (rw [if_pos hbt, ← q_ts_un h26]; done)
        · first | (rw [if_neg hbt]; rfl) | (rw [if_pos hbt]; rfl)
      · have hbt : ¬ (q_ts (M 127) (M 129)).testBit n = true := by
          rw [← q_ts_un h26, q_unb (by omega), if_neq0 h40]
          simp
        refine p_lconst (z := 0) 44 dX12_chance_43 rfl ?_
        refine p_lconst (z := 1) 45 dX12_chance_44 rfl ?_
        refine p_iload_n 46 dX12_chance_45 rfl rfl ?_
        refine p_callS3l 49 dX12_chance_46 (s_lowest (u := 0) (v := 1) hb (by decide) (by decide) (by decide)) lk_X12_315 mX12_lowest (by decide) (Nat.le_of_ble_eq_true rfl) ?_
        rintro _ _ ⟨rfl, e9⟩
        have e9 := e9.symm
        subst e9
        refine p_goto 71 dX12_chance_49 ?_
        refine p_lret dX12_chance_71 rfl ?_
        refine ⟨_, rfl, MQq.of hid_good hW ?_ ?_⟩ <;> unfold pa_chance <;> rw [if_neg (by omega), Int.toNat_natCast]
        · first | (rw [if_neg hbt]; done) | (rw [if_pos hbt, ← q_ts_un h26]; done)
        · first | (rw [if_neg hbt]; rfl) | (rw [if_pos hbt]; rfl)
  · have h9f : ¬ (M 124 14 = 1 ∧ 0 ≤ w ∧ w < M 127 4) := if_nne0 h9
    refine p_aload_n 13 dX12_chance_12 rfl rfl (by decide) ?_
    refine p_iconst 14 dX12_chance_13 ?_
    refine p_callV1i 124 17 dX12_chance_14 s_no lk_X12_168 mX12_no rfl rfl (by decide) (Nat.le_of_ble_eq_true rfl) ?_
    rintro _ _ ⟨rfl, rfl⟩
    refine p_i2l 18 dX12_chance_17 ?_
    refine p_lret dX12_chance_18 rfl ?_
    exact ⟨_, rfl, MQq.of hid_no hW (by unfold pa_chance; (repeat' split) <;> first | rfl | (exfalso; omega)) (by unfold pa_chance; (repeat' split) <;> first | rfl | (exfalso; omega))⟩
theorem m_mean {l : Launch} {X : ZX} {M : ZM} (hW : zWm M) (hF : WF M) {b : Int} (hb : b = 0 ∨ b = 1) : zCl l X 11 yX12_mean tX12_mean [zr 124, zi b] M (MQq M (pa_mean (M 124 14) (M 127) (M 129) b)) := by
  have hWg : zWm (zset (zset M 124 0 0) 124 11 0) := (hW.set (by decide +kernel)).set (by decide +kernel)
  have hR := hF.r
  have hT := hF.t
  have hh := hF.h
  have e0 : M 127 0 = (q_n (M 127) 0 : Int) := hR.n (by decide)
  have e2 : M 127 2 = (q_n (M 127) 2 : Int) := hR.n (by decide)
  have e3 : M 127 3 = (q_n (M 127) 3 : Int) := hR.n (by decide)
  have e4 : M 127 4 = (q_n (M 127) 4 : Int) := hR.n (by decide)
  have bR := hR.2.1
  have h20 : M 124 14 = 0 → M 127 2 = 0 := fun h => hF.r0 h 2 (by decide)
  have h30 : M 124 14 = 0 → M 127 3 = 0 := fun h => hF.r0 h 3 (by decide)
  have h40 : M 124 14 = 0 → M 127 4 = 0 := fun h => hF.r0 h 4 (by decide)
  have b4 := bR.2.2.2.2.1
  have hp7 := p7 (n := q_n (M 127) 4) (by omega)
  have htl := q_ts_lt (M 127) (M 129)
  have hto7 : q_ts (M 127) (M 129) < 128 := by omega
  have hol := q_odds_le hR (q_ts (M 127) (M 129))
  have hkl := q_cost_le hR 7 (q_ts (M 127) (M 129))
  have hul := q_un_lt (q_n (M 127) 4) (M 129 14).toNat
  have hD7 : (M 129 14).toNat < 2 ^ q_n (M 127) 4 := hT.said2 hR
  have e14 : M 129 14 = ((M 129 14).toNat : Int) := by have := hT.1 14 (by decide); omega
  have t160 := hT.1 16 (by decide)
  have t161 := hT.2.2.2.2.1
  have hG11 : zset (zset M 124 0 0) 124 11 0 124 11 = 0 := rfl
  have hob := q_odds_le hR (q_un (q_n (M 127) 4) (M 129 14).toNat)
  have hkb := q_cost_le hR 7 (q_un (q_n (M 127) 4) (M 129 14).toNat)
  refine zC.of [some (zr 124), some (zi b)] (by decide +kernel) rfl rfl (Nat.le_of_ble_eq_true rfl) rfl ?_
  refine p_aload_n 1 dX12_mean_0 rfl rfl (by decide) ?_
  refine p_callV0v 124 4 dX12_mean_1 s_good lk_X12_165 mX12_good rfl rfl (by decide) (Nat.le_of_ble_eq_true rfl) ?_
  rintro _ rfl
  refine p_aload_n 5 dX12_mean_4 rfl rfl (by decide) ?_
  refine p_getI 124 8 dX12_mean_5 fX12_178 rfl ?_
  refine p_if_ne 18 11 dX12_mean_8 (by show _ ≤ M 124 14; omega) (by show M 124 14 < _; omega) (fun h8 => ?_) (fun h8 => ?_)
  · have h8 : ¬ M 124 14 = 0 := h8
    have h1 : M 124 14 = 1 := by omega
    have hR1 := hF.r1 h1
    refine p_aload_n 19 dX12_mean_18 rfl rfl (by decide) ?_
    refine p_callV0i 124 22 dX12_mean_19 (s_isOver hR hR1 hWg (fun _ _ => rfl) (fun _ _ => rfl) hT) lk_X12_339 mX12_isOver rfl rfl (by decide) (Nat.le_of_ble_eq_true rfl) ?_
    rintro _ _ ⟨rfl, e9⟩
    have e9 := e9.symm
    subst e9
    refine p_if_eq 32 25 dX12_mean_22 (by split <;> omega) (by split <;> omega) (fun h22 => ?_) (fun h22 => ?_)
    · have hov : ¬ (0 < M 129 16 ∨ (q_un (q_n (M 127) 4) (M 129 14).toNat) = 0) := if_eq0 h22
      have hun : (q_un (q_n (M 127) 4) (M 129 14).toNat) = (q_ts (M 127) (M 129)) := q_ts_un (by omega)
      have hne : (q_ts (M 127) (M 129)) ≠ 0 := by omega
      have hop := q_odds_pos hR hR1 hne htl
      rw [← hun] at hop
      refine p_aload_n 33 dX12_mean_32 rfl rfl (by decide) ?_
      refine p_callV0v 124 36 dX12_mean_33 (s_seekRows hR hR1 hWg (fun _ _ => rfl) (fun _ _ => rfl) hT) lk_X12_343 mX12_seekRows rfl rfl (by decide) (Nat.le_of_ble_eq_true rfl) ?_
      rintro M9 ⟨hh9, k11, k29, k28, k136⟩
      have hW9 : zWm M9 := hh9.wm hWg
      have hE9 : ∀ i, i < 421 → M9 127 i = M 127 i := fun i _ => hh9.2 127 i (by simp [q_hid]) (by omega) (by omega)
      have hU9 : ∀ i, i < 18 → M9 129 i = M 129 i := fun i _ => hh9.2 129 i (by simp [q_hid]) (by omega) (by omega)
      have hg9 := hid_good.trans hh9
      have k11 : M9 124 11 = 0 := k11
      refine p_aload_n 37 dX12_mean_36 rfl rfl (by decide) ?_
      refine p_getI 124 40 dX12_mean_37 fX12_335 rfl ?_
      rw [k28]
      refine p_i2l 41 dX12_mean_40 ?_
      rw [w32_id (n := ((q_cost (q_n (M 127)) 7 (q_un (q_n (M 127) 4) (M 129 14).toNat) : Nat) : Int)) (by omega) (by omega)]
      refine p_aload_n 42 dX12_mean_41 rfl rfl (by decide) ?_
      refine p_aload_n 43 dX12_mean_42 rfl rfl (by decide) ?_
      refine p_callV0i 124 46 dX12_mean_43 (s_unsaid hW9 hE9 hR hU9 hT) lk_X12_319 mX12_unsaid rfl rfl (by decide) (Nat.le_of_ble_eq_true rfl) ?_
      rintro _ _ ⟨rfl, e9⟩
      have e9 := e9.symm
      subst e9
      refine p_callV1i 124 49 dX12_mean_46 (s_oddsIn hW9 hE9 hR (S := (q_un (q_n (M 127) 4) (M 129 14).toNat)) (by omega)) lk_X12_322 mX12_oddsIn rfl rfl (by decide) (Nat.le_of_ble_eq_true rfl) ?_
      rintro _ _ ⟨rfl, e9⟩
      have e9 := e9.symm
      subst e9
      refine p_i2l 50 dX12_mean_49 ?_
      rw [w32_id (n := (((q_odds (q_n (M 127)) (q_un (q_n (M 127) 4) (M 129 14).toNat)) : Nat) : Int)) (by omega) (by omega)]
      refine p_iload_n 51 dX12_mean_50 rfl rfl ?_
      refine p_callS3l 54 dX12_mean_51 (s_lowest (u := q_cost (q_n (M 127)) 7 (q_un (q_n (M 127) 4) (M 129 14).toNat)) (v := (q_odds (q_n (M 127)) (q_un (q_n (M 127) 4) (M 129 14).toNat))) hb (by omega) (by omega) (by omega)) lk_X12_315 mX12_lowest (by decide) (Nat.le_of_ble_eq_true rfl) ?_
      rintro _ _ ⟨rfl, e9⟩
      have e9 := e9.symm
      subst e9
      refine p_lret dX12_mean_54 rfl ?_
      refine ⟨_, rfl, MQq.of hg9 hW ?_ ?_⟩ <;> unfold pa_mean <;> rw [if_neg (by omega), if_neg hne]
      · rw [hun]
      · exact k11
    · have hov : 0 < M 129 16 ∨ (q_un (q_n (M 127) 4) (M 129 14).toNat) = 0 := if_neq0 h22
      have hts : (q_ts (M 127) (M 129)) = 0 := by
        unfold q_ts
        split <;> omega
      refine p_lconst (z := 0) 26 dX12_mean_25 rfl ?_
      refine p_lconst (z := 1) 27 dX12_mean_26 rfl ?_
      refine p_iload_n 28 dX12_mean_27 rfl rfl ?_
      refine p_callS3l 31 dX12_mean_28 (s_lowest (u := 0) (v := 1) hb (by decide) (by decide) (by decide)) lk_X12_315 mX12_lowest (by decide) (Nat.le_of_ble_eq_true rfl) ?_
      rintro _ _ ⟨rfl, e9⟩
      have e9 := e9.symm
      subst e9
      refine p_lret dX12_mean_31 rfl ?_
      refine ⟨_, rfl, MQq.of hid_good hW ?_ ?_⟩ <;> unfold pa_mean <;> rw [if_neg (by omega), if_pos hts]
      rfl
  · have h8 : ¬ M 124 14 ≠ 0 := h8
    refine p_aload_n 12 dX12_mean_11 rfl rfl (by decide) ?_
    refine p_iconst 13 dX12_mean_12 ?_
    refine p_callV1i 124 16 dX12_mean_13 s_no lk_X12_168 mX12_no rfl rfl (by decide) (Nat.le_of_ble_eq_true rfl) ?_
    rintro _ _ ⟨rfl, rfl⟩
    refine p_i2l 17 dX12_mean_16 ?_
    refine p_lret dX12_mean_17 rfl ?_
    exact ⟨_, rfl, MQq.of hid_no hW (by unfold pa_mean; (repeat' split) <;> first | rfl | (exfalso; omega)) (by unfold pa_mean; (repeat' split) <;> first | rfl | (exfalso; omega))⟩
theorem m_searchAt {l : Launch} {X : ZX} {M : ZM} (hW : zWm M) (hF : WF M) {v : Int} (hv1 : -2147483648 ≤ v) (hv2 : v < 2147483648) : zCi l X 11 yX12_searchAt tX12_searchAt [zr 124, zi v] M (MQq M (pa_searchAt (M 124 14) (M 127) (M 129) v)) := by
  have hWg : zWm (zset (zset M 124 0 0) 124 11 0) := (hW.set (by decide +kernel)).set (by decide +kernel)
  have hR := hF.r
  have hT := hF.t
  have hh := hF.h
  have e0 : M 127 0 = (q_n (M 127) 0 : Int) := hR.n (by decide)
  have e2 : M 127 2 = (q_n (M 127) 2 : Int) := hR.n (by decide)
  have e3 : M 127 3 = (q_n (M 127) 3 : Int) := hR.n (by decide)
  have e4 : M 127 4 = (q_n (M 127) 4 : Int) := hR.n (by decide)
  have bR := hR.2.1
  have h20 : M 124 14 = 0 → M 127 2 = 0 := fun h => hF.r0 h 2 (by decide)
  have h30 : M 124 14 = 0 → M 127 3 = 0 := fun h => hF.r0 h 3 (by decide)
  have h40 : M 124 14 = 0 → M 127 4 = 0 := fun h => hF.r0 h 4 (by decide)
  have b4 := bR.2.2.2.2.1
  have hp7 := p7 (n := q_n (M 127) 4) (by omega)
  have htl := q_ts_lt (M 127) (M 129)
  have hto7 : q_ts (M 127) (M 129) < 128 := by omega
  have hol := q_odds_le hR (q_ts (M 127) (M 129))
  have hkl := q_cost_le hR 7 (q_ts (M 127) (M 129))
  have hul := q_un_lt (q_n (M 127) 4) (M 129 14).toNat
  have hD7 : (M 129 14).toNat < 2 ^ q_n (M 127) 4 := hT.said2 hR
  have e14 : M 129 14 = ((M 129 14).toNat : Int) := by have := hT.1 14 (by decide); omega
  have t160 := hT.1 16 (by decide)
  have t161 := hT.2.2.2.2.1
  have hG11 : zset (zset M 124 0 0) 124 11 0 124 11 = 0 := rfl
  have hc7 := q_c7_le (q_un (q_n (M 127) 4) (M 129 14).toNat)
  have hc7t := q_c7_le (q_ts (M 127) (M 129))
  refine zC.of [some (zr 124), some (zi v)] (by decide +kernel) rfl rfl (Nat.le_of_ble_eq_true rfl) rfl ?_
  refine p_aload_n 1 dX12_searchAt_0 rfl rfl (by decide) ?_
  refine p_callV0v 124 4 dX12_searchAt_1 s_good lk_X12_165 mX12_good rfl rfl (by decide) (Nat.le_of_ble_eq_true rfl) ?_
  rintro _ rfl
  refine p_aload_n 5 dX12_searchAt_4 rfl rfl (by decide) ?_
  refine p_getI 124 8 dX12_searchAt_5 fX12_178 rfl ?_
  refine p_if_eq 35 11 dX12_searchAt_8 (by show _ ≤ M 124 14; omega) (by show M 124 14 < _; omega) (fun h8 => ?_) (fun h8 => ?_)
  · have h8 : M 124 14 = 0 := h8
    refine p_aload_n 36 dX12_searchAt_35 rfl rfl (by decide) ?_
    refine p_iconst 37 dX12_searchAt_36 ?_
    refine p_callV1i 124 40 dX12_searchAt_37 s_no lk_X12_168 mX12_no rfl rfl (by decide) (Nat.le_of_ble_eq_true rfl) ?_
    rintro _ _ ⟨rfl, rfl⟩
    refine p_iret dX12_searchAt_40 rfl ?_
    exact ⟨_, rfl, MQq.of hid_no hW (by unfold pa_searchAt; rw [if_pos (by omega)]) (by unfold pa_searchAt; rw [if_pos (by omega)]; rfl)⟩
  · have h8 : ¬ M 124 14 = 0 := h8
    have h1 : M 124 14 = 1 := by omega
    have hR1 := hF.r1 h1
    refine p_aload_n 12 dX12_searchAt_11 rfl rfl (by decide) ?_
    refine p_callV0i 124 15 dX12_searchAt_12 (s_isOver hR hR1 hWg (fun _ _ => rfl) (fun _ _ => rfl) hT) lk_X12_339 mX12_isOver rfl rfl (by decide) (Nat.le_of_ble_eq_true rfl) ?_
    rintro _ _ ⟨rfl, e9⟩
    have e9 := e9.symm
    subst e9
    refine p_if_ne 35 18 dX12_searchAt_15 (by split <;> omega) (by split <;> omega) (fun h15 => ?_) (fun h15 => ?_)
    · have hov : 0 < M 129 16 ∨ (q_un (q_n (M 127) 4) (M 129 14).toNat) = 0 := if_ne0 h15
      have hts : (q_ts (M 127) (M 129)) = 0 := by
        unfold q_ts
        split <;> omega
      have hz7 : q_c7 (q_ts (M 127) (M 129)) = 0 := by rw [hts]; decide
      refine p_aload_n 36 dX12_searchAt_35 rfl rfl (by decide) ?_
      refine p_iconst 37 dX12_searchAt_36 ?_
      refine p_callV1i 124 40 dX12_searchAt_37 s_no lk_X12_168 mX12_no rfl rfl (by decide) (Nat.le_of_ble_eq_true rfl) ?_
      rintro _ _ ⟨rfl, rfl⟩
      refine p_iret dX12_searchAt_40 rfl ?_
      exact ⟨_, rfl, MQq.of hid_no hW (by unfold pa_searchAt; rw [if_pos (by omega)]) (by unfold pa_searchAt; rw [if_pos (by omega)]; rfl)⟩
    · have hov : ¬ (0 < M 129 16 ∨ (q_un (q_n (M 127) 4) (M 129 14).toNat) = 0) := if_nne0 h15
      have hun : (q_un (q_n (M 127) 4) (M 129 14).toNat) = (q_ts (M 127) (M 129)) := q_ts_un (by omega)
      refine p_iload_n 19 dX12_searchAt_18 rfl rfl ?_
      refine p_iconst 20 dX12_searchAt_19 ?_
      refine p_aload_n 21 dX12_searchAt_20 rfl rfl (by decide) ?_
      refine p_callV0i 124 24 dX12_searchAt_21 (s_unsaid hWg (fun _ _ => rfl) hR (τ := M 129) (fun _ _ => rfl) hT) lk_X12_319 mX12_unsaid rfl rfl (by decide) (Nat.le_of_ble_eq_true rfl) ?_
      rintro _ _ ⟨rfl, e9⟩
      have e9 := e9.symm
      subst e9
      refine p_callS1i 27 dX12_searchAt_24 (s_ones (S := (q_un (q_n (M 127) 4) (M 129 14).toNat)) (by omega)) lk_X12_287 mX12_ones (by decide) (Nat.le_of_ble_eq_true rfl) ?_
      rintro _ _ ⟨rfl, e9⟩
      have e9 := e9.symm
      subst e9
      rw [q_c8 (by omega)]
      refine p_iconst 28 dX12_searchAt_27 ?_
      refine p_isub 29 dX12_searchAt_28 ?_
      refine p_callS3i 32 dX12_searchAt_29 (s_in (by omega) (by omega) (by omega) (by omega) (by omega) (by omega)) lk_X12_146 mX12_in (by decide) (Nat.le_of_ble_eq_true rfl) ?_
      rintro _ _ ⟨rfl, e9⟩
      have e9 := e9.symm
      subst e9
      refine p_if_ne 41 35 dX12_searchAt_32 (by split <;> omega) (by split <;> omega) (fun h32 => ?_) (fun h32 => ?_)
      · have h32 := if_ne0 h32
        rw [hun] at h32
        obtain ⟨n, rfl⟩ : ∃ k : Nat, v = (k : Int) := ⟨v.toNat, by omega⟩
        have hc9 : n < q_c7 (q_un (q_n (M 127) 4) (M 129 14).toNat) := by rw [hun]; omega
        refine p_aload_n 42 dX12_searchAt_41 rfl rfl (by decide) ?_
        refine p_callV0v 124 45 dX12_searchAt_42 (s_seekRows hR hR1 hWg (fun _ _ => rfl) (fun _ _ => rfl) hT) lk_X12_343 mX12_seekRows rfl rfl (by decide) (Nat.le_of_ble_eq_true rfl) ?_
        rintro M9 ⟨hh9, k11, k29, k28, k136⟩
        have hW9 : zWm M9 := hh9.wm hWg
        have hE9 : ∀ i, i < 421 → M9 127 i = M 127 i := fun i _ => hh9.2 127 i (by simp [q_hid]) (by omega) (by omega)
        have hU9 : ∀ i, i < 18 → M9 129 i = M 129 i := fun i _ => hh9.2 129 i (by simp [q_hid]) (by omega) (by omega)
        have hg9 := hid_good.trans hh9
        have k11 : M9 124 11 = 0 := k11
        refine p_aload_n 46 dX12_searchAt_45 rfl rfl (by decide) ?_
        refine p_getR 124 49 dX12_searchAt_46 fX12_47 rfl (hWg (124, 27, 136) (by decide)) ?_
        refine p_iload_n 50 dX12_searchAt_49 rfl rfl ?_
        skip
        refine p_ialdn 136 51 (n) dX12_searchAt_50 rfl (by omega) (by omega) ?_
        rw [k136 n (by omega)]
        refine p_iret dX12_searchAt_51 rfl ?_
        refine ⟨_, rfl, MQq.of hg9 hW ?_ ?_⟩ <;> unfold pa_searchAt <;> rw [if_neg (by omega)]
        · rw [hun, Int.toNat_natCast]
        · exact k11
      · have h32 := if_nne0 h32
        rw [hun] at h32
        refine p_aload_n 36 dX12_searchAt_35 rfl rfl (by decide) ?_
        refine p_iconst 37 dX12_searchAt_36 ?_
        refine p_callV1i 124 40 dX12_searchAt_37 s_no lk_X12_168 mX12_no rfl rfl (by decide) (Nat.le_of_ble_eq_true rfl) ?_
        rintro _ _ ⟨rfl, rfl⟩
        refine p_iret dX12_searchAt_40 rfl ?_
        exact ⟨_, rfl, MQq.of hid_no hW (by unfold pa_searchAt; rw [if_pos (by omega)]) (by unfold pa_searchAt; rw [if_pos (by omega)]; rfl)⟩
