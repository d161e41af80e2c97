theorem m_chance {l : Launch} {X : ZX} {M : ZM} (hW : zWm M) (hF : WF M) {w b : Int} (hw1 : -2147483648 ≤ w) (hw2 : w < 2147483648) (hb : b = 0 ∨ b = 1) : zCl l X 2 yX12_chance tX12_chance [zr 124, zi w, zi b] M (MQq M (pa_chance (M 124 14) (M 127) (M 129) w b)) := by
  have hWg : zWm (zset (zset M 124 0 0) 124 11 0) := (hW.set (by decide +kernel)).set (by decide +kernel)
  have hR := hF.r
  have hT := hF.t
  have hh := hF.h
  have e0 : M 127 0 = (q_n (M 127) 0 : Int) := hR.n (by decide)
  have e2 : M 127 2 = (q_n (M 127) 2 : Int) := hR.n (by decide)
  have e3 : M 127 3 = (q_n (M 127) 3 : Int) := hR.n (by decide)
  have e4 : M 127 4 = (q_n (M 127) 4 : Int) := hR.n (by decide)
  have bR := hR.2.1
  have h20 : M 124 14 = 0 → M 127 2 = 0 := fun h => hF.r0 h 2 (by decide)
  have h30 : M 124 14 = 0 → M 127 3 = 0 := fun h => hF.r0 h 3 (by decide)
  have h40 : M 124 14 = 0 → M 127 4 = 0 := fun h => hF.r0 h 4 (by decide)
  have b4 := bR.2.2.2.2.1
  have hp7 := p7 (n := q_n (M 127) 4) (by omega)
  have htl := q_ts_lt (M 127) (M 129)
  have hto7 : q_ts (M 127) (M 129) < 128 := by omega
  have hol := q_odds_le hR (q_ts (M 127) (M 129))
  have hkl := q_cost_le hR 7 (q_ts (M 127) (M 129))
  have hul := q_un_lt (q_n (M 127) 4) (M 129 14).toNat
  have hD7 : (M 129 14).toNat < 2 ^ q_n (M 127) 4 := hT.said2 hR
  have e14 : M 129 14 = ((M 129 14).toNat : Int) := by have := hT.1 14 (by decide); omega
  have t160 := hT.1 16 (by decide)
  have t161 := hT.2.2.2.2.1
  have hG11 : zset (zset M 124 0 0) 124 11 0 124 11 = 0 := rfl
  refine zC.of [some (zr 124), some (zi w), some (zi b)] (by decide +kernel) rfl rfl (Nat.le_of_ble_eq_true rfl) rfl ?_
  refine p_aload_n 1 dX12_chance_0 rfl rfl (by decide) ?_
  refine p_callV0v 124 4 dX12_chance_1 s_good lk_X12_165 mX12_good rfl rfl (by decide) (Nat.le_of_ble_eq_true rfl) ?_
  rintro _ rfl
  refine p_aload_n 5 dX12_chance_4 rfl rfl (by decide) ?_
  refine p_iload_n 6 dX12_chance_5 rfl rfl ?_
  refine p_callV1i 124 9 dX12_chance_6 (s_isWordThere (ρ := M 127) hWg (fun _ _ => rfl) hR (by exact hh) (by omega) (by omega)) lk_X12_312 mX12_isWordThere rfl rfl (by decide) (Nat.le_of_ble_eq_true rfl) ?_
  rintro _ _ ⟨rfl, e9⟩
  have e9 := e9.symm
  subst e9
  refine p_if_ne 19 12 dX12_chance_9 (by split <;> omega) (by split <;> omega) (fun h9 => ?_) (fun h9 => ?_)
  · have h9t : M 124 14 = 1 ∧ 0 ≤ w ∧ w < M 127 4 := if_ne0 h9
    obtain ⟨n, rfl⟩ : ∃ k : Nat, w = (k : Int) := ⟨w.toNat, by omega⟩
    have h1 : M 124 14 = 1 := h9t.1
    have hR1 := hF.r1 h1
    have eo : M 127 (38 + 3 * n) = (q_n (M 127) (38 + 3 * n) : Int) := hR.n (by omega)
    have hbo := (hR.2.2.2.2.1 n (by omega)).1
    have hob := q_odds_le hR (q_un (q_n (M 127) 4) (M 129 14).toNat)
    refine p_aload_n 20 dX12_chance_19 rfl rfl (by decide) ?_
    refine p_getR 124 23 dX12_chance_20 fX12_26 rfl (hWg (124, 17, 129) (by decide)) ?_
    refine p_bipush 25 dX12_chance_23 rfl ?_
    refine p_ialdn 129 26 (16) dX12_chance_25 rfl (by omega) (by omega) ?_
    refine p_if_gt 43 29 dX12_chance_26 (by show _ ≤ M 129 16; omega) (by show M 129 16 < _; omega) (fun h26 => ?_) (fun h26 => ?_)
    · have h26 : 0 < M 129 16 := h26
      have hbt : ¬ (q_ts (M 127) (M 129)).testBit n = true := by rw [q_ts_w h26, Nat.zero_testBit]; decide
      refine p_lconst (z := 0) 44 dX12_chance_43 rfl ?_
      refine p_lconst (z := 1) 45 dX12_chance_44 rfl ?_
      refine p_iload_n 46 dX12_chance_45 rfl rfl ?_
      refine p_callS3l 49 dX12_chance_46 (s_lowest (u := 0) (v := 1) hb (by decide) (by decide) (by decide)) lk_X12_315 mX12_lowest (by decide) (Nat.le_of_ble_eq_true rfl) ?_
      rintro _ _ ⟨rfl, e9⟩
      have e9 := e9.symm
      subst e9
      refine p_goto 71 dX12_chance_49 ?_
      refine p_lret dX12_chance_71 rfl ?_
      refine ⟨_, rfl, MQq.of hid_good hW ?_ ?_⟩ <;> unfold pa_chance <;> rw [if_neg (by omega), Int.toNat_natCast]
      · first | (rw [if_neg hbt]; done) | (rw [if_pos hbt, ← q_ts_un h26]; done)
      · first | (rw [if_neg hbt]; rfl) | (rw [if_pos hbt]; rfl)
    · have h26 : ¬ 0 < M 129 16 := h26
      refine p_aload_n 30 dX12_chance_29 rfl rfl (by decide) ?_
      refine p_getR 124 33 dX12_chance_30 fX12_26 rfl (hWg (124, 17, 129) (by decide)) ?_
      refine p_bipush 35 dX12_chance_33 rfl ?_
      refine p_ialdn 129 36 (14) dX12_chance_35 rfl (by omega) (by omega) ?_
      rw [show zset (zset M 124 0 0) 124 11 0 129 14 = ((M 129 14).toNat : Int) from e14]
      refine p_iload_n 37 dX12_chance_36 rfl rfl ?_
      refine p_callS2i 40 dX12_chance_37 (s_hasBit (S := (M 129 14).toNat) (k := n) (by omega) (by omega)) lk_X12_241 mX12_hasBit (by decide) (Nat.le_of_ble_eq_true rfl) ?_
      rintro _ _ ⟨rfl, e9⟩
      have e9 := e9.symm
      subst e9
      refine p_if_eq 52 43 dX12_chance_40 (by split <;> omega) (by split <;> omega) (fun h40 => ?_) (fun h40 => ?_)
      · have hbu : (q_un (q_n (M 127) 4) (M 129 14).toNat).testBit n = true := by
          rw [q_unb (by omega), Bool.eq_false_iff.mpr (if_eq0 h40), decide_eq_true (by omega)]
          rfl
        have hbt : (q_ts (M 127) (M 129)).testBit n = true := by rw [← q_ts_un h26]; exact hbu
        have hne : (q_un (q_n (M 127) 4) (M 129 14).toNat) ≠ 0 := fun e => by rw [e, Nat.zero_testBit] at hbu; cases hbu
        have hop := q_odds_pos hR hR1 hne hul
        refine p_aload_n 53 dX12_chance_52 rfl rfl (by decide) ?_
        refine p_iload_n 54 dX12_chance_53 rfl rfl ?_
        refine p_callV1i 124 57 dX12_chance_54 (s_oddsOf (ρ := M 127) hWg (fun _ _ => rfl) hR (w := n) (by omega)) lk_X12_309 mX12_oddsOf rfl rfl (by decide) (Nat.le_of_ble_eq_true rfl) ?_
        rintro _ _ ⟨rfl, e9⟩
        have e9 := e9.symm
        subst e9
        rw [eo]
        refine p_i2l 58 dX12_chance_57 ?_
        rw [w32_id (n := ((q_n (M 127) (38 + 3 * n) : Nat) : Int)) (by omega) (by omega)]
        refine p_aload_n 59 dX12_chance_58 rfl rfl (by decide) ?_
        refine p_aload_n 60 dX12_chance_59 rfl rfl (by decide) ?_
        refine p_callV0i 124 63 dX12_chance_60 (s_unsaid (ρ := M 127) hWg (fun _ _ => rfl) hR (τ := M 129) (fun _ _ => rfl) hT) lk_X12_319 mX12_unsaid rfl rfl (by decide) (Nat.le_of_ble_eq_true rfl) ?_
        rintro _ _ ⟨rfl, e9⟩
        have e9 := e9.symm
        subst e9
        refine p_callV1i 124 66 dX12_chance_63 (s_oddsIn (ρ := M 127) hWg (fun _ _ => rfl) hR (S := (q_un (q_n (M 127) 4) (M 129 14).toNat)) (by omega)) lk_X12_322 mX12_oddsIn rfl rfl (by decide) (Nat.le_of_ble_eq_true rfl) ?_
        rintro _ _ ⟨rfl, e9⟩
        have e9 := e9.symm
        subst e9
        refine p_i2l 67 dX12_chance_66 ?_
        rw [w32_id (n := (((q_odds (q_n (M 127)) (q_un (q_n (M 127) 4) (M 129 14).toNat)) : Nat) : Int)) (by omega) (by omega)]
        refine p_iload_n 68 dX12_chance_67 rfl rfl ?_
        refine p_callS3l 71 dX12_chance_68 (s_lowest (u := q_n (M 127) (38 + 3 * n)) (v := (q_odds (q_n (M 127)) (q_un (q_n (M 127) 4) (M 129 14).toNat))) hb (by omega) (by omega) (by omega)) lk_X12_315 mX12_lowest (by decide) (Nat.le_of_ble_eq_true rfl) ?_
        rintro _ _ ⟨rfl, e9⟩
        have e9 := e9.symm
        subst e9
        refine p_lret dX12_chance_71 rfl ?_
        refine ⟨_, rfl, MQq.of hid_good hW ?_ ?_⟩ <;> unfold pa_chance <;> rw [if_neg (by omega), Int.toNat_natCast]
        · first | (rw [if_neg hbt]; done) | (rw [if_pos hbt, ← q_ts_un h26]; done)
        · first | (rw [if_neg hbt]; rfl) | (rw [if_pos hbt]; rfl)
      · have hbt : ¬ (q_ts (M 127) (M 129)).testBit n = true := by
          rw [← q_ts_un h26, q_unb (by omega), if_neq0 h40]
          simp
        refine p_lconst (z := 0) 44 dX12_chance_43 rfl ?_
        refine p_lconst (z := 1) 45 dX12_chance_44 rfl ?_
        refine p_iload_n 46 dX12_chance_45 rfl rfl ?_
        refine p_callS3l 49 dX12_chance_46 (s_lowest (u := 0) (v := 1) hb (by decide) (by decide) (by decide)) lk_X12_315 mX12_lowest (by decide) (Nat.le_of_ble_eq_true rfl) ?_
        rintro _ _ ⟨rfl, e9⟩
        have e9 := e9.symm
        subst e9
        refine p_goto 71 dX12_chance_49 ?_
        refine p_lret dX12_chance_71 rfl ?_
        refine ⟨_, rfl, MQq.of hid_good hW ?_ ?_⟩ <;> unfold pa_chance <;> rw [if_neg (by omega), Int.toNat_natCast]
        · first | (rw [if_neg hbt]; done) | (rw [if_pos hbt, ← q_ts_un h26]; done)
        · first | (rw [if_neg hbt]; rfl) | (rw [if_pos hbt]; rfl)
  · have h9f : ¬ (M 124 14 = 1 ∧ 0 ≤ w ∧ w < M 127 4) := if_nne0 h9
    refine p_aload_n 13 dX12_chance_12 rfl rfl (by decide) ?_
    refine p_iconst 14 dX12_chance_13 ?_
    refine p_callV1i 124 17 dX12_chance_14 s_no lk_X12_168 mX12_no rfl rfl (by decide) (Nat.le_of_ble_eq_true rfl) ?_
    rintro _ _ ⟨rfl, rfl⟩
    refine p_i2l 18 dX12_chance_17 ?_
    refine p_lret dX12_chance_18 rfl ?_
    exact ⟨_, rfl, MQq.of hid_no hW (by unfold pa_chance; (repeat' split) <;> first | rfl | (exfalso; omega)) (by unfold pa_chance; (repeat' split) <;> first | rfl | (exfalso; omega))⟩
theorem m_mean {l : Launch} {X : ZX} {M : ZM} (hW : zWm M) (hF : WF M) {b : Int} (hb : b = 0 ∨ b = 1) : zCl l X 11 yX12_mean tX12_mean [zr 124, zi b] M (MQq M (pa_mean (M 124 14) (M 127) (M 129) b)) := by
  have hWg : zWm (zset (zset M 124 0 0) 124 11 0) := (hW.set (by decide +kernel)).set (by decide +kernel)
  have hR := hF.r
  have hT := hF.t
  have hh := hF.h
  have e0 : M 127 0 = (q_n (M 127) 0 : Int) := hR.n (by decide)
  have e2 : M 127 2 = (q_n (M 127) 2 : Int) := hR.n (by decide)
  have e3 : M 127 3 = (q_n (M 127) 3 : Int) := hR.n (by decide)
  have e4 : M 127 4 = (q_n (M 127) 4 : Int) := hR.n (by decide)
  have bR := hR.2.1
  have h20 : M 124 14 = 0 → M 127 2 = 0 := fun h => hF.r0 h 2 (by decide)
  have h30 : M 124 14 = 0 → M 127 3 = 0 := fun h => hF.r0 h 3 (by decide)
  have h40 : M 124 14 = 0 → M 127 4 = 0 := fun h => hF.r0 h 4 (by decide)
  have b4 := bR.2.2.2.2.1
  have hp7 := p7 (n := q_n (M 127) 4) (by omega)
  have htl := q_ts_lt (M 127) (M 129)
  have hto7 : q_ts (M 127) (M 129) < 128 := by omega
  have hol := q_odds_le hR (q_ts (M 127) (M 129))
  have hkl := q_cost_le hR 7 (q_ts (M 127) (M 129))
  have hul := q_un_lt (q_n (M 127) 4) (M 129 14).toNat
  have hD7 : (M 129 14).toNat < 2 ^ q_n (M 127) 4 := hT.said2 hR
  have e14 : M 129 14 = ((M 129 14).toNat : Int) := by have := hT.1 14 (by decide); omega
  have t160 := hT.1 16 (by decide)
  have t161 := hT.2.2.2.2.1
  have hG11 : zset (zset M 124 0 0) 124 11 0 124 11 = 0 := rfl
  have hob := q_odds_le hR (q_un (q_n (M 127) 4) (M 129 14).toNat)
  have hkb := q_cost_le hR 7 (q_un (q_n (M 127) 4) (M 129 14).toNat)
  refine zC.of [some (zr 124), some (zi b)] (by decide +kernel) rfl rfl (Nat.le_of_ble_eq_true rfl) rfl ?_
  refine p_aload_n 1 dX12_mean_0 rfl rfl (by decide) ?_
  refine p_callV0v 124 4 dX12_mean_1 s_good lk_X12_165 mX12_good rfl rfl (by decide) (Nat.le_of_ble_eq_true rfl) ?_
  rintro _ rfl
  refine p_aload_n 5 dX12_mean_4 rfl rfl (by decide) ?_
  refine p_getI 124 8 dX12_mean_5 fX12_178 rfl ?_
  refine p_if_ne 18 11 dX12_mean_8 (by show _ ≤ M 124 14; omega) (by show M 124 14 < _; omega) (fun h8 => ?_) (fun h8 => ?_)
  · have h8 : ¬ M 124 14 = 0 := h8
    have h1 : M 124 14 = 1 := by omega
    have hR1 := hF.r1 h1
    refine p_aload_n 19 dX12_mean_18 rfl rfl (by decide) ?_
    refine p_callV0i 124 22 dX12_mean_19 (s_isOver (ρ := M 127) (τ := M 129) hR hR1 hWg (fun _ _ => rfl) (fun _ _ => rfl) hT) lk_X12_339 mX12_isOver rfl rfl (by decide) (Nat.le_of_ble_eq_true rfl) ?_
    rintro _ _ ⟨rfl, e9⟩
    have e9 := e9.symm
    subst e9
    refine p_if_eq 32 25 dX12_mean_22 (by split <;> omega) (by split <;> omega) (fun h22 => ?_) (fun h22 => ?_)
    · have hov : ¬ (0 < M 129 16 ∨ (q_un (q_n (M 127) 4) (M 129 14).toNat) = 0) := if_eq0 h22
      have hun : (q_un (q_n (M 127) 4) (M 129 14).toNat) = (q_ts (M 127) (M 129)) := q_ts_un (by omega)
      have hne : (q_ts (M 127) (M 129)) ≠ 0 := by omega
      have hop := q_odds_pos hR hR1 hne htl
      rw [← hun] at hop
      refine p_aload_n 33 dX12_mean_32 rfl rfl (by decide) ?_
      refine p_callV0v 124 36 dX12_mean_33 (s_seekRows (ρ := M 127) (τ := M 129) hR hR1 hWg (fun _ _ => rfl) (fun _ _ => rfl) hT) lk_X12_343 mX12_seekRows rfl rfl (by decide) (Nat.le_of_ble_eq_true rfl) ?_
      rintro M9 ⟨hh9, k11, k29, k28, k136⟩
      have hW9 : zWm M9 := hh9.wm hWg
      have hE9 : ∀ i, i < 421 → M9 127 i = M 127 i := fun i _ => hh9.2 127 i (by simp [q_hid]) (by omega) (by omega)
      have hU9 : ∀ i, i < 18 → M9 129 i = M 129 i := fun i _ => hh9.2 129 i (by simp [q_hid]) (by omega) (by omega)
      have hg9 := hid_good.trans hh9
      have k11 : M9 124 11 = 0 := k11
      refine p_aload_n 37 dX12_mean_36 rfl rfl (by decide) ?_
      refine p_getI 124 40 dX12_mean_37 fX12_335 rfl ?_
      rw [k28]
      refine p_i2l 41 dX12_mean_40 ?_
      rw [w32_id (n := ((q_cost (q_n (M 127)) 7 (q_un (q_n (M 127) 4) (M 129 14).toNat) : Nat) : Int)) (by omega) (by omega)]
      refine p_aload_n 42 dX12_mean_41 rfl rfl (by decide) ?_
      refine p_aload_n 43 dX12_mean_42 rfl rfl (by decide) ?_
      refine p_callV0i 124 46 dX12_mean_43 (s_unsaid hW9 hE9 hR hU9 hT) lk_X12_319 mX12_unsaid rfl rfl (by decide) (Nat.le_of_ble_eq_true rfl) ?_
      rintro _ _ ⟨rfl, e9⟩
      have e9 := e9.symm
      subst e9
      refine p_callV1i 124 49 dX12_mean_46 (s_oddsIn hW9 hE9 hR (S := (q_un (q_n (M 127) 4) (M 129 14).toNat)) (by omega)) lk_X12_322 mX12_oddsIn rfl rfl (by decide) (Nat.le_of_ble_eq_true rfl) ?_
      rintro _ _ ⟨rfl, e9⟩
      have e9 := e9.symm
      subst e9
      refine p_i2l 50 dX12_mean_49 ?_
      rw [w32_id (n := (((q_odds (q_n (M 127)) (q_un (q_n (M 127) 4) (M 129 14).toNat)) : Nat) : Int)) (by omega) (by omega)]
      refine p_iload_n 51 dX12_mean_50 rfl rfl ?_
      refine p_callS3l 54 dX12_mean_51 (s_lowest (u := q_cost (q_n (M 127)) 7 (q_un (q_n (M 127) 4) (M 129 14).toNat)) (v := (q_odds (q_n (M 127)) (q_un (q_n (M 127) 4) (M 129 14).toNat))) hb (by omega) (by omega) (by omega)) lk_X12_315 mX12_lowest (by decide) (Nat.le_of_ble_eq_true rfl) ?_
      rintro _ _ ⟨rfl, e9⟩
      have e9 := e9.symm
      subst e9
      refine p_lret dX12_mean_54 rfl ?_
      refine ⟨_, rfl, MQq.of hg9 hW ?_ ?_⟩ <;> unfold pa_mean <;> rw [if_neg (by omega), if_neg hne]
      · rw [hun]
      · exact k11
    · have hov : 0 < M 129 16 ∨ (q_un (q_n (M 127) 4) (M 129 14).toNat) = 0 := if_neq0 h22
      have hts : (q_ts (M 127) (M 129)) = 0 := by
        unfold q_ts
        split <;> omega
      refine p_lconst (z := 0) 26 dX12_mean_25 rfl ?_
      refine p_lconst (z := 1) 27 dX12_mean_26 rfl ?_
      refine p_iload_n 28 dX12_mean_27 rfl rfl ?_
      refine p_callS3l 31 dX12_mean_28 (s_lowest (u := 0) (v := 1) hb (by decide) (by decide) (by decide)) lk_X12_315 mX12_lowest (by decide) (Nat.le_of_ble_eq_true rfl) ?_
      rintro _ _ ⟨rfl, e9⟩
      have e9 := e9.symm
      subst e9
      refine p_lret dX12_mean_31 rfl ?_
      refine ⟨_, rfl, MQq.of hid_good hW ?_ ?_⟩ <;> unfold pa_mean <;> rw [if_neg (by omega), if_pos hts]
      rfl
  · have h8 : ¬ M 124 14 ≠ 0 := h8
    refine p_aload_n 12 dX12_mean_11 rfl rfl (by decide) ?_
    refine p_iconst 13 dX12_mean_12 ?_
    refine p_callV1i 124 16 dX12_mean_13 s_no lk_X12_168 mX12_no rfl rfl (by decide) (Nat.le_of_ble_eq_true rfl) ?_
    rintro _ _ ⟨rfl, rfl⟩
    refine p_i2l 17 dX12_mean_16 ?_
    refine p_lret dX12_mean_17 rfl ?_
    exact ⟨_, rfl, MQq.of hid_no hW (by unfold pa_mean; (repeat' split) <;> first | rfl | (exfalso; omega)) (by unfold pa_mean; (repeat' split) <;> first | rfl | (exfalso; omega))⟩
theorem m_searchAt {l : Launch} {X : ZX} {M : ZM} (hW : zWm M) (hF : WF M) {v : Int} (hv1 : -2147483648 ≤ v) (hv2 : v < 2147483648) : zCi l X 11 yX12_searchAt tX12_searchAt [zr 124, zi v] M (MQq M (pa_searchAt (M 124 14) (M 127) (M 129) v)) := by
  have hWg : zWm (zset (zset M 124 0 0) 124 11 0) := (hW.set (by decide +kernel)).set (by decide +kernel)
  have hR := hF.r
  have hT := hF.t
  have hh := hF.h
  have e0 : M 127 0 = (q_n (M 127) 0 : Int) := hR.n (by decide)
  have e2 : M 127 2 = (q_n (M 127) 2 : Int) := hR.n (by decide)
  have e3 : M 127 3 = (q_n (M 127) 3 : Int) := hR.n (by decide)
  have e4 : M 127 4 = (q_n (M 127) 4 : Int) := hR.n (by decide)
  have bR := hR.2.1
  have h20 : M 124 14 = 0 → M 127 2 = 0 := fun h => hF.r0 h 2 (by decide)
  have h30 : M 124 14 = 0 → M 127 3 = 0 := fun h => hF.r0 h 3 (by decide)
  have h40 : M 124 14 = 0 → M 127 4 = 0 := fun h => hF.r0 h 4 (by decide)
  have b4 := bR.2.2.2.2.1
  have hp7 := p7 (n := q_n (M 127) 4) (by omega)
  have htl := q_ts_lt (M 127) (M 129)
  have hto7 : q_ts (M 127) (M 129) < 128 := by omega
  have hol := q_odds_le hR (q_ts (M 127) (M 129))
  have hkl := q_cost_le hR 7 (q_ts (M 127) (M 129))
  have hul := q_un_lt (q_n (M 127) 4) (M 129 14).toNat
  have hD7 : (M 129 14).toNat < 2 ^ q_n (M 127) 4 := hT.said2 hR
  have e14 : M 129 14 = ((M 129 14).toNat : Int) := by have := hT.1 14 (by decide); omega
  have t160 := hT.1 16 (by decide)
  have t161 := hT.2.2.2.2.1
  have hG11 : zset (zset M 124 0 0) 124 11 0 124 11 = 0 := rfl
  have hc7 := q_c7_le (q_un (q_n (M 127) 4) (M 129 14).toNat)
  have hc7t := q_c7_le (q_ts (M 127) (M 129))
  refine zC.of [some (zr 124), some (zi v)] (by decide +kernel) rfl rfl (Nat.le_of_ble_eq_true rfl) rfl ?_
  refine p_aload_n 1 dX12_searchAt_0 rfl rfl (by decide) ?_
  refine p_callV0v 124 4 dX12_searchAt_1 s_good lk_X12_165 mX12_good rfl rfl (by decide) (Nat.le_of_ble_eq_true rfl) ?_
  rintro _ rfl
  refine p_aload_n 5 dX12_searchAt_4 rfl rfl (by decide) ?_
  refine p_getI 124 8 dX12_searchAt_5 fX12_178 rfl ?_
  refine p_if_eq 35 11 dX12_searchAt_8 (by show _ ≤ M 124 14; omega) (by show M 124 14 < _; omega) (fun h8 => ?_) (fun h8 => ?_)
  · have h8 : M 124 14 = 0 := h8
    refine p_aload_n 36 dX12_searchAt_35 rfl rfl (by decide) ?_
    refine p_iconst 37 dX12_searchAt_36 ?_
    refine p_callV1i 124 40 dX12_searchAt_37 s_no lk_X12_168 mX12_no rfl rfl (by decide) (Nat.le_of_ble_eq_true rfl) ?_
    rintro _ _ ⟨rfl, rfl⟩
    refine p_iret dX12_searchAt_40 rfl ?_
    exact ⟨_, rfl, MQq.of hid_no hW (by unfold pa_searchAt; rw [if_pos (by omega)]) (by unfold pa_searchAt; rw [if_pos (by omega)]; rfl)⟩
  · have h8 : ¬ M 124 14 = 0 := h8
    have h1 : M 124 14 = 1 := by omega
    have hR1 := hF.r1 h1
    refine p_aload_n 12 dX12_searchAt_11 rfl rfl (by decide) ?_
    refine p_callV0i 124 15 dX12_searchAt_12 (s_isOver (ρ := M 127) (τ := M 129) hR hR1 hWg (fun _ _ => rfl) (fun _ _ => rfl) hT) lk_X12_339 mX12_isOver rfl rfl (by decide) (Nat.le_of_ble_eq_true rfl) ?_
    rintro _ _ ⟨rfl, e9⟩
    have e9 := e9.symm
    subst e9
    refine p_if_ne 35 18 dX12_searchAt_15 (by split <;> omega) (by split <;> omega) (fun h15 => ?_) (fun h15 => ?_)
    · have hov : 0 < M 129 16 ∨ (q_un (q_n (M 127) 4) (M 129 14).toNat) = 0 := if_ne0 h15
      have hts : (q_ts (M 127) (M 129)) = 0 := by
        unfold q_ts
        split <;> omega
      have hz7 : q_c7 (q_ts (M 127) (M 129)) = 0 := by rw [hts]; decide
      refine p_aload_n 36 dX12_searchAt_35 rfl rfl (by decide) ?_
      refine p_iconst 37 dX12_searchAt_36 ?_
      refine p_callV1i 124 40 dX12_searchAt_37 s_no lk_X12_168 mX12_no rfl rfl (by decide) (Nat.le_of_ble_eq_true rfl) ?_
      rintro _ _ ⟨rfl, rfl⟩
      refine p_iret dX12_searchAt_40 rfl ?_
      exact ⟨_, rfl, MQq.of hid_no hW (by unfold pa_searchAt; rw [if_pos (by omega)]) (by unfold pa_searchAt; rw [if_pos (by omega)]; rfl)⟩
    · have hov : ¬ (0 < M 129 16 ∨ (q_un (q_n (M 127) 4) (M 129 14).toNat) = 0) := if_nne0 h15
      have hun : (q_un (q_n (M 127) 4) (M 129 14).toNat) = (q_ts (M 127) (M 129)) := q_ts_un (by omega)
      refine p_iload_n 19 dX12_searchAt_18 rfl rfl ?_
      refine p_iconst 20 dX12_searchAt_19 ?_
      refine p_aload_n 21 dX12_searchAt_20 rfl rfl (by decide) ?_
      refine p_callV0i 124 24 dX12_searchAt_21 (s_unsaid (ρ := M 127) hWg (fun _ _ => rfl) hR (τ := M 129) (fun _ _ => rfl) hT) lk_X12_319 mX12_unsaid rfl rfl (by decide) (Nat.le_of_ble_eq_true rfl) ?_
      rintro _ _ ⟨rfl, e9⟩
      have e9 := e9.symm
      subst e9
      refine p_callS1i 27 dX12_searchAt_24 (s_ones (S := (q_un (q_n (M 127) 4) (M 129 14).toNat)) (by omega)) lk_X12_287 mX12_ones (by decide) (Nat.le_of_ble_eq_true rfl) ?_
      rintro _ _ ⟨rfl, e9⟩
      have e9 := e9.symm
      subst e9
      rw [q_c8 (by omega)]
      refine p_iconst 28 dX12_searchAt_27 ?_
      refine p_isub 29 dX12_searchAt_28 ?_
      refine p_callS3i 32 dX12_searchAt_29 (s_in (by omega) (by omega) (by omega) (by omega) (by omega) (by omega)) lk_X12_146 mX12_in (by decide) (Nat.le_of_ble_eq_true rfl) ?_
      rintro _ _ ⟨rfl, e9⟩
      have e9 := e9.symm
      subst e9
      refine p_if_ne 41 35 dX12_searchAt_32 (by split <;> omega) (by split <;> omega) (fun h32 => ?_) (fun h32 => ?_)
      · have h32 := if_ne0 h32
        rw [hun] at h32
        obtain ⟨n, rfl⟩ : ∃ k : Nat, v = (k : Int) := ⟨v.toNat, by omega⟩
        have hc9 : n < q_c7 (q_un (q_n (M 127) 4) (M 129 14).toNat) := by rw [hun]; omega
        refine p_aload_n 42 dX12_searchAt_41 rfl rfl (by decide) ?_
        refine p_callV0v 124 45 dX12_searchAt_42 (s_seekRows (ρ := M 127) (τ := M 129) hR hR1 hWg (fun _ _ => rfl) (fun _ _ => rfl) hT) lk_X12_343 mX12_seekRows rfl rfl (by decide) (Nat.le_of_ble_eq_true rfl) ?_
        rintro M9 ⟨hh9, k11, k29, k28, k136⟩
        have hW9 : zWm M9 := hh9.wm hWg
        have hE9 : ∀ i, i < 421 → M9 127 i = M 127 i := fun i _ => hh9.2 127 i (by simp [q_hid]) (by omega) (by omega)
        have hU9 : ∀ i, i < 18 → M9 129 i = M 129 i := fun i _ => hh9.2 129 i (by simp [q_hid]) (by omega) (by omega)
        have hg9 := hid_good.trans hh9
        have k11 : M9 124 11 = 0 := k11
        refine p_aload_n 46 dX12_searchAt_45 rfl rfl (by decide) ?_
        refine p_getR 124 49 dX12_searchAt_46 fX12_47 rfl (hW9 (124, 27, 136) (by decide +kernel)) ?_
        refine p_iload_n 50 dX12_searchAt_49 rfl rfl ?_
        skip
        refine p_ialdn 136 51 (n) dX12_searchAt_50 rfl (by omega) (by omega) ?_
        rw [k136 n (by omega)]
        refine p_iret dX12_searchAt_51 rfl ?_
        refine ⟨_, rfl, MQq.of hg9 hW ?_ ?_⟩ <;> unfold pa_searchAt <;> rw [if_neg (by omega)]
        · rw [hun, Int.toNat_natCast]
        · exact k11
      · have h32 := if_nne0 h32
        rw [hun] at h32
        refine p_aload_n 36 dX12_searchAt_35 rfl rfl (by decide) ?_
        refine p_iconst 37 dX12_searchAt_36 ?_
        refine p_callV1i 124 40 dX12_searchAt_37 s_no lk_X12_168 mX12_no rfl rfl (by decide) (Nat.le_of_ble_eq_true rfl) ?_
        rintro _ _ ⟨rfl, rfl⟩
        refine p_iret dX12_searchAt_40 rfl ?_
        exact ⟨_, rfl, MQq.of hid_no hW (by unfold pa_searchAt; rw [if_pos (by omega)]) (by unfold pa_searchAt; rw [if_pos (by omega)]; rfl)⟩
theorem q_say_un {ρ τ : Nat → Int} (hR : wfR ρ) {w : Nat} (hw : w < q_n ρ 4) (h : q_say ρ τ w = true) : τ 16 = 0 ∧ (q_un (q_n ρ 4) (τ 14).toNat).testBit w = true := by
  have e4 : ρ 4 = (q_n ρ 4 : Int) := hR.n (by decide)
  have b4 := hR.2.1.2.2.2.2.1
  unfold q_say at h
  rw [Bool.and_eq_true, Bool.and_eq_true, decide_eq_true_eq] at h
  refine ⟨h.1.1, ?_⟩
  rw [q_unb (by omega), decide_eq_true hw, h.1.2]
  rfl
theorem m_meanFirst {l : Launch} {X : ZX} {M : ZM} (hW : zWm M) (hF : WF M) {w b : Int} (hw1 : -2147483648 ≤ w) (hw2 : w < 2147483648) (hb : b = 0 ∨ b = 1) : zCl l X 11 yX12_meanFirst tX12_meanFirst [zr 124, zi w, zi b] M (MQq M (pa_meanFirst (M 124 14) (M 127) (M 129) w b)) := by
  have hWg : zWm (zset (zset M 124 0 0) 124 11 0) := (hW.set (by decide +kernel)).set (by decide +kernel)
  have hR := hF.r
  have hT := hF.t
  have hh := hF.h
  have e0 : M 127 0 = (q_n (M 127) 0 : Int) := hR.n (by decide)
  have e2 : M 127 2 = (q_n (M 127) 2 : Int) := hR.n (by decide)
  have e3 : M 127 3 = (q_n (M 127) 3 : Int) := hR.n (by decide)
  have e4 : M 127 4 = (q_n (M 127) 4 : Int) := hR.n (by decide)
  have bR := hR.2.1
  have h20 : M 124 14 = 0 → M 127 2 = 0 := fun h => hF.r0 h 2 (by decide)
  have h30 : M 124 14 = 0 → M 127 3 = 0 := fun h => hF.r0 h 3 (by decide)
  have h40 : M 124 14 = 0 → M 127 4 = 0 := fun h => hF.r0 h 4 (by decide)
  have b4 := bR.2.2.2.2.1
  have hp7 := p7 (n := q_n (M 127) 4) (by omega)
  have htl := q_ts_lt (M 127) (M 129)
  have hto7 : q_ts (M 127) (M 129) < 128 := by omega
  have hol := q_odds_le hR (q_ts (M 127) (M 129))
  have hkl := q_cost_le hR 7 (q_ts (M 127) (M 129))
  have hul := q_un_lt (q_n (M 127) 4) (M 129 14).toNat
  have hD7 : (M 129 14).toNat < 2 ^ q_n (M 127) 4 := hT.said2 hR
  have e14 : M 129 14 = ((M 129 14).toNat : Int) := by have := hT.1 14 (by decide); omega
  have t160 := hT.1 16 (by decide)
  have t161 := hT.2.2.2.2.1
  have hG11 : zset (zset M 124 0 0) 124 11 0 124 11 = 0 := rfl
  have hob := q_odds_le hR (q_un (q_n (M 127) 4) (M 129 14).toNat)
  refine zC.of [some (zr 124), some (zi w), some (zi b)] (by decide +kernel) rfl rfl (Nat.le_of_ble_eq_true rfl) rfl ?_
  refine p_aload_n 1 dX12_meanFirst_0 rfl rfl (by decide) ?_
  refine p_callV0v 124 4 dX12_meanFirst_1 s_good lk_X12_165 mX12_good rfl rfl (by omega) (Nat.le_of_ble_eq_true rfl) ?_
  rintro _ rfl
  refine p_aload_n 5 dX12_meanFirst_4 rfl rfl (by decide) ?_
  refine p_iload_n 6 dX12_meanFirst_5 rfl rfl ?_
  refine p_callV1i 124 9 dX12_meanFirst_6 (s_isWordThere (ρ := M 127) hWg (fun _ _ => rfl) hR (by exact hh) (by omega) (by omega)) lk_X12_312 mX12_isWordThere rfl rfl (by omega) (Nat.le_of_ble_eq_true rfl) ?_
  rintro _ _ ⟨rfl, e9⟩
  have e9 := e9.symm
  subst e9
  refine p_if_ne 19 12 dX12_meanFirst_9 (by split <;> omega) (by split <;> omega) (fun h9 => ?_) (fun h9 => ?_)
  · have h9t : M 124 14 = 1 ∧ 0 ≤ w ∧ w < M 127 4 := if_ne0 h9
    obtain ⟨n, rfl⟩ : ∃ k : Nat, w = (k : Int) := ⟨w.toNat, by omega⟩
    have h1 : M 124 14 = 1 := h9t.1
    have hR1 := hF.r1 h1
    have emi : M 127 (38 + 3 * n + 1) = (q_n (M 127) (38 + 3 * n + 1) : Int) := hR.n (by omega)
    have eoi : M 127 (38 + 3 * n) = (q_n (M 127) (38 + 3 * n) : Int) := hR.n (by omega)
    have hbm := (hR.2.2.2.2.1 n (by omega)).1
    have hbn := (hR.2.2.2.2.1 n (by omega)).2.1
    refine p_aload_n 20 dX12_meanFirst_19 rfl rfl (by decide) ?_
    refine p_iload_n 21 dX12_meanFirst_20 rfl rfl ?_
    refine p_callV1i 124 24 dX12_meanFirst_21 (s_canSay (ρ := M 127) hWg (fun _ _ => rfl) hR (τ := M 129) (fun _ _ => rfl) hT (w := n) (by omega)) lk_X12_352 mX12_canSay rfl rfl (by omega) (Nat.le_of_ble_eq_true rfl) ?_
    rintro _ _ ⟨rfl, e9⟩
    have e9 := e9.symm
    subst e9
    refine p_if_ne 34 27 dX12_meanFirst_24 (by split <;> omega) (by split <;> omega) (fun h24 => ?_) (fun h24 => ?_)
    · have hsy : q_say (M 127) (M 129) n = true := if_ne0 h24
      obtain ⟨hs16, hbu⟩ := q_say_un hR (by omega) hsy
      have hun : (q_un (q_n (M 127) 4) (M 129 14).toNat) = (q_ts (M 127) (M 129)) := q_ts_un (by omega)
      have hne : (q_un (q_n (M 127) 4) (M 129 14).toNat) ≠ 0 := fun e => by rw [e, Nat.zero_testBit] at hbu; cases hbu
      have hop := q_odds_pos hR hR1 hne hul
      have hWa : zWm (zset (zset (zset (zset M 124 0 0) 124 11 0) 124 28 1000000000) 124 29 0) := (hWg.set (by decide +kernel)).set (by decide +kernel)
      have hWb : zWm (zset (zset (zset (zset (zset M 124 0 0) 124 11 0) 124 28 1000000000) 124 29 0) 135 0 (n : Int)) := hWa.setc (by decide +kernel)
      have hEb : ∀ x, x < 421 → (zset (zset (zset (zset (zset M 124 0 0) 124 11 0) 124 28 1000000000) 124 29 0) 135 0 (n : Int)) 127 x = M 127 x := fun x hx => rfl
      have hgb : Hid M (zset (zset (zset (zset (zset M 124 0 0) 124 11 0) 124 28 1000000000) 124 29 0) 135 0 (n : Int)) := ((hid_good.set (c := 124) (k := 28) (Or.inl (by decide +kernel)) (by decide)).set (c := 124) (k := 29) (Or.inl (by decide +kernel)) (by decide)).set (c := 135) (k := 0) (Or.inl (by decide +kernel)) (by decide)
      have h2i : 2 ^ n < 128 := p7w (by omega)
      have h2n : 2 ^ n < 2 ^ q_n (M 127) 4 := Nat.pow_lt_pow_right (by decide) (by omega)
      have hcd := q_c7_del (S := (q_un (q_n (M 127) 4) (M 129 14).toNat)) (by omega) hbu
      have hc7 := q_c7_le (q_un (q_n (M 127) 4) (M 129 14).toNat)
      have hce : q_c7 (q_un (q_n (M 127) 4) ((M 129 14).toNat ||| 2 ^ n)) = q_c7 (q_del (q_un (q_n (M 127) 4) (M 129 14).toNat) n) := by rw [q_un_or (by omega)]
      have hcf := q_cf_le hR (q_un (q_n (M 127) 4) (M 129 14).toNat) (w := n) (by omega)
      have hmo : q_n (M 127) (38 + 3 * n + 1) * q_n (M 127) (38 + 3 * n) ≤ 30 * 99 := Nat.mul_le_mul (by omega) (by omega)
      refine p_aload_n 35 dX12_meanFirst_34 rfl rfl (by decide) ?_
      refine p_ldcw (z := 1000000000) 38 dX12_meanFirst_35 kk_X12_338 rfl ?_
      refine p_putI 124 41 dX12_meanFirst_38 wX12_335 rfl ?_
      refine p_aload_n 42 dX12_meanFirst_41 rfl rfl (by decide) ?_
      refine p_iconst 43 dX12_meanFirst_42 ?_
      refine p_putI 124 46 dX12_meanFirst_43 wX12_332 rfl ?_
      refine p_aload_n 47 dX12_meanFirst_46 rfl rfl (by decide) ?_
      refine p_getR 124 50 dX12_meanFirst_47 fX12_44 rfl (hWa (124, 26, 135) (by decide +kernel)) ?_
      refine p_iconst 51 dX12_meanFirst_50 ?_
      refine p_iload_n 52 dX12_meanFirst_51 rfl rfl ?_
      refine p_iastn 135 53 (0) dX12_meanFirst_52 rfl (by omega) (by omega) ?_
      refine p_aload_n 54 dX12_meanFirst_53 rfl rfl (by decide) ?_
      refine p_iconst 55 dX12_meanFirst_54 ?_
      refine p_aload_n 56 dX12_meanFirst_55 rfl rfl (by decide) ?_
      refine p_getR 124 59 dX12_meanFirst_56 fX12_26 rfl (hWb (124, 17, 129) (by decide +kernel)) ?_
      refine p_bipush 61 dX12_meanFirst_59 rfl ?_
      refine p_ialdn 129 62 (14) dX12_meanFirst_61 rfl (by omega) (by omega) ?_
      rw [show (zset (zset (zset (zset (zset M 124 0 0) 124 11 0) 124 28 1000000000) 124 29 0) 135 0 (n : Int)) 129 14 = ((M 129 14).toNat : Int) from e14]
      refine p_iconst 63 dX12_meanFirst_62 ?_
      refine p_iload_n 64 dX12_meanFirst_63 rfl rfl ?_
      refine p_ishl 65 dX12_meanFirst_64 ?_
      rw [z_bit n (by omega)]
      refine p_ior 66 dX12_meanFirst_65 ?_
      rw [z_ior_n (M 129 14).toNat (2 ^ n) (by omega) (by omega)]
      refine p_aload_n 67 dX12_meanFirst_66 rfl rfl (by decide) ?_
      refine p_iload_n 68 dX12_meanFirst_67 rfl rfl ?_
      refine p_callV1i 124 71 dX12_meanFirst_68 (s_minutesOf hWb hEb hR (w := n) (by omega)) lk_X12_325 mX12_minutesOf rfl rfl (by omega) (Nat.le_of_ble_eq_true rfl) ?_
      rintro _ _ ⟨rfl, e9⟩
      have e9 := e9.symm
      subst e9
      rw [emi]
      refine p_aload_n 72 dX12_meanFirst_71 rfl rfl (by decide) ?_
      refine p_iload_n 73 dX12_meanFirst_72 rfl rfl ?_
      refine p_callV1i 124 76 dX12_meanFirst_73 (s_minutesOf hWb hEb hR (w := n) (by omega)) lk_X12_325 mX12_minutesOf rfl rfl (by omega) (Nat.le_of_ble_eq_true rfl) ?_
      rintro _ _ ⟨rfl, e9⟩
      have e9 := e9.symm
      subst e9
      rw [emi]
      refine p_aload_n 77 dX12_meanFirst_76 rfl rfl (by decide) ?_
      refine p_iload_n 78 dX12_meanFirst_77 rfl rfl ?_
      refine p_callV1i 124 81 dX12_meanFirst_78 (s_oddsOf hWb hEb hR (w := n) (by omega)) lk_X12_309 mX12_oddsOf rfl rfl (by omega) (Nat.le_of_ble_eq_true rfl) ?_
      rintro _ _ ⟨rfl, e9⟩
      have e9 := e9.symm
      subst e9
      rw [eoi]
      refine p_imul 82 dX12_meanFirst_81 ?_
      refine p_callV4v 124 85 dX12_meanFirst_82 (s_tryRows (l := l) (X := X) hR hR1 (q_c7 (q_un (q_n (M 127) 4) ((M 129 14).toNat ||| 2 ^ n))) (zset (zset (zset (zset (zset M 124 0 0) 124 11 0) 124 28 1000000000) 124 29 0) 135 0 (n : Int)) 1 ((M 129 14).toNat ||| 2 ^ n) (q_n (M 127) (38 + 3 * n + 1)) (q_n (M 127) (38 + 3 * n + 1) * q_n (M 127) (38 + 3 * n)) hWb hEb (Nat.or_lt_two_pow hD7 h2n) rfl (by omega) (by omega) (by omega) (by show (0 : Int) ≤ 1000000000; decide) (by show (1000000000 : Int) ≤ 1000000000; decide)) lk_X12_328 mX12_tryRows rfl rfl (by omega) (Nat.le_of_ble_eq_true rfl) ?_
      intro M9 h9
      have hh9 := h9.hid
      rw [q_un_or (by omega)] at h9
      have htot : q_tot (M 127) (q_del (q_un (q_n (M 127) 4) (M 129 14).toNat) n) (q_n (M 127) (38 + 3 * n + 1)) (q_n (M 127) (38 + 3 * n + 1) * q_n (M 127) (38 + 3 * n)) = q_cf (q_n (M 127)) (q_un (q_n (M 127) 4) (M 129 14).toNat) n := by
        have h := q_tot_del (ρ := M 127) (S := (q_un (q_n (M 127) 4) (M 129 14).toNat)) (m := 0) (s := 0) (i := n) (by omega) (by omega) hbu
        rw [Nat.zero_add, Nat.zero_add, Nat.zero_mul, Nat.zero_add] at h
        exact h
      obtain ⟨-, h92, -, -, h95, -⟩ := h9
      rw [htot] at h95
      have k28 := (h95 (by show _ < (1000000000 : Int); omega)).1
      have k11 : M9 124 11 = 0 := h92 11 (by decide) (by decide)
      have hg9 := hgb.trans hh9
      have hW9 : zWm M9 := hh9.wm hWb
      have hE9 : ∀ i, i < 421 → M9 127 i = M 127 i := fun i _ => hg9.2 127 i (by simp [q_hid]) (by omega) (by omega)
      have hU9 : ∀ i, i < 18 → M9 129 i = M 129 i := fun i _ => hg9.2 129 i (by simp [q_hid]) (by omega) (by omega)
      refine p_aload_n 86 dX12_meanFirst_85 rfl rfl (by decide) ?_
      refine p_getI 124 89 dX12_meanFirst_86 fX12_335 rfl ?_
      rw [k28]
      refine p_i2l 90 dX12_meanFirst_89 ?_
      rw [w32_id (n := ((q_cf (q_n (M 127)) (q_un (q_n (M 127) 4) (M 129 14).toNat) n : Nat) : Int)) (by omega) (by omega)]
      refine p_aload_n 91 dX12_meanFirst_90 rfl rfl (by decide) ?_
      refine p_aload_n 92 dX12_meanFirst_91 rfl rfl (by decide) ?_
      refine p_callV0i 124 95 dX12_meanFirst_92 (s_unsaid hW9 hE9 hR hU9 hT) lk_X12_319 mX12_unsaid rfl rfl (by omega) (Nat.le_of_ble_eq_true rfl) ?_
      rintro _ _ ⟨rfl, e9⟩
      have e9 := e9.symm
      subst e9
      refine p_callV1i 124 98 dX12_meanFirst_95 (s_oddsIn hW9 hE9 hR (S := (q_un (q_n (M 127) 4) (M 129 14).toNat)) (by omega)) lk_X12_322 mX12_oddsIn rfl rfl (by omega) (Nat.le_of_ble_eq_true rfl) ?_
      rintro _ _ ⟨rfl, e9⟩
      have e9 := e9.symm
      subst e9
      refine p_i2l 99 dX12_meanFirst_98 ?_
      rw [w32_id (n := (((q_odds (q_n (M 127)) (q_un (q_n (M 127) 4) (M 129 14).toNat)) : Nat) : Int)) (by omega) (by omega)]
      refine p_iload_n 100 dX12_meanFirst_99 rfl rfl ?_
      refine p_callS3l 103 dX12_meanFirst_100 (s_lowest (u := q_cf (q_n (M 127)) (q_un (q_n (M 127) 4) (M 129 14).toNat) n) (v := (q_odds (q_n (M 127)) (q_un (q_n (M 127) 4) (M 129 14).toNat))) hb (by omega) (by omega) (by omega)) lk_X12_315 mX12_lowest (by omega) (Nat.le_of_ble_eq_true rfl) ?_
      rintro _ _ ⟨rfl, e9⟩
      have e9 := e9.symm
      subst e9
      refine p_lret dX12_meanFirst_103 rfl ?_
      refine ⟨_, rfl, MQq.of hg9 hW ?_ ?_⟩ <;> unfold pa_meanFirst <;> rw [if_neg (by omega), Int.toNat_natCast, if_pos hsy]
      · rw [hun]
      · exact k11
    · have hsy : ¬ q_say (M 127) (M 129) n = true := if_nne0 h24
      refine p_aload_n 28 dX12_meanFirst_27 rfl rfl (by decide) ?_
      refine p_iconst 29 dX12_meanFirst_28 ?_
      refine p_callV1i 124 32 dX12_meanFirst_29 s_no lk_X12_168 mX12_no rfl rfl (by omega) (Nat.le_of_ble_eq_true rfl) ?_
      rintro _ _ ⟨rfl, rfl⟩
      refine p_i2l 33 dX12_meanFirst_32 ?_
      refine p_lret dX12_meanFirst_33 rfl ?_
      refine ⟨_, rfl, MQq.of hid_no hW ?_ ?_⟩ <;> unfold pa_meanFirst <;> rw [if_neg (by omega), Int.toNat_natCast, if_neg hsy] <;> rfl
  · have h9f : ¬ (M 124 14 = 1 ∧ 0 ≤ w ∧ w < M 127 4) := if_nne0 h9
    refine p_aload_n 13 dX12_meanFirst_12 rfl rfl (by decide) ?_
    refine p_iconst 14 dX12_meanFirst_13 ?_
    refine p_callV1i 124 17 dX12_meanFirst_14 s_no lk_X12_168 mX12_no rfl rfl (by omega) (Nat.le_of_ble_eq_true rfl) ?_
    rintro _ _ ⟨rfl, rfl⟩
    refine p_i2l 18 dX12_meanFirst_17 ?_
    refine p_lret dX12_meanFirst_18 rfl ?_
    exact ⟨_, rfl, MQq.of hid_no hW (by unfold pa_meanFirst; (repeat' split) <;> first | rfl | (exfalso; omega)) (by unfold pa_meanFirst; (repeat' split) <;> first | rfl | (exfalso; omega))⟩
theorem m_within {l : Launch} {X : ZX} {M : ZM} (hW : zWm M) (hF : WF M) {v b : Int} (hv1 : -2147483648 ≤ v) (hv2 : v < 2147483648) (hb : b = 0 ∨ b = 1) : zCl l X 5 yX12_within tX12_within [zr 124, zi v, zi b] M (MQq M (pa_within (M 124 14) (M 127) (M 129) v b)) := by
  have hWg : zWm (zset (zset M 124 0 0) 124 11 0) := (hW.set (by decide +kernel)).set (by decide +kernel)
  have hR := hF.r
  have hT := hF.t
  have hh := hF.h
  have e0 : M 127 0 = (q_n (M 127) 0 : Int) := hR.n (by decide)
  have e2 : M 127 2 = (q_n (M 127) 2 : Int) := hR.n (by decide)
  have e3 : M 127 3 = (q_n (M 127) 3 : Int) := hR.n (by decide)
  have e4 : M 127 4 = (q_n (M 127) 4 : Int) := hR.n (by decide)
  have bR := hR.2.1
  have h20 : M 124 14 = 0 → M 127 2 = 0 := fun h => hF.r0 h 2 (by decide)
  have h30 : M 124 14 = 0 → M 127 3 = 0 := fun h => hF.r0 h 3 (by decide)
  have h40 : M 124 14 = 0 → M 127 4 = 0 := fun h => hF.r0 h 4 (by decide)
  have b4 := bR.2.2.2.2.1
  have hp7 := p7 (n := q_n (M 127) 4) (by omega)
  have htl := q_ts_lt (M 127) (M 129)
  have hto7 : q_ts (M 127) (M 129) < 128 := by omega
  have hol := q_odds_le hR (q_ts (M 127) (M 129))
  have hkl := q_cost_le hR 7 (q_ts (M 127) (M 129))
  have hul := q_un_lt (q_n (M 127) 4) (M 129 14).toNat
  have hD7 : (M 129 14).toNat < 2 ^ q_n (M 127) 4 := hT.said2 hR
  have e14 : M 129 14 = ((M 129 14).toNat : Int) := by have := hT.1 14 (by decide); omega
  have t160 := hT.1 16 (by decide)
  have t161 := hT.2.2.2.2.1
  have hG11 : zset (zset M 124 0 0) 124 11 0 124 11 = 0 := rfl
  have hob := q_odds_le hR (q_un (q_n (M 127) 4) (M 129 14).toNat)
  have hlk := q_lk_le (M 127) (q_un (q_n (M 127) 4) (M 129 14).toNat) v ((q_un (q_n (M 127) 4) (M 129 14).toNat) + 1)
  have hol2 := q_odds_le hR (q_lk (M 127) (q_un (q_n (M 127) 4) (M 129 14).toNat) v ((q_un (q_n (M 127) 4) (M 129 14).toNat) + 1))
  refine zC.of [some (zr 124), some (zi v), some (zi b), none] (by decide +kernel) rfl rfl (Nat.le_of_ble_eq_true rfl) rfl ?_
  refine p_aload_n 1 dX12_within_0 rfl rfl (by decide) ?_
  refine p_callV0v 124 4 dX12_within_1 s_good lk_X12_165 mX12_good rfl rfl (by decide) (Nat.le_of_ble_eq_true rfl) ?_
  rintro _ rfl
  refine p_aload_n 5 dX12_within_4 rfl rfl (by decide) ?_
  refine p_iload_n 6 dX12_within_5 rfl rfl ?_
  refine p_callV1i 124 9 dX12_within_6 (s_minutesWhy hWg (by exact hh) hv1 hv2) lk_X12_346 mX12_minutesWhy rfl rfl (by decide) (Nat.le_of_ble_eq_true rfl) ?_
  rintro _ _ ⟨rfl, e9⟩
  have e9 := e9.symm
  subst e9
  generalize hw9 : (if zset (zset M 124 0 0) 124 11 0 124 14 = 0 then (1 : Int) else if 0 ≤ v ∧ v ≤ 300 then 0 else 2) = y9
  have hy9 : (M 124 14 = 0 ∧ y9 = 1) ∨ (M 124 14 = 1 ∧ (v < 0 ∨ 300 < v) ∧ y9 = 2) ∨ (M 124 14 = 1 ∧ 0 ≤ v ∧ v ≤ 300 ∧ y9 = 0) := by
    have hg : zset (zset M 124 0 0) 124 11 0 124 14 = M 124 14 := rfl
    rw [hg] at hw9
    by_cases g1 : M 124 14 = 0
    · rw [if_pos g1] at hw9; omega
    · by_cases g2 : 0 ≤ v ∧ v ≤ 300
      · rw [if_neg g1, if_pos g2] at hw9; omega
      · rw [if_neg g1, if_neg g2] at hw9; omega
  refine p_istore_n 10 dX12_within_9 rfl (Nat.le_of_ble_eq_true rfl) rfl rfl ?_
  dsimp only [List.set]
  refine p_iload_n 11 dX12_within_10 rfl rfl ?_
  refine p_if_eq 21 14 dX12_within_11 (by omega) (by omega) (fun h11 => ?_) (fun h11 => ?_)
  · have hy0 : M 124 14 = 1 ∧ 0 ≤ v ∧ v ≤ 300 := by omega
    have h1 := hy0.1
    have hR1 := hF.r1 h1
    refine p_aload_n 22 dX12_within_21 rfl rfl (by decide) ?_
    refine p_callV0i 124 25 dX12_within_22 (s_isOver (ρ := M 127) (τ := M 129) hR hR1 hWg (fun _ _ => rfl) (fun _ _ => rfl) hT) lk_X12_339 mX12_isOver rfl rfl (by decide) (Nat.le_of_ble_eq_true rfl) ?_
    rintro _ _ ⟨rfl, e9⟩
    have e9 := e9.symm
    subst e9
    refine p_if_eq 37 28 dX12_within_25 (by split <;> omega) (by split <;> omega) (fun h25 => ?_) (fun h25 => ?_)
    · have hov : ¬ (0 < M 129 16 ∨ (q_un (q_n (M 127) 4) (M 129 14).toNat) = 0) := if_eq0 h25
      have hun : (q_un (q_n (M 127) 4) (M 129 14).toNat) = (q_ts (M 127) (M 129)) := q_ts_un (by omega)
      have hne : (q_ts (M 127) (M 129)) ≠ 0 := by omega
      have hop := q_odds_pos hR hR1 hne htl
      rw [← hun] at hop
      refine p_aload_n 38 dX12_within_37 rfl rfl (by decide) ?_
      refine p_aload_n 39 dX12_within_38 rfl rfl (by decide) ?_
      refine p_iload_n 40 dX12_within_39 rfl rfl ?_
      refine p_callV1i 124 43 dX12_within_40 (s_wordsIn (ρ := M 127) (τ := M 129) hR hR1 hWg (fun _ _ => rfl) (fun _ _ => rfl) hT hv1 hv2) lk_X12_349 mX12_wordsIn rfl rfl (by decide) (Nat.le_of_ble_eq_true rfl) ?_
      rintro _ _ ⟨rfl, e9⟩
      have e9 := e9.symm
      subst e9
      rw [if_neg (by omega)]
      refine p_callV1i 124 46 dX12_within_43 (s_oddsIn (ρ := M 127) hWg (fun _ _ => rfl) hR (S := (q_lk (M 127) (q_un (q_n (M 127) 4) (M 129 14).toNat) v ((q_un (q_n (M 127) 4) (M 129 14).toNat) + 1))) (by omega)) lk_X12_322 mX12_oddsIn rfl rfl (by decide) (Nat.le_of_ble_eq_true rfl) ?_
      rintro _ _ ⟨rfl, e9⟩
      have e9 := e9.symm
      subst e9
      refine p_i2l 47 dX12_within_46 ?_
      rw [w32_id (n := ((q_odds (q_n (M 127)) (q_lk (M 127) (q_un (q_n (M 127) 4) (M 129 14).toNat) v ((q_un (q_n (M 127) 4) (M 129 14).toNat) + 1)) : Nat) : Int)) (by omega) (by omega)]
      refine p_aload_n 48 dX12_within_47 rfl rfl (by decide) ?_
      refine p_aload_n 49 dX12_within_48 rfl rfl (by decide) ?_
      refine p_callV0i 124 52 dX12_within_49 (s_unsaid (ρ := M 127) hWg (fun _ _ => rfl) hR (τ := M 129) (fun _ _ => rfl) hT) lk_X12_319 mX12_unsaid rfl rfl (by decide) (Nat.le_of_ble_eq_true rfl) ?_
      rintro _ _ ⟨rfl, e9⟩
      have e9 := e9.symm
      subst e9
      refine p_callV1i 124 55 dX12_within_52 (s_oddsIn (ρ := M 127) hWg (fun _ _ => rfl) hR (S := (q_un (q_n (M 127) 4) (M 129 14).toNat)) (by omega)) lk_X12_322 mX12_oddsIn rfl rfl (by decide) (Nat.le_of_ble_eq_true rfl) ?_
      rintro _ _ ⟨rfl, e9⟩
      have e9 := e9.symm
      subst e9
      refine p_i2l 56 dX12_within_55 ?_
      rw [w32_id (n := (((q_odds (q_n (M 127)) (q_un (q_n (M 127) 4) (M 129 14).toNat)) : Nat) : Int)) (by omega) (by omega)]
      refine p_iload_n 57 dX12_within_56 rfl rfl ?_
      refine p_callS3l 60 dX12_within_57 (s_lowest (u := q_odds (q_n (M 127)) (q_lk (M 127) (q_un (q_n (M 127) 4) (M 129 14).toNat) v ((q_un (q_n (M 127) 4) (M 129 14).toNat) + 1))) (v := (q_odds (q_n (M 127)) (q_un (q_n (M 127) 4) (M 129 14).toNat))) hb (by omega) (by omega) (by omega)) lk_X12_315 mX12_lowest (by decide) (Nat.le_of_ble_eq_true rfl) ?_
      rintro _ _ ⟨rfl, e9⟩
      have e9 := e9.symm
      subst e9
      refine p_lret dX12_within_60 rfl ?_
      first
        | (refine ⟨_, rfl, MQq.of hid_good hW ?_ ?_⟩ <;> unfold pa_within <;> rw [if_neg (by omega), if_neg (by omega), if_pos hts]
           rfl)
        | (refine ⟨_, rfl, MQq.of hid_good hW ?_ ?_⟩ <;> unfold pa_within <;> rw [if_neg (by omega), if_neg (by omega), if_neg hne]
           · rw [hun]
           · rfl)
    · have hov : 0 < M 129 16 ∨ (q_un (q_n (M 127) 4) (M 129 14).toNat) = 0 := if_neq0 h25
      have hts : (q_ts (M 127) (M 129)) = 0 := by
        unfold q_ts
        split <;> omega
      refine p_lconst (z := 0) 29 dX12_within_28 rfl ?_
      refine p_lconst (z := 1) 30 dX12_within_29 rfl ?_
      refine p_iload_n 31 dX12_within_30 rfl rfl ?_
      refine p_callS3l 34 dX12_within_31 (s_lowest (u := 0) (v := 1) hb (by decide) (by decide) (by decide)) lk_X12_315 mX12_lowest (by decide) (Nat.le_of_ble_eq_true rfl) ?_
      rintro _ _ ⟨rfl, e9⟩
      have e9 := e9.symm
      subst e9
      refine p_goto 60 dX12_within_34 ?_
      refine p_lret dX12_within_60 rfl ?_
      first
        | (refine ⟨_, rfl, MQq.of hid_good hW ?_ ?_⟩ <;> unfold pa_within <;> rw [if_neg (by omega), if_neg (by omega), if_pos hts]
           rfl)
        | (refine ⟨_, rfl, MQq.of hid_good hW ?_ ?_⟩ <;> unfold pa_within <;> rw [if_neg (by omega), if_neg (by omega), if_neg hne]
           · rw [hun]
           · rfl)
  · refine p_aload_n 15 dX12_within_14 rfl rfl (by decide) ?_
    refine p_iload_n 16 dX12_within_15 rfl rfl ?_
    refine p_callV1i 124 19 dX12_within_16 s_no lk_X12_168 mX12_no rfl rfl (by decide) (Nat.le_of_ble_eq_true rfl) ?_
    rintro _ _ ⟨rfl, rfl⟩
    refine p_i2l 20 dX12_within_19 ?_
    refine p_lret dX12_within_20 rfl ?_
    rcases hy9 with ⟨g1, g2⟩ | ⟨g1, g2, g3⟩ | ⟨g1, g2, g3, g4⟩
    · subst g2
      exact ⟨_, rfl, MQq.of hid_no hW (by unfold pa_within; (repeat' split) <;> first | rfl | (exfalso; omega)) (by unfold pa_within; (repeat' split) <;> first | rfl | (exfalso; omega))⟩
    · subst g3
      exact ⟨_, rfl, MQq.of hid_no hW (by unfold pa_within; (repeat' split) <;> first | rfl | (exfalso; omega)) (by unfold pa_within; (repeat' split) <;> first | rfl | (exfalso; omega))⟩
    · exact absurd g4 h11
theorem m_withinWords {l : Launch} {X : ZX} {M : ZM} (hW : zWm M) (hF : WF M) {v : Int} (hv1 : -2147483648 ≤ v) (hv2 : v < 2147483648) : zCi l X 4 yX12_withinWords tX12_withinWords [zr 124, zi v] M (MQq M (pa_withinWords (M 124 14) (M 127) (M 129) v)) := by
  have hWg : zWm (zset (zset M 124 0 0) 124 11 0) := (hW.set (by decide +kernel)).set (by decide +kernel)
  have hR := hF.r
  have hT := hF.t
  have hh := hF.h
  have e0 : M 127 0 = (q_n (M 127) 0 : Int) := hR.n (by decide)
  have e2 : M 127 2 = (q_n (M 127) 2 : Int) := hR.n (by decide)
  have e3 : M 127 3 = (q_n (M 127) 3 : Int) := hR.n (by decide)
  have e4 : M 127 4 = (q_n (M 127) 4 : Int) := hR.n (by decide)
  have bR := hR.2.1
  have h20 : M 124 14 = 0 → M 127 2 = 0 := fun h => hF.r0 h 2 (by decide)
  have h30 : M 124 14 = 0 → M 127 3 = 0 := fun h => hF.r0 h 3 (by decide)
  have h40 : M 124 14 = 0 → M 127 4 = 0 := fun h => hF.r0 h 4 (by decide)
  have b4 := bR.2.2.2.2.1
  have hp7 := p7 (n := q_n (M 127) 4) (by omega)
  have htl := q_ts_lt (M 127) (M 129)
  have hto7 : q_ts (M 127) (M 129) < 128 := by omega
  have hol := q_odds_le hR (q_ts (M 127) (M 129))
  have hkl := q_cost_le hR 7 (q_ts (M 127) (M 129))
  have hul := q_un_lt (q_n (M 127) 4) (M 129 14).toNat
  have hD7 : (M 129 14).toNat < 2 ^ q_n (M 127) 4 := hT.said2 hR
  have e14 : M 129 14 = ((M 129 14).toNat : Int) := by have := hT.1 14 (by decide); omega
  have t160 := hT.1 16 (by decide)
  have t161 := hT.2.2.2.2.1
  have hG11 : zset (zset M 124 0 0) 124 11 0 124 11 = 0 := rfl
  refine zC.of [some (zr 124), some (zi v), none] (by decide +kernel) rfl rfl (Nat.le_of_ble_eq_true rfl) rfl ?_
  refine p_aload_n 1 dX12_withinWords_0 rfl rfl (by decide) ?_
  refine p_callV0v 124 4 dX12_withinWords_1 s_good lk_X12_165 mX12_good rfl rfl (by decide) (Nat.le_of_ble_eq_true rfl) ?_
  rintro _ rfl
  refine p_aload_n 5 dX12_withinWords_4 rfl rfl (by decide) ?_
  refine p_iload_n 6 dX12_withinWords_5 rfl rfl ?_
  refine p_callV1i 124 9 dX12_withinWords_6 (s_minutesWhy hWg (by exact hh) hv1 hv2) lk_X12_346 mX12_minutesWhy rfl rfl (by decide) (Nat.le_of_ble_eq_true rfl) ?_
  rintro _ _ ⟨rfl, e9⟩
  have e9 := e9.symm
  subst e9
  generalize hw9 : (if zset (zset M 124 0 0) 124 11 0 124 14 = 0 then (1 : Int) else if 0 ≤ v ∧ v ≤ 300 then 0 else 2) = y9
  have hy9 : (M 124 14 = 0 ∧ y9 = 1) ∨ (M 124 14 = 1 ∧ (v < 0 ∨ 300 < v) ∧ y9 = 2) ∨ (M 124 14 = 1 ∧ 0 ≤ v ∧ v ≤ 300 ∧ y9 = 0) := by
    have hg : zset (zset M 124 0 0) 124 11 0 124 14 = M 124 14 := rfl
    rw [hg] at hw9
    by_cases g1 : M 124 14 = 0
    · rw [if_pos g1] at hw9; omega
    · by_cases g2 : 0 ≤ v ∧ v ≤ 300
      · rw [if_neg g1, if_pos g2] at hw9; omega
      · rw [if_neg g1, if_neg g2] at hw9; omega
  refine p_istore_n 10 dX12_withinWords_9 rfl (Nat.le_of_ble_eq_true rfl) rfl rfl ?_
  dsimp only [List.set]
  refine p_iload_n 11 dX12_withinWords_10 rfl rfl ?_
  refine p_if_eq 22 14 dX12_withinWords_11 (by omega) (by omega) (fun h11 => ?_) (fun h11 => ?_)
  · have hy0 : M 124 14 = 1 ∧ 0 ≤ v ∧ v ≤ 300 := by omega
    have h1 := hy0.1
    have hR1 := hF.r1 h1
    refine p_aload_n 23 dX12_withinWords_22 rfl rfl (by decide) ?_
    refine p_iload_n 24 dX12_withinWords_23 rfl rfl ?_
    refine p_callV1i 124 27 dX12_withinWords_24 (s_wordsIn (ρ := M 127) (τ := M 129) hR hR1 hWg (fun _ _ => rfl) (fun _ _ => rfl) hT hv1 hv2) lk_X12_349 mX12_wordsIn rfl rfl (by decide) (Nat.le_of_ble_eq_true rfl) ?_
    rintro _ _ ⟨rfl, e9⟩
    have e9 := e9.symm
    subst e9
    refine p_iret dX12_withinWords_27 rfl ?_
    refine ⟨_, rfl, MQq.of hid_good hW ?_ ?_⟩ <;> unfold pa_withinWords
    · by_cases g : 0 < M 129 16
      · rw [if_pos g, if_neg (by omega), if_neg (by omega), q_ts_w g, q_lk_one]
        rfl
      · rw [if_neg g, if_neg (by omega), if_neg (by omega), q_ts_un g]
    · rw [if_neg (by omega), if_neg (by omega)]
      rfl
  · refine p_aload_n 15 dX12_withinWords_14 rfl rfl (by decide) ?_
    refine p_iload_n 16 dX12_withinWords_15 rfl rfl ?_
    refine p_callV1i 124 19 dX12_withinWords_16 s_no lk_X12_168 mX12_no rfl rfl (by decide) (Nat.le_of_ble_eq_true rfl) ?_
    rintro _ _ ⟨rfl, rfl⟩
    refine p_goto 27 dX12_withinWords_19 ?_
    refine p_iret dX12_withinWords_27 rfl ?_
    rcases hy9 with ⟨g1, g2⟩ | ⟨g1, g2, g3⟩ | ⟨g1, g2, g3, g4⟩
    · subst g2
      exact ⟨_, rfl, MQq.of hid_no hW (by unfold pa_withinWords; (repeat' split) <;> first | rfl | (exfalso; omega)) (by unfold pa_withinWords; (repeat' split) <;> first | rfl | (exfalso; omega))⟩
    · subst g3
      exact ⟨_, rfl, MQq.of hid_no hW (by unfold pa_withinWords; (repeat' split) <;> first | rfl | (exfalso; omega)) (by unfold pa_withinWords; (repeat' split) <;> first | rfl | (exfalso; omega))⟩
    · exact absurd g4 h11
theorem m_rows {l : Launch} {X : ZX} {M : ZM} (hW : zWm M) (hF : WF M)  : zCi l X 11 yX12_rows tX12_rows [zr 124] M (MQq M (pa_rows (M 124 14) (M 127) (M 129))) := by
  have hWg : zWm (zset (zset M 124 0 0) 124 11 0) := (hW.set (by decide +kernel)).set (by decide +kernel)
  have hR := hF.r
  have hT := hF.t
  have hh := hF.h
  have e0 : M 127 0 = (q_n (M 127) 0 : Int) := hR.n (by decide)
  have e2 : M 127 2 = (q_n (M 127) 2 : Int) := hR.n (by decide)
  have e3 : M 127 3 = (q_n (M 127) 3 : Int) := hR.n (by decide)
  have e4 : M 127 4 = (q_n (M 127) 4 : Int) := hR.n (by decide)
  have bR := hR.2.1
  have h20 : M 124 14 = 0 → M 127 2 = 0 := fun h => hF.r0 h 2 (by decide)
  have h30 : M 124 14 = 0 → M 127 3 = 0 := fun h => hF.r0 h 3 (by decide)
  have h40 : M 124 14 = 0 → M 127 4 = 0 := fun h => hF.r0 h 4 (by decide)
  have b4 := bR.2.2.2.2.1
  have hp7 := p7 (n := q_n (M 127) 4) (by omega)
  have htl := q_ts_lt (M 127) (M 129)
  have hto7 : q_ts (M 127) (M 129) < 128 := by omega
  have hol := q_odds_le hR (q_ts (M 127) (M 129))
  have hkl := q_cost_le hR 7 (q_ts (M 127) (M 129))
  have hul := q_un_lt (q_n (M 127) 4) (M 129 14).toNat
  have hD7 : (M 129 14).toNat < 2 ^ q_n (M 127) 4 := hT.said2 hR
  have e14 : M 129 14 = ((M 129 14).toNat : Int) := by have := hT.1 14 (by decide); omega
  have t160 := hT.1 16 (by decide)
  have t161 := hT.2.2.2.2.1
  have hG11 : zset (zset M 124 0 0) 124 11 0 124 11 = 0 := rfl
  refine zC.of [some (zr 124)] (by decide +kernel) rfl rfl (Nat.le_of_ble_eq_true rfl) rfl ?_
  refine p_aload_n 1 dX12_rows_0 rfl rfl (by decide) ?_
  refine p_callV0v 124 4 dX12_rows_1 s_good lk_X12_165 mX12_good rfl rfl (by decide) (Nat.le_of_ble_eq_true rfl) ?_
  rintro _ rfl
  refine p_aload_n 5 dX12_rows_4 rfl rfl (by decide) ?_
  refine p_getI 124 8 dX12_rows_5 fX12_178 rfl ?_
  refine p_if_ne 17 11 dX12_rows_8 (by show _ ≤ M 124 14; omega) (by show M 124 14 < _; omega) (fun h8 => ?_) (fun h8 => ?_)
  · have h8 : ¬ M 124 14 = 0 := h8
    have h1 : M 124 14 = 1 := by omega
    have hR1 := hF.r1 h1
    refine p_aload_n 18 dX12_rows_17 rfl rfl (by decide) ?_
    refine p_callV0v 124 21 dX12_rows_18 (s_seekRows (ρ := M 127) (τ := M 129) hR hR1 hWg (fun _ _ => rfl) (fun _ _ => rfl) hT) lk_X12_343 mX12_seekRows rfl rfl (by decide) (Nat.le_of_ble_eq_true rfl) ?_
    rintro M9 ⟨hh9, k11, k29, k28, k136⟩
    have hW9 : zWm M9 := hh9.wm hWg
    have hE9 : ∀ i, i < 421 → M9 127 i = M 127 i := fun i _ => hh9.2 127 i (by simp [q_hid]) (by omega) (by omega)
    have hU9 : ∀ i, i < 18 → M9 129 i = M 129 i := fun i _ => hh9.2 129 i (by simp [q_hid]) (by omega) (by omega)
    have hg9 := hid_good.trans hh9
    have k11 : M9 124 11 = 0 := k11
    refine p_aload_n 22 dX12_rows_21 rfl rfl (by decide) ?_
    refine p_getI 124 25 dX12_rows_22 fX12_332 rfl ?_
    refine p_iret dX12_rows_25 rfl ?_
    refine ⟨_, rfl, MQq.of hg9 hW ?_ ?_⟩ <;> unfold pa_rows <;> rw [if_neg (by omega)]
    · exact k29
    · exact k11
  · have h8 : ¬ M 124 14 ≠ 0 := h8
    refine p_aload_n 12 dX12_rows_11 rfl rfl (by decide) ?_
    refine p_iconst 13 dX12_rows_12 ?_
    refine p_callV1i 124 16 dX12_rows_13 s_no lk_X12_168 mX12_no rfl rfl (by decide) (Nat.le_of_ble_eq_true rfl) ?_
    rintro _ _ ⟨rfl, rfl⟩
    refine p_iret dX12_rows_16 rfl ?_
    exact ⟨_, rfl, MQq.of hid_no hW (by unfold pa_rows; (repeat' split) <;> first | rfl | (exfalso; omega)) (by unfold pa_rows; (repeat' split) <;> first | rfl | (exfalso; omega))⟩
