theorem zset_at (M : ZM) (c k : Nat) (v : Int) : zset M c k v c k = v := by
  unfold zset
  rw [if_pos rfl, if_pos rfl]
theorem s_worthWhy {l : Launch} {X : ZX} {M : ZM} (hW : zWm M) (hh : M 124 14 = 0 ∨ M 124 14 = 1) {v : Int} (hv1 : -2147483648 ≤ v) (hv2 : v < 2147483648) : zCi l X 1 yX12_worthWhy tX12_worthWhy [zr 124, zi v] M (fun a M' => a = (if M 124 14 = 0 then 1 else if 0 ≤ v ∧ v ≤ 99 then 0 else 2) ∧ M' = M) := by
  refine zC.of [some (zr 124), some (zi v)] (by decide +kernel) rfl rfl (Nat.le_of_ble_eq_true rfl) rfl ?_
  refine p_aload_n 1 dX12_worthWhy_0 rfl rfl (by decide) ?_
  refine p_getI 124 4 dX12_worthWhy_1 fX12_178 rfl ?_
  refine p_if_ne 11 7 dX12_worthWhy_4 (by omega) (by omega) (fun h4 => ?_) (fun h4 => ?_)
  · refine p_iload_n 12 dX12_worthWhy_11 rfl rfl ?_
    refine p_iconst 13 dX12_worthWhy_12 ?_
    refine p_bipush 15 dX12_worthWhy_13 rfl ?_
    refine p_callS3i 18 dX12_worthWhy_15 (s_in (by omega) (by omega) (by omega) (by omega) (by omega) (by omega)) lk_X12_146 mX12_in (by decide) (Nat.le_of_ble_eq_true rfl) ?_
    rintro _ _ ⟨rfl, e9⟩
    have e9 := e9.symm
    subst e9
    refine p_if_eq 25 21 dX12_worthWhy_18 (by split <;> omega) (by split <;> omega) (fun h18 => ?_) (fun h18 => ?_)
    · have h18 := if_eq0 h18
      refine p_iconst 26 dX12_worthWhy_25 ?_
      refine p_iret dX12_worthWhy_26 rfl ?_
      refine ⟨_, rfl, ?_, rfl⟩
      (repeat' split) <;> first | rfl | (exfalso; omega)
    · have h18 := if_neq0 h18
      refine p_iconst 22 dX12_worthWhy_21 ?_
      refine p_goto 26 dX12_worthWhy_22 ?_
      refine p_iret dX12_worthWhy_26 rfl ?_
      refine ⟨_, rfl, ?_, rfl⟩
      (repeat' split) <;> first | rfl | (exfalso; omega)
  · refine p_iconst 8 dX12_worthWhy_7 ?_
    refine p_goto 26 dX12_worthWhy_8 ?_
    refine p_iret dX12_worthWhy_26 rfl ?_
    refine ⟨_, rfl, ?_, rfl⟩
    (repeat' split) <;> first | rfl | (exfalso; omega)
theorem l_seekRestsB {l : Launch} {X : ZX} {M : ZM} {w : Nat} (hw : w ≤ 99) {a : Nat} (ha : a ≤ 6) {Q : Option ZV → ZM → Prop} (kk : ∀ o : List (Option ZV), o = [some (zr 124), some (zi (w : Int)), some (zi (q_rc w (7 * a + 7) : Int)), some (zi (a : Int)), some (zi ((7 : Nat) : Int))] → zP l X 2 tX12_seekRests 63 o [] (zset M 124 34 (q_fr w (7 * a + 7))) Q) : ∀ (j i : Nat), i + j = 7 → zP l X 2 tX12_seekRests 19 [some (zr 124), some (zi (w : Int)), some (zi (q_rc w (7 * a + i) : Int)), some (zi (a : Int)), some (zi (i : Int))] [] (zset M 124 34 (q_fr w (7 * a + i))) (Q) := by
  intro j
  induction j with
  | zero =>
    intro i hi
    refine p_iload 21 dX12_seekRests_19 rfl ?_
    refine p_bipush 23 dX12_seekRests_21 rfl ?_
    refine p_icmp_gt 63 26 dX12_seekRests_23 (by omega) (by omega) (by omega) (by omega) (fun h23 => ?_) (fun h23 => absurd (by omega) (fun h9 : False => h9))
    rw [Nat.add_zero] at hi
    subst hi
    exact kk _ rfl
  | succ j ih =>
    intro i hi
    have hrc := q_rc_le w (7 * a + i)
    have hfr := q_fr_rc w (7 * a + i)
    have er : q_rc w (7 * a + i + 1) = q_rc w (7 * a + i) + (if q_rest w ((7 * a + i) / 7) ((7 * a + i) % 7) then 1 else 0) := rfl
    have ef : q_fr w (7 * a + i + 1) = if q_fr w (7 * a + i) = -2 ∧ q_rest w ((7 * a + i) / 7) ((7 * a + i) % 7) = true then ((10 * ((7 * a + i) / 7) + (7 * a + i) % 7 : Nat) : Int) else q_fr w (7 * a + i) := rfl
    rw [show (7 * a + i) / 7 = a by omega, show (7 * a + i) % 7 = i by omega] at er ef
    have e1 : ¬ q_rest w a i = true → q_rc w (7 * a + i + 1) = q_rc w (7 * a + i) := fun h => by rw [er, if_neg h, Nat.add_zero]
    have e2 : ¬ q_rest w a i = true → q_fr w (7 * a + i + 1) = q_fr w (7 * a + i) := fun h => by rw [ef, if_neg (fun g => h g.2)]
    have e3 : q_rest w a i = true → ((q_rc w (7 * a + i + 1) : Nat) : Int) = (q_rc w (7 * a + i) : Int) + 1 := fun h => by rw [er, if_pos h]; omega
    have e4 : q_rest w a i = true → q_rc w (7 * a + i) = 0 → q_fr w (7 * a + i + 1) = 10 * (a : Int) + (i : Int) := fun h g => by rw [ef, if_pos ⟨hfr.mp g, h⟩]; omega
    have e5 : q_rest w a i = true → ¬ q_rc w (7 * a + i) = 0 → q_fr w (7 * a + i + 1) = q_fr w (7 * a + i) := fun h g => by rw [ef, if_neg (fun g2 => g (hfr.mpr g2.1))]
    refine p_iload 21 dX12_seekRests_19 rfl ?_
    refine p_bipush 23 dX12_seekRests_21 rfl ?_
    refine p_icmp_gt 63 26 dX12_seekRests_23 (by omega) (by omega) (by omega) (by omega) (fun h23 => absurd (by omega) (fun h9 : False => h9)) (fun h23 => ?_)
    refine p_iload_n 27 dX12_seekRests_26 rfl rfl ?_
    refine p_iload_n 28 dX12_seekRests_27 rfl rfl ?_
    refine p_iload 30 dX12_seekRests_28 rfl ?_
    refine p_callS3i 33 dX12_seekRests_30 (s_isRestM hw (a := a) (b := i) ha (by omega)) lk_X12_413 mX12_isRest (by decide) (Nat.le_of_ble_eq_true rfl) ?_
    rintro _ _ ⟨rfl, e9⟩
    have e9 := e9.symm
    subst e9
    refine p_if_ne 39 36 dX12_seekRests_33 (by split <;> omega) (by split <;> omega) (fun h33 => ?_) (fun h33 => ?_)
    · have h33 := if_ne0 h33
      refine p_iload_n 40 dX12_seekRests_39 rfl rfl ?_
      refine p_if_ne 54 43 dX12_seekRests_40 (by omega) (by omega) (fun h40 => ?_) (fun h40 => ?_)
      · refine p_iinc 57 dX12_seekRests_54 rfl rfl rfl ?_
        dsimp only [List.set]
        refine p_iinc 60 dX12_seekRests_57 rfl rfl rfl ?_
        dsimp only [List.set]
        refine p_goto 19 dX12_seekRests_60 ?_
        have e := ih (i + 1) (by omega)
        rw [show 7 * a + (i + 1) = 7 * a + i + 1 by omega] at e
        first
          | (rw [e1 h33, e2 h33] at e; exact e)
          | (rw [zset_zset]
             rw [e3 h33, e4 h33 (by omega)] at e
             exact e)
          | (rw [e3 h33, e5 h33 (by omega)] at e
             exact e)
      · refine p_aload_n 44 dX12_seekRests_43 rfl rfl (by decide) ?_
        refine p_bipush 46 dX12_seekRests_44 rfl ?_
        refine p_iload_n 47 dX12_seekRests_46 rfl rfl ?_
        refine p_imul 48 dX12_seekRests_47 ?_
        refine p_iload 50 dX12_seekRests_48 rfl ?_
        refine p_iadd 51 dX12_seekRests_50 ?_
        refine p_putI 124 54 dX12_seekRests_51 wX12_410 rfl ?_
        refine p_iinc 57 dX12_seekRests_54 rfl rfl rfl ?_
        dsimp only [List.set]
        refine p_iinc 60 dX12_seekRests_57 rfl rfl rfl ?_
        dsimp only [List.set]
        refine p_goto 19 dX12_seekRests_60 ?_
        have e := ih (i + 1) (by omega)
        rw [show 7 * a + (i + 1) = 7 * a + i + 1 by omega] at e
        first
          | (rw [e1 h33, e2 h33] at e; exact e)
          | (rw [zset_zset]
             rw [e3 h33, e4 h33 (by omega)] at e
             exact e)
          | (rw [e3 h33, e5 h33 (by omega)] at e
             exact e)
    · have h33 := if_nne0 h33
      refine p_goto 57 dX12_seekRests_36 ?_
      refine p_iinc 60 dX12_seekRests_57 rfl rfl rfl ?_
      dsimp only [List.set]
      refine p_goto 19 dX12_seekRests_60 ?_
      have e := ih (i + 1) (by omega)
      rw [show 7 * a + (i + 1) = 7 * a + i + 1 by omega] at e
      first
        | (rw [e1 h33, e2 h33] at e; exact e)
        | (rw [zset_zset]
           rw [e3 h33, e4 h33 (by omega)] at e
           exact e)
        | (rw [e3 h33, e5 h33 (by omega)] at e
           exact e)
theorem l_seekRestsA {l : Launch} {X : ZX} {M : ZM} {w : Nat} (hw : w ≤ 99) : ∀ (j i : Nat), i + j = 7 → ∀ o4 : Option ZV, zP l X 2 tX12_seekRests 10 [some (zr 124), some (zi (w : Int)), some (zi (q_rc w (7 * i) : Int)), some (zi (i : Int)), o4] [] (zset M 124 34 (q_fr w (7 * i))) (fun r M' => ∃ x, r = some (zi x) ∧ (x = (q_rc w 49 : Int) ∧ M' = zset M 124 34 (q_fr w 49))) := by
  intro j
  induction j with
  | zero =>
    intro i hi o4
    refine p_iload_n 11 dX12_seekRests_10 rfl rfl ?_
    refine p_bipush 13 dX12_seekRests_11 rfl ?_
    refine p_icmp_gt 69 16 dX12_seekRests_13 (by omega) (by omega) (by omega) (by omega) (fun h13 => ?_) (fun h13 => absurd (by omega) (fun h9 : False => h9))
    refine p_iload_n 70 dX12_seekRests_69 rfl rfl ?_
    refine p_iret dX12_seekRests_70 rfl ?_
    rw [Nat.add_zero] at hi
    subst hi
    exact ⟨_, rfl, rfl, rfl⟩
  | succ j ih =>
    intro i hi o4
    refine p_iload_n 11 dX12_seekRests_10 rfl rfl ?_
    refine p_bipush 13 dX12_seekRests_11 rfl ?_
    refine p_icmp_gt 69 16 dX12_seekRests_13 (by omega) (by omega) (by omega) (by omega) (fun h13 => absurd (by omega) (fun h9 : False => h9)) (fun h13 => ?_)
    refine p_iconst 17 dX12_seekRests_16 ?_
    refine p_istore 19 dX12_seekRests_17 (Nat.le_of_ble_eq_true rfl) rfl rfl ?_
    dsimp only [List.set]
    refine l_seekRestsB hw (a := i) (by omega) (fun o ho => ?_) 7 0 rfl
    subst ho
    refine p_iinc 66 dX12_seekRests_63 rfl rfl rfl ?_
    dsimp only [List.set]
    refine p_goto 10 dX12_seekRests_66 ?_
    have e := ih (i + 1) (by omega) (some (zi ((7 : Nat) : Int)))
    rw [show 7 * (i + 1) = 7 * i + 7 by omega] at e
    exact e
theorem s_seekRests {l : Launch} {X : ZX} {M : ZM} (hW : zWm M) {w : Nat} (hw : w ≤ 99) : zCi l X 2 yX12_seekRests tX12_seekRests [zr 124, zi (w : Int)] M (fun x M' => x = (q_rc w 49 : Int) ∧ M' = zset M 124 34 (q_fr w 49)) := by
  refine zC.of [some (zr 124), some (zi (w : Int)), none, none, none] (by decide +kernel) rfl rfl (Nat.le_of_ble_eq_true rfl) rfl ?_
  refine p_iconst 1 dX12_seekRests_0 ?_
  refine p_istore_n 2 dX12_seekRests_1 rfl (Nat.le_of_ble_eq_true rfl) rfl rfl ?_
  dsimp only [List.set]
  refine p_aload_n 3 dX12_seekRests_2 rfl rfl (by decide) ?_
  refine p_bipush 5 dX12_seekRests_3 rfl ?_
  refine p_putI 124 8 dX12_seekRests_5 wX12_410 rfl ?_
  refine p_iconst 9 dX12_seekRests_8 ?_
  refine p_istore_n 10 dX12_seekRests_9 rfl (Nat.le_of_ble_eq_true rfl) rfl rfl ?_
  dsimp only [List.set]
  exact l_seekRestsA hw 7 0 rfl _
theorem hid_sr {M : ZM} {v : Int} : Hid M (zset (zset (zset M 124 0 0) 124 11 0) 124 34 v) := hid_good.set (c := 124) (k := 34) (Or.inl (by decide +kernel)) (by decide)
theorem hid_nov {M : ZM} {v : Int} : Hid M (zset (zset (zset M 124 0 0) 124 11 0) 124 11 v) := hid_no
theorem m_rests {l : Launch} {X : ZX} {M : ZM} (hW : zWm M) (hF : WF M) {v : Int} (hv1 : -2147483648 ≤ v) (hv2 : v < 2147483648) : zCi l X 3 yX12_rests tX12_rests [zr 124, zi v] M (MQq M (pa_rests (M 124 14) v)) := by
  have hWg : zWm (zset (zset M 124 0 0) 124 11 0) := (hW.set (by decide +kernel)).set (by decide +kernel)
  have hR := hF.r
  have hT := hF.t
  have hh := hF.h
  have e0 : M 127 0 = (q_n (M 127) 0 : Int) := hR.n (by decide)
  have e2 : M 127 2 = (q_n (M 127) 2 : Int) := hR.n (by decide)
  have e3 : M 127 3 = (q_n (M 127) 3 : Int) := hR.n (by decide)
  have e4 : M 127 4 = (q_n (M 127) 4 : Int) := hR.n (by decide)
  have bR := hR.2.1
  have h20 : M 124 14 = 0 → M 127 2 = 0 := fun h => hF.r0 h 2 (by decide)
  have h30 : M 124 14 = 0 → M 127 3 = 0 := fun h => hF.r0 h 3 (by decide)
  have h40 : M 124 14 = 0 → M 127 4 = 0 := fun h => hF.r0 h 4 (by decide)
  refine zC.of [some (zr 124), some (zi v), none] (by decide +kernel) rfl rfl (Nat.le_of_ble_eq_true rfl) rfl ?_
  refine p_aload_n 1 dX12_rests_0 rfl rfl (by decide) ?_
  refine p_callV0v 124 4 dX12_rests_1 s_good lk_X12_165 mX12_good rfl rfl (by decide) (Nat.le_of_ble_eq_true rfl) ?_
  rintro _ rfl
  refine p_aload_n 5 dX12_rests_4 rfl rfl (by decide) ?_
  refine p_iload_n 6 dX12_rests_5 rfl rfl ?_
  refine p_callV1i 124 9 dX12_rests_6 (s_worthWhy hWg hh (by omega) (by omega)) lk_X12_403 mX12_worthWhy rfl rfl (by decide) (Nat.le_of_ble_eq_true rfl) ?_
  rintro _ _ ⟨rfl, e9⟩
  have e9 := e9.symm
  subst e9
  show zP l X 3 tX12_rests 9 _ [zi (if M 124 14 = 0 then 1 else if 0 ≤ v ∧ v ≤ 99 then 0 else 2)] _ _
  refine p_istore_n 10 dX12_rests_9 rfl (Nat.le_of_ble_eq_true rfl) rfl rfl ?_
  dsimp only [List.set]
  refine p_iload_n 11 dX12_rests_10 rfl rfl ?_
  refine p_if_eq 22 14 dX12_rests_11 (by (repeat' split) <;> omega) (by (repeat' split) <;> omega) (fun h11 => ?_) (fun h11 => ?_)
  · have hw1 : ¬ M 124 14 = 0 ∧ 0 ≤ v ∧ v ≤ 99 := by
      by_cases g1 : M 124 14 = 0
      · rw [if_pos g1] at h11; exact absurd h11 (by decide)
      · by_cases g2 : 0 ≤ v ∧ v ≤ 99
        · exact ⟨g1, g2⟩
        · rw [if_neg g1, if_neg g2] at h11; exact absurd h11 (by decide)
    obtain ⟨n, rfl⟩ : ∃ k : Nat, v = (k : Int) := ⟨v.toNat, by omega⟩
    refine p_aload_n 23 dX12_rests_22 rfl rfl (by decide) ?_
    refine p_iload_n 24 dX12_rests_23 rfl rfl ?_
    refine p_callV1i 124 27 dX12_rests_24 (s_seekRests hWg (w := n) (by omega)) lk_X12_416 mX12_seekRests rfl rfl (by decide) (Nat.le_of_ble_eq_true rfl) ?_
    rintro _ _ ⟨rfl, rfl⟩
    refine p_iret dX12_rests_27 rfl ?_
    first
      | (refine ⟨_, rfl, MQq.of hid_nov hW ?_ ?_⟩
         · unfold pa_rests
           (repeat' split) <;> first | (exfalso; omega) | rfl
         · show (if M 124 14 = 0 then 1 else if 0 ≤ v ∧ v ≤ 99 then 0 else 2) = _
           unfold pa_rests
           (repeat' split) <;> first | (exfalso; omega) | rfl)
      | (refine ⟨_, rfl, MQq.of hid_sr hW ?_ ?_⟩
         · unfold pa_rests
           try rw [zset_at]
           rw [if_neg (by omega), if_pos (by omega), Int.toNat_natCast]
         · show (0 : Int) = _
           unfold pa_rests
           rw [if_neg (by omega), if_pos (by omega)])
  · refine p_aload_n 15 dX12_rests_14 rfl rfl (by decide) ?_
    refine p_iload_n 16 dX12_rests_15 rfl rfl ?_
    refine p_callV1i 124 19 dX12_rests_16 s_no lk_X12_168 mX12_no rfl rfl (by decide) (Nat.le_of_ble_eq_true rfl) ?_
    rintro _ _ ⟨rfl, rfl⟩
    refine p_goto 27 dX12_rests_19 ?_
    refine p_iret dX12_rests_27 rfl ?_
    first
      | (refine ⟨_, rfl, MQq.of hid_nov hW ?_ ?_⟩
         · unfold pa_rests
           (repeat' split) <;> first | (exfalso; omega) | rfl
         · show (if M 124 14 = 0 then 1 else if 0 ≤ v ∧ v ≤ 99 then 0 else 2) = _
           unfold pa_rests
           (repeat' split) <;> first | (exfalso; omega) | rfl)
      | (refine ⟨_, rfl, MQq.of hid_sr hW ?_ ?_⟩
         · unfold pa_rests
           try rw [zset_at]
           rw [if_neg (by omega), if_pos (by omega), Int.toNat_natCast]
         · show (0 : Int) = _
           unfold pa_rests
           rw [if_neg (by omega), if_pos (by omega)])
theorem m_rest {l : Launch} {X : ZX} {M : ZM} (hW : zWm M) (hF : WF M) {v : Int} (hv1 : -2147483648 ≤ v) (hv2 : v < 2147483648) : zCi l X 3 yX12_rest tX12_rest [zr 124, zi v] M (MQq M (pa_rest (M 124 14) v)) := by
  have hWg : zWm (zset (zset M 124 0 0) 124 11 0) := (hW.set (by decide +kernel)).set (by decide +kernel)
  have hR := hF.r
  have hT := hF.t
  have hh := hF.h
  have e0 : M 127 0 = (q_n (M 127) 0 : Int) := hR.n (by decide)
  have e2 : M 127 2 = (q_n (M 127) 2 : Int) := hR.n (by decide)
  have e3 : M 127 3 = (q_n (M 127) 3 : Int) := hR.n (by decide)
  have e4 : M 127 4 = (q_n (M 127) 4 : Int) := hR.n (by decide)
  have bR := hR.2.1
  have h20 : M 124 14 = 0 → M 127 2 = 0 := fun h => hF.r0 h 2 (by decide)
  have h30 : M 124 14 = 0 → M 127 3 = 0 := fun h => hF.r0 h 3 (by decide)
  have h40 : M 124 14 = 0 → M 127 4 = 0 := fun h => hF.r0 h 4 (by decide)
  refine zC.of [some (zr 124), some (zi v), none] (by decide +kernel) rfl rfl (Nat.le_of_ble_eq_true rfl) rfl ?_
  refine p_aload_n 1 dX12_rest_0 rfl rfl (by decide) ?_
  refine p_callV0v 124 4 dX12_rest_1 s_good lk_X12_165 mX12_good rfl rfl (by decide) (Nat.le_of_ble_eq_true rfl) ?_
  rintro _ rfl
  refine p_aload_n 5 dX12_rest_4 rfl rfl (by decide) ?_
  refine p_iload_n 6 dX12_rest_5 rfl rfl ?_
  refine p_callV1i 124 9 dX12_rest_6 (s_worthWhy hWg hh (by omega) (by omega)) lk_X12_403 mX12_worthWhy rfl rfl (by decide) (Nat.le_of_ble_eq_true rfl) ?_
  rintro _ _ ⟨rfl, e9⟩
  have e9 := e9.symm
  subst e9
  show zP l X 3 tX12_rest 9 _ [zi (if M 124 14 = 0 then 1 else if 0 ≤ v ∧ v ≤ 99 then 0 else 2)] _ _
  refine p_istore_n 10 dX12_rest_9 rfl (Nat.le_of_ble_eq_true rfl) rfl rfl ?_
  dsimp only [List.set]
  refine p_iload_n 11 dX12_rest_10 rfl rfl ?_
  refine p_if_eq 20 14 dX12_rest_11 (by (repeat' split) <;> omega) (by (repeat' split) <;> omega) (fun h11 => ?_) (fun h11 => ?_)
  · have hw1 : ¬ M 124 14 = 0 ∧ 0 ≤ v ∧ v ≤ 99 := by
      by_cases g1 : M 124 14 = 0
      · rw [if_pos g1] at h11; exact absurd h11 (by decide)
      · by_cases g2 : 0 ≤ v ∧ v ≤ 99
        · exact ⟨g1, g2⟩
        · rw [if_neg g1, if_neg g2] at h11; exact absurd h11 (by decide)
    obtain ⟨n, rfl⟩ : ∃ k : Nat, v = (k : Int) := ⟨v.toNat, by omega⟩
    refine p_aload_n 21 dX12_rest_20 rfl rfl (by decide) ?_
    refine p_iload_n 22 dX12_rest_21 rfl rfl ?_
    refine p_callV1i 124 25 dX12_rest_22 (s_seekRests hWg (w := n) (by omega)) lk_X12_416 mX12_seekRests rfl rfl (by decide) (Nat.le_of_ble_eq_true rfl) ?_
    rintro _ _ ⟨rfl, rfl⟩
    refine p_popI 26 dX12_rest_25 ?_
    refine p_aload_n 27 dX12_rest_26 rfl rfl (by decide) ?_
    refine p_getI 124 30 dX12_rest_27 fX12_410 rfl ?_
    refine p_iret dX12_rest_30 rfl ?_
    refine ⟨_, rfl, MQq.of hid_sr hW ?_ ?_⟩
    · unfold pa_rest
      try rw [zset_at]
      rw [if_neg (by omega), if_pos (by omega), Int.toNat_natCast]
    · show (0 : Int) = _
      unfold pa_rest
      rw [if_neg (by omega), if_pos (by omega)]
  · refine p_aload_n 15 dX12_rest_14 rfl rfl (by decide) ?_
    refine p_iload_n 16 dX12_rest_15 rfl rfl ?_
    refine p_callV1i 124 19 dX12_rest_16 s_no lk_X12_168 mX12_no rfl rfl (by decide) (Nat.le_of_ble_eq_true rfl) ?_
    rintro _ _ ⟨rfl, rfl⟩
    refine p_iret dX12_rest_19 rfl ?_
    refine ⟨_, rfl, MQq.of hid_nov hW ?_ ?_⟩
    · unfold pa_rest
      (repeat' split) <;> first | (exfalso; omega) | rfl
    · show (if M 124 14 = 0 then 1 else if 0 ≤ v ∧ v ≤ 99 then 0 else 2) = _
      unfold pa_rest
      (repeat' split) <;> first | (exfalso; omega) | rfl
theorem c_envoys {l : Launch} {X : ZX} {M : ZM} (hI : IC M M) (hF : WF M) {v a b o : Int} (hv1 : -2147483648 ≤ v) (hv2 : v < 2147483648) (ha1 : -2147483648 ≤ a) (ha2 : a < 2147483648) (hb1 : -2147483648 ≤ b) (hb2 : b < 2147483648) (ho : o = 0 ∨ o = 1) : zCi l X 2 yX11_envoys tX11_envoys [zr 0, zi v, zi a, zi b, zi o] M (CQ M (pa_envoys (M 124 14) v a b o)) := by
  obtain ⟨hW, ⟨c, c', hcc, hco, hsp, hC⟩, ⟨j1, j2, j3, j4, j5⟩, hN, hpast, hten, ⟨hz0, hsea⟩, hfit⟩ := id hI
  have hR := hF.r
  have hT := hF.t
  have hh := hF.h
  have e0 : M 127 0 = (q_n (M 127) 0 : Int) := hR.n (by decide)
  have e2 : M 127 2 = (q_n (M 127) 2 : Int) := hR.n (by decide)
  have e3 : M 127 3 = (q_n (M 127) 3 : Int) := hR.n (by decide)
  have e4 : M 127 4 = (q_n (M 127) 4 : Int) := hR.n (by decide)
  have bR := hR.2.1
  have h20 : M 124 14 = 0 → M 127 2 = 0 := fun h => hF.r0 h 2 (by decide)
  have h30 : M 124 14 = 0 → M 127 3 = 0 := fun h => hF.r0 h 3 (by decide)
  have h40 : M 124 14 = 0 → M 127 4 = 0 := fun h => hF.r0 h 4 (by decide)
  have hwo : M 49 3 = M 129 16 := hN.2.2.2.1
  have t160 := hT.1 16 (by decide)
  have t161 := hT.2.2.2.2.1
  refine zC.of [some (zr 0), some (zi v), some (zi a), some (zi b), some (zi o)] (by decide +kernel) rfl rfl (Nat.le_of_ble_eq_true rfl) rfl ?_
  rcases hcc with ⟨rfl, rfl⟩ | ⟨rfl, rfl⟩
  · have hto : M 2 0 = M 124 14 := hC.1.1
    have hla : M 2 1 = M 127 0 := hC.1.2.1
    have hsn : M 2 2 = M 127 1 := hC.1.2.2.1
    have hcs : M 3 0 = M 127 2 := hC.1.2.2.2.1
    have hca : M 8 0 = M 127 3 := hC.1.2.2.2.2.1
    have hcw : M 13 0 = M 127 4 := hC.1.2.2.2.2.2.1
    have hcb : M 13 1 = M 127 5 := hC.1.2.2.2.2.2.2.1
    have hcor : M 19 0 = M 127 6 := hC.1.2.2.2.2.2.2.2.1
    have hcn : M 19 4 = M 127 7 := hC.1.2.2.2.2.2.2.2.2
    refine p_aload_n 1 dX11_envoys_0 rfl rfl (by decide) ?_
    refine p_getR 0 4 dX11_envoys_1 fX11_16 rfl hco ?_
    refine p_getI 2 7 dX11_envoys_4 fX11_114 rfl ?_
    rw [hto]
    refine p_if_ne 19 10 dX11_envoys_7 (by omega) (by omega) (fun h7 => ?_) (fun h7 => ?_)
    · refine p_iload_n 20 dX11_envoys_19 rfl rfl ?_
      refine p_callS1i 23 dX11_envoys_20 (s_isWorth (by omega) (by omega)) lk_X11_305 mX11_isWorth (by decide) (Nat.le_of_ble_eq_true rfl) ?_
      rintro _ _ ⟨rfl, e9⟩
      have e9 := e9.symm
      subst e9
      refine p_if_eq 46 26 dX11_envoys_23 (by split <;> omega) (by split <;> omega) (fun h23 => ?_) (fun h23 => ?_)
      · have h23 := if_eq0 h23
        refine p_aload_n 47 dX11_envoys_46 rfl rfl (by decide) ?_
        refine p_iconst 48 dX11_envoys_47 ?_
        refine p_callV1i 0 51 dX11_envoys_48 s_refuse lk_X11_73 mX11_refuse rfl rfl (by decide) (Nat.le_of_ble_eq_true rfl) ?_
        rintro _ _ ⟨rfl, rfl⟩
        refine p_popI 52 dX11_envoys_51 ?_
        refine p_bipush 54 dX11_envoys_52 rfl ?_
        refine p_iret dX11_envoys_54 rfl ?_
        exact ⟨_, rfl, CQ.of hI hF (fun k _ => rfl) (by unfold pa_envoys; (repeat' split) <;> first | rfl | (exfalso; omega)) (by unfold pa_envoys; (repeat' split) <;> first | rfl | (exfalso; omega)) (by decide)⟩
      · have h23 := if_neq0 h23
        refine p_iload_n 27 dX11_envoys_26 rfl rfl ?_
        refine p_if_lt 46 30 dX11_envoys_27 (by omega) (by omega) (fun h27 => ?_) (fun h27 => ?_)
        · refine p_aload_n 47 dX11_envoys_46 rfl rfl (by decide) ?_
          refine p_iconst 48 dX11_envoys_47 ?_
          refine p_callV1i 0 51 dX11_envoys_48 s_refuse lk_X11_73 mX11_refuse rfl rfl (by decide) (Nat.le_of_ble_eq_true rfl) ?_
          rintro _ _ ⟨rfl, rfl⟩
          refine p_popI 52 dX11_envoys_51 ?_
          refine p_bipush 54 dX11_envoys_52 rfl ?_
          refine p_iret dX11_envoys_54 rfl ?_
          exact ⟨_, rfl, CQ.of hI hF (fun k _ => rfl) (by unfold pa_envoys; (repeat' split) <;> first | rfl | (exfalso; omega)) (by unfold pa_envoys; (repeat' split) <;> first | rfl | (exfalso; omega)) (by decide)⟩
        · refine p_iload_n 31 dX11_envoys_30 rfl rfl ?_
          refine p_bipush 33 dX11_envoys_31 rfl ?_
          refine p_icmp_gt 46 36 dX11_envoys_33 (by omega) (by omega) (by omega) (by omega) (fun h33 => ?_) (fun h33 => ?_)
          · refine p_aload_n 47 dX11_envoys_46 rfl rfl (by decide) ?_
            refine p_iconst 48 dX11_envoys_47 ?_
            refine p_callV1i 0 51 dX11_envoys_48 s_refuse lk_X11_73 mX11_refuse rfl rfl (by decide) (Nat.le_of_ble_eq_true rfl) ?_
            rintro _ _ ⟨rfl, rfl⟩
            refine p_popI 52 dX11_envoys_51 ?_
            refine p_bipush 54 dX11_envoys_52 rfl ?_
            refine p_iret dX11_envoys_54 rfl ?_
            exact ⟨_, rfl, CQ.of hI hF (fun k _ => rfl) (by unfold pa_envoys; (repeat' split) <;> first | rfl | (exfalso; omega)) (by unfold pa_envoys; (repeat' split) <;> first | rfl | (exfalso; omega)) (by decide)⟩
          · refine p_iload_n 37 dX11_envoys_36 rfl rfl ?_
            refine p_if_lt 46 40 dX11_envoys_37 (by omega) (by omega) (fun h37 => ?_) (fun h37 => ?_)
            · refine p_aload_n 47 dX11_envoys_46 rfl rfl (by decide) ?_
              refine p_iconst 48 dX11_envoys_47 ?_
              refine p_callV1i 0 51 dX11_envoys_48 s_refuse lk_X11_73 mX11_refuse rfl rfl (by decide) (Nat.le_of_ble_eq_true rfl) ?_
              rintro _ _ ⟨rfl, rfl⟩
              refine p_popI 52 dX11_envoys_51 ?_
              refine p_bipush 54 dX11_envoys_52 rfl ?_
              refine p_iret dX11_envoys_54 rfl ?_
              exact ⟨_, rfl, CQ.of hI hF (fun k _ => rfl) (by unfold pa_envoys; (repeat' split) <;> first | rfl | (exfalso; omega)) (by unfold pa_envoys; (repeat' split) <;> first | rfl | (exfalso; omega)) (by decide)⟩
            · refine p_iload_n 41 dX11_envoys_40 rfl rfl ?_
              refine p_bipush 43 dX11_envoys_41 rfl ?_
              refine p_icmp_le 55 46 dX11_envoys_43 (by omega) (by omega) (by omega) (by omega) (fun h43 => ?_) (fun h43 => ?_)
              · obtain ⟨n, rfl⟩ : ∃ k : Nat, v = (k : Int) := ⟨v.toNat, by omega⟩
                obtain ⟨x, rfl⟩ : ∃ k : Nat, a = (k : Int) := ⟨a.toNat, by omega⟩
                obtain ⟨y, rfl⟩ : ∃ k : Nat, b = (k : Int) := ⟨b.toNat, by omega⟩
                refine p_aload_n 56 dX11_envoys_55 rfl rfl (by decide) ?_
                refine p_iload 58 dX11_envoys_56 rfl ?_
                refine p_if_eq 70 61 dX11_envoys_58 (by omega) (by omega) (fun h58 => ?_) (fun h58 => ?_)
                · refine p_iload_n 71 dX11_envoys_70 rfl rfl ?_
                  refine p_iload_n 72 dX11_envoys_71 rfl rfl ?_
                  refine p_iload_n 73 dX11_envoys_72 rfl rfl ?_
                  refine p_callS3i 76 dX11_envoys_73 (s_gain (w := n) (m := x) (k := y) (by omega) (by omega) (by omega)) lk_X11_308 mX11_gain (by decide) (Nat.le_of_ble_eq_true rfl) ?_
                  rintro _ _ ⟨rfl, e9⟩
                  have e9 := e9.symm
                  subst e9
                  refine p_callV1i 0 79 dX11_envoys_76 s_grant lk_X11_108 mX11_grant rfl rfl (by decide) (Nat.le_of_ble_eq_true rfl) ?_
                  rintro _ _ ⟨rfl, rfl⟩
                  refine p_iret dX11_envoys_79 rfl ?_
                  exact ⟨_, rfl, CQ.of hI hF (fun k _ => rfl) (by unfold pa_envoys; (repeat' split) <;> first | rfl | (exfalso; omega)) (by unfold pa_envoys; (repeat' split) <;> first | rfl | (exfalso; omega)) (by decide)⟩
                · refine p_iload_n 62 dX11_envoys_61 rfl rfl ?_
                  refine p_iload_n 63 dX11_envoys_62 rfl rfl ?_
                  refine p_iload_n 64 dX11_envoys_63 rfl rfl ?_
                  refine p_callS3i 67 dX11_envoys_64 (s_gain (w := n) (m := y) (k := x) (by omega) (by omega) (by omega)) lk_X11_308 mX11_gain (by decide) (Nat.le_of_ble_eq_true rfl) ?_
                  rintro _ _ ⟨rfl, e9⟩
                  have e9 := e9.symm
                  subst e9
                  refine p_goto 76 dX11_envoys_67 ?_
                  refine p_callV1i 0 79 dX11_envoys_76 s_grant lk_X11_108 mX11_grant rfl rfl (by decide) (Nat.le_of_ble_eq_true rfl) ?_
                  rintro _ _ ⟨rfl, rfl⟩
                  refine p_iret dX11_envoys_79 rfl ?_
                  exact ⟨_, rfl, CQ.of hI hF (fun k _ => rfl) (by unfold pa_envoys; (repeat' split) <;> first | rfl | (exfalso; omega)) (by unfold pa_envoys; (repeat' split) <;> first | rfl | (exfalso; omega)) (by decide)⟩
              · refine p_aload_n 47 dX11_envoys_46 rfl rfl (by decide) ?_
                refine p_iconst 48 dX11_envoys_47 ?_
                refine p_callV1i 0 51 dX11_envoys_48 s_refuse lk_X11_73 mX11_refuse rfl rfl (by decide) (Nat.le_of_ble_eq_true rfl) ?_
                rintro _ _ ⟨rfl, rfl⟩
                refine p_popI 52 dX11_envoys_51 ?_
                refine p_bipush 54 dX11_envoys_52 rfl ?_
                refine p_iret dX11_envoys_54 rfl ?_
                exact ⟨_, rfl, CQ.of hI hF (fun k _ => rfl) (by unfold pa_envoys; (repeat' split) <;> first | rfl | (exfalso; omega)) (by unfold pa_envoys; (repeat' split) <;> first | rfl | (exfalso; omega)) (by decide)⟩
    · refine p_aload_n 11 dX11_envoys_10 rfl rfl (by decide) ?_
      refine p_iconst 12 dX11_envoys_11 ?_
      refine p_callV1i 0 15 dX11_envoys_12 s_refuse lk_X11_73 mX11_refuse rfl rfl (by decide) (Nat.le_of_ble_eq_true rfl) ?_
      rintro _ _ ⟨rfl, rfl⟩
      refine p_popI 16 dX11_envoys_15 ?_
      refine p_bipush 18 dX11_envoys_16 rfl ?_
      refine p_iret dX11_envoys_18 rfl ?_
      exact ⟨_, rfl, CQ.of hI hF (fun k _ => rfl) (by unfold pa_envoys; (repeat' split) <;> first | rfl | (exfalso; omega)) (by unfold pa_envoys; (repeat' split) <;> first | rfl | (exfalso; omega)) (by decide)⟩
  · have hto : M 25 0 = M 124 14 := hC.1.1
    have hla : M 25 1 = M 127 0 := hC.1.2.1
    have hsn : M 25 2 = M 127 1 := hC.1.2.2.1
    have hcs : M 26 0 = M 127 2 := hC.1.2.2.2.1
    have hca : M 31 0 = M 127 3 := hC.1.2.2.2.2.1
    have hcw : M 36 0 = M 127 4 := hC.1.2.2.2.2.2.1
    have hcb : M 36 1 = M 127 5 := hC.1.2.2.2.2.2.2.1
    have hcor : M 42 0 = M 127 6 := hC.1.2.2.2.2.2.2.2.1
    have hcn : M 42 4 = M 127 7 := hC.1.2.2.2.2.2.2.2.2
    refine p_aload_n 1 dX11_envoys_0 rfl rfl (by decide) ?_
    refine p_getR 0 4 dX11_envoys_1 fX11_16 rfl hco ?_
    refine p_getI 25 7 dX11_envoys_4 fX11_114 rfl ?_
    rw [hto]
    refine p_if_ne 19 10 dX11_envoys_7 (by omega) (by omega) (fun h7 => ?_) (fun h7 => ?_)
    · refine p_iload_n 20 dX11_envoys_19 rfl rfl ?_
      refine p_callS1i 23 dX11_envoys_20 (s_isWorth (by omega) (by omega)) lk_X11_305 mX11_isWorth (by decide) (Nat.le_of_ble_eq_true rfl) ?_
      rintro _ _ ⟨rfl, e9⟩
      have e9 := e9.symm
      subst e9
      refine p_if_eq 46 26 dX11_envoys_23 (by split <;> omega) (by split <;> omega) (fun h23 => ?_) (fun h23 => ?_)
      · have h23 := if_eq0 h23
        refine p_aload_n 47 dX11_envoys_46 rfl rfl (by decide) ?_
        refine p_iconst 48 dX11_envoys_47 ?_
        refine p_callV1i 0 51 dX11_envoys_48 s_refuse lk_X11_73 mX11_refuse rfl rfl (by decide) (Nat.le_of_ble_eq_true rfl) ?_
        rintro _ _ ⟨rfl, rfl⟩
        refine p_popI 52 dX11_envoys_51 ?_
        refine p_bipush 54 dX11_envoys_52 rfl ?_
        refine p_iret dX11_envoys_54 rfl ?_
        exact ⟨_, rfl, CQ.of hI hF (fun k _ => rfl) (by unfold pa_envoys; (repeat' split) <;> first | rfl | (exfalso; omega)) (by unfold pa_envoys; (repeat' split) <;> first | rfl | (exfalso; omega)) (by decide)⟩
      · have h23 := if_neq0 h23
        refine p_iload_n 27 dX11_envoys_26 rfl rfl ?_
        refine p_if_lt 46 30 dX11_envoys_27 (by omega) (by omega) (fun h27 => ?_) (fun h27 => ?_)
        · refine p_aload_n 47 dX11_envoys_46 rfl rfl (by decide) ?_
          refine p_iconst 48 dX11_envoys_47 ?_
          refine p_callV1i 0 51 dX11_envoys_48 s_refuse lk_X11_73 mX11_refuse rfl rfl (by decide) (Nat.le_of_ble_eq_true rfl) ?_
          rintro _ _ ⟨rfl, rfl⟩
          refine p_popI 52 dX11_envoys_51 ?_
          refine p_bipush 54 dX11_envoys_52 rfl ?_
          refine p_iret dX11_envoys_54 rfl ?_
          exact ⟨_, rfl, CQ.of hI hF (fun k _ => rfl) (by unfold pa_envoys; (repeat' split) <;> first | rfl | (exfalso; omega)) (by unfold pa_envoys; (repeat' split) <;> first | rfl | (exfalso; omega)) (by decide)⟩
        · refine p_iload_n 31 dX11_envoys_30 rfl rfl ?_
          refine p_bipush 33 dX11_envoys_31 rfl ?_
          refine p_icmp_gt 46 36 dX11_envoys_33 (by omega) (by omega) (by omega) (by omega) (fun h33 => ?_) (fun h33 => ?_)
          · refine p_aload_n 47 dX11_envoys_46 rfl rfl (by decide) ?_
            refine p_iconst 48 dX11_envoys_47 ?_
            refine p_callV1i 0 51 dX11_envoys_48 s_refuse lk_X11_73 mX11_refuse rfl rfl (by decide) (Nat.le_of_ble_eq_true rfl) ?_
            rintro _ _ ⟨rfl, rfl⟩
            refine p_popI 52 dX11_envoys_51 ?_
            refine p_bipush 54 dX11_envoys_52 rfl ?_
            refine p_iret dX11_envoys_54 rfl ?_
            exact ⟨_, rfl, CQ.of hI hF (fun k _ => rfl) (by unfold pa_envoys; (repeat' split) <;> first | rfl | (exfalso; omega)) (by unfold pa_envoys; (repeat' split) <;> first | rfl | (exfalso; omega)) (by decide)⟩
          · refine p_iload_n 37 dX11_envoys_36 rfl rfl ?_
            refine p_if_lt 46 40 dX11_envoys_37 (by omega) (by omega) (fun h37 => ?_) (fun h37 => ?_)
            · refine p_aload_n 47 dX11_envoys_46 rfl rfl (by decide) ?_
              refine p_iconst 48 dX11_envoys_47 ?_
              refine p_callV1i 0 51 dX11_envoys_48 s_refuse lk_X11_73 mX11_refuse rfl rfl (by decide) (Nat.le_of_ble_eq_true rfl) ?_
              rintro _ _ ⟨rfl, rfl⟩
              refine p_popI 52 dX11_envoys_51 ?_
              refine p_bipush 54 dX11_envoys_52 rfl ?_
              refine p_iret dX11_envoys_54 rfl ?_
              exact ⟨_, rfl, CQ.of hI hF (fun k _ => rfl) (by unfold pa_envoys; (repeat' split) <;> first | rfl | (exfalso; omega)) (by unfold pa_envoys; (repeat' split) <;> first | rfl | (exfalso; omega)) (by decide)⟩
            · refine p_iload_n 41 dX11_envoys_40 rfl rfl ?_
              refine p_bipush 43 dX11_envoys_41 rfl ?_
              refine p_icmp_le 55 46 dX11_envoys_43 (by omega) (by omega) (by omega) (by omega) (fun h43 => ?_) (fun h43 => ?_)
              · obtain ⟨n, rfl⟩ : ∃ k : Nat, v = (k : Int) := ⟨v.toNat, by omega⟩
                obtain ⟨x, rfl⟩ : ∃ k : Nat, a = (k : Int) := ⟨a.toNat, by omega⟩
                obtain ⟨y, rfl⟩ : ∃ k : Nat, b = (k : Int) := ⟨b.toNat, by omega⟩
                refine p_aload_n 56 dX11_envoys_55 rfl rfl (by decide) ?_
                refine p_iload 58 dX11_envoys_56 rfl ?_
                refine p_if_eq 70 61 dX11_envoys_58 (by omega) (by omega) (fun h58 => ?_) (fun h58 => ?_)
                · refine p_iload_n 71 dX11_envoys_70 rfl rfl ?_
                  refine p_iload_n 72 dX11_envoys_71 rfl rfl ?_
                  refine p_iload_n 73 dX11_envoys_72 rfl rfl ?_
                  refine p_callS3i 76 dX11_envoys_73 (s_gain (w := n) (m := x) (k := y) (by omega) (by omega) (by omega)) lk_X11_308 mX11_gain (by decide) (Nat.le_of_ble_eq_true rfl) ?_
                  rintro _ _ ⟨rfl, e9⟩
                  have e9 := e9.symm
                  subst e9
                  refine p_callV1i 0 79 dX11_envoys_76 s_grant lk_X11_108 mX11_grant rfl rfl (by decide) (Nat.le_of_ble_eq_true rfl) ?_
                  rintro _ _ ⟨rfl, rfl⟩
                  refine p_iret dX11_envoys_79 rfl ?_
                  exact ⟨_, rfl, CQ.of hI hF (fun k _ => rfl) (by unfold pa_envoys; (repeat' split) <;> first | rfl | (exfalso; omega)) (by unfold pa_envoys; (repeat' split) <;> first | rfl | (exfalso; omega)) (by decide)⟩
                · refine p_iload_n 62 dX11_envoys_61 rfl rfl ?_
                  refine p_iload_n 63 dX11_envoys_62 rfl rfl ?_
                  refine p_iload_n 64 dX11_envoys_63 rfl rfl ?_
                  refine p_callS3i 67 dX11_envoys_64 (s_gain (w := n) (m := y) (k := x) (by omega) (by omega) (by omega)) lk_X11_308 mX11_gain (by decide) (Nat.le_of_ble_eq_true rfl) ?_
                  rintro _ _ ⟨rfl, e9⟩
                  have e9 := e9.symm
                  subst e9
                  refine p_goto 76 dX11_envoys_67 ?_
                  refine p_callV1i 0 79 dX11_envoys_76 s_grant lk_X11_108 mX11_grant rfl rfl (by decide) (Nat.le_of_ble_eq_true rfl) ?_
                  rintro _ _ ⟨rfl, rfl⟩
                  refine p_iret dX11_envoys_79 rfl ?_
                  exact ⟨_, rfl, CQ.of hI hF (fun k _ => rfl) (by unfold pa_envoys; (repeat' split) <;> first | rfl | (exfalso; omega)) (by unfold pa_envoys; (repeat' split) <;> first | rfl | (exfalso; omega)) (by decide)⟩
              · refine p_aload_n 47 dX11_envoys_46 rfl rfl (by decide) ?_
                refine p_iconst 48 dX11_envoys_47 ?_
                refine p_callV1i 0 51 dX11_envoys_48 s_refuse lk_X11_73 mX11_refuse rfl rfl (by decide) (Nat.le_of_ble_eq_true rfl) ?_
                rintro _ _ ⟨rfl, rfl⟩
                refine p_popI 52 dX11_envoys_51 ?_
                refine p_bipush 54 dX11_envoys_52 rfl ?_
                refine p_iret dX11_envoys_54 rfl ?_
                exact ⟨_, rfl, CQ.of hI hF (fun k _ => rfl) (by unfold pa_envoys; (repeat' split) <;> first | rfl | (exfalso; omega)) (by unfold pa_envoys; (repeat' split) <;> first | rfl | (exfalso; omega)) (by decide)⟩
    · refine p_aload_n 11 dX11_envoys_10 rfl rfl (by decide) ?_
      refine p_iconst 12 dX11_envoys_11 ?_
      refine p_callV1i 0 15 dX11_envoys_12 s_refuse lk_X11_73 mX11_refuse rfl rfl (by decide) (Nat.le_of_ble_eq_true rfl) ?_
      rintro _ _ ⟨rfl, rfl⟩
      refine p_popI 16 dX11_envoys_15 ?_
      refine p_bipush 18 dX11_envoys_16 rfl ?_
      refine p_iret dX11_envoys_18 rfl ?_
      exact ⟨_, rfl, CQ.of hI hF (fun k _ => rfl) (by unfold pa_envoys; (repeat' split) <;> first | rfl | (exfalso; omega)) (by unfold pa_envoys; (repeat' split) <;> first | rfl | (exfalso; omega)) (by decide)⟩
theorem if_w {h v : Int} (g : ¬ (if h = 0 then (1 : Int) else if 0 ≤ v ∧ v ≤ 99 then 0 else 2) ≠ 0) : ¬ h = 0 ∧ 0 ≤ v ∧ v ≤ 99 := by
  by_cases g1 : h = 0
  · rw [if_pos g1] at g; exact absurd (by decide) g
  · by_cases g2 : 0 ≤ v ∧ v ≤ 99
    · exact ⟨g1, g2⟩
    · rw [if_neg g1, if_neg g2] at g; exact absurd (by decide) g
theorem if_wn {h v : Int} (g : (if h = 0 then (1 : Int) else if 0 ≤ v ∧ v ≤ 99 then 0 else 2) ≠ 0) : ¬ (¬ h = 0 ∧ 0 ≤ v ∧ v ≤ 99) := by
  rintro ⟨g1, g2⟩
  rw [if_neg g1, if_pos g2] at g
  exact g rfl
theorem m_envoys {l : Launch} {X : ZX} {M : ZM} (hW : zWm M) (hF : WF M) {v a b o : Int} (hv1 : -2147483648 ≤ v) (hv2 : v < 2147483648) (ha1 : -2147483648 ≤ a) (ha2 : a < 2147483648) (hb1 : -2147483648 ≤ b) (hb2 : b < 2147483648) (ho : o = 0 ∨ o = 1) : zCi l X 3 yX12_envoys tX12_envoys [zr 124, zi v, zi a, zi b, zi o] M (MQq M (pa_envoys (M 124 14) v a b o)) := by
  have hWg : zWm (zset (zset M 124 0 0) 124 11 0) := (hW.set (by decide +kernel)).set (by decide +kernel)
  have hR := hF.r
  have hT := hF.t
  have hh := hF.h
  have e0 : M 127 0 = (q_n (M 127) 0 : Int) := hR.n (by decide)
  have e2 : M 127 2 = (q_n (M 127) 2 : Int) := hR.n (by decide)
  have e3 : M 127 3 = (q_n (M 127) 3 : Int) := hR.n (by decide)
  have e4 : M 127 4 = (q_n (M 127) 4 : Int) := hR.n (by decide)
  have bR := hR.2.1
  have h20 : M 124 14 = 0 → M 127 2 = 0 := fun h => hF.r0 h 2 (by decide)
  have h30 : M 124 14 = 0 → M 127 3 = 0 := fun h => hF.r0 h 3 (by decide)
  have h40 : M 124 14 = 0 → M 127 4 = 0 := fun h => hF.r0 h 4 (by decide)
  refine zC.of [some (zr 124), some (zi v), some (zi a), some (zi b), some (zi o), none] (by decide +kernel) rfl rfl (Nat.le_of_ble_eq_true rfl) rfl ?_
  refine p_aload_n 1 dX12_envoys_0 rfl rfl (by decide) ?_
  refine p_callV0v 124 4 dX12_envoys_1 s_good lk_X12_165 mX12_good rfl rfl (by decide) (Nat.le_of_ble_eq_true rfl) ?_
  rintro _ rfl
  refine p_aload_n 5 dX12_envoys_4 rfl rfl (by decide) ?_
  refine p_iload_n 6 dX12_envoys_5 rfl rfl ?_
  refine p_callV1i 124 9 dX12_envoys_6 (s_worthWhy hWg hh (by omega) (by omega)) lk_X12_403 mX12_worthWhy rfl rfl (by decide) (Nat.le_of_ble_eq_true rfl) ?_
  rintro _ _ ⟨rfl, e9⟩
  have e9 := e9.symm
  subst e9
  show zP l X 3 tX12_envoys 9 _ [zi (if M 124 14 = 0 then 1 else if 0 ≤ v ∧ v ≤ 99 then 0 else 2)] _ _
  refine p_istore 11 dX12_envoys_9 (Nat.le_of_ble_eq_true rfl) rfl rfl ?_
  dsimp only [List.set]
  refine p_iload 13 dX12_envoys_11 rfl ?_
  refine p_if_ne 39 16 dX12_envoys_13 (by (repeat' split) <;> omega) (by (repeat' split) <;> omega) (fun h13 => ?_) (fun h13 => ?_)
  · have hw1 := if_wn h13
    refine p_iload 41 dX12_envoys_39 rfl ?_
    refine p_if_ne 65 44 dX12_envoys_41 (by (repeat' split) <;> omega) (by (repeat' split) <;> omega) (fun h41 => ?_) (fun h41 => absurd (h41 h13) (fun h9 : False => h9))
    refine p_aload_n 66 dX12_envoys_65 rfl rfl (by decide) ?_
    refine p_iload 68 dX12_envoys_66 rfl ?_
    refine p_putI 124 71 dX12_envoys_68 wX12_56 rfl ?_
    refine p_bipush 73 dX12_envoys_71 rfl ?_
    refine p_iret dX12_envoys_73 rfl ?_
    refine ⟨_, rfl, MQq.of hid_nov hW ?_ ?_⟩
    · unfold pa_envoys
      (repeat' split) <;> first | rfl | (exfalso; omega)
    · first
        | (show (if M 124 14 = 0 then 1 else if 0 ≤ v ∧ v ≤ 99 then 0 else 2) = _
           unfold pa_envoys
           (repeat' split) <;> first | rfl | (exfalso; omega))
        | (show (2 : Int) = _
           unfold pa_envoys
           (repeat' split) <;> first | rfl | (exfalso; omega))
  · have hw1 := if_w h13
    refine p_iload_n 17 dX12_envoys_16 rfl rfl ?_
    refine p_iconst 18 dX12_envoys_17 ?_
    refine p_bipush 20 dX12_envoys_18 rfl ?_
    refine p_callS3i 23 dX12_envoys_20 (s_in (by omega) (by omega) (by omega) (by omega) (by omega) (by omega)) lk_X12_146 mX12_in (by decide) (Nat.le_of_ble_eq_true rfl) ?_
    rintro _ _ ⟨rfl, e9⟩
    have e9 := e9.symm
    subst e9
    refine p_if_eq 36 26 dX12_envoys_23 (by split <;> omega) (by split <;> omega) (fun h23 => ?_) (fun h23 => ?_)
    · have h23 := if_eq0 h23
      refine p_iconst 37 dX12_envoys_36 ?_
      refine p_istore 39 dX12_envoys_37 (Nat.le_of_ble_eq_true rfl) rfl rfl ?_
      dsimp only [List.set]
      refine p_iload 41 dX12_envoys_39 rfl ?_
      refine p_if_ne 65 44 dX12_envoys_41 (by decide) (by decide) (fun h41 => ?_) (fun h41 => absurd (h41 (by decide)) (fun h9 : False => h9))
      refine p_aload_n 66 dX12_envoys_65 rfl rfl (by decide) ?_
      refine p_iload 68 dX12_envoys_66 rfl ?_
      refine p_putI 124 71 dX12_envoys_68 wX12_56 rfl ?_
      refine p_bipush 73 dX12_envoys_71 rfl ?_
      refine p_iret dX12_envoys_73 rfl ?_
      refine ⟨_, rfl, MQq.of hid_nov hW ?_ ?_⟩
      · unfold pa_envoys
        (repeat' split) <;> first | rfl | (exfalso; omega)
      · first
          | (show (if M 124 14 = 0 then 1 else if 0 ≤ v ∧ v ≤ 99 then 0 else 2) = _
             unfold pa_envoys
             (repeat' split) <;> first | rfl | (exfalso; omega))
          | (show (2 : Int) = _
             unfold pa_envoys
             (repeat' split) <;> first | rfl | (exfalso; omega))
    · have h23 := if_neq0 h23
      refine p_iload_n 27 dX12_envoys_26 rfl rfl ?_
      refine p_iconst 28 dX12_envoys_27 ?_
      refine p_bipush 30 dX12_envoys_28 rfl ?_
      refine p_callS3i 33 dX12_envoys_30 (s_in (by omega) (by omega) (by omega) (by omega) (by omega) (by omega)) lk_X12_146 mX12_in (by decide) (Nat.le_of_ble_eq_true rfl) ?_
      rintro _ _ ⟨rfl, e9⟩
      have e9 := e9.symm
      subst e9
      refine p_if_ne 39 36 dX12_envoys_33 (by split <;> omega) (by split <;> omega) (fun h33 => ?_) (fun h33 => ?_)
      · have h33 := if_ne0 h33
        refine p_iload 41 dX12_envoys_39 rfl ?_
        refine p_if_ne 65 44 dX12_envoys_41 (by (repeat' split) <;> omega) (by (repeat' split) <;> omega) (fun h41 => absurd (h13 h41) (fun h9 : False => h9)) (fun h41 => ?_)
        obtain ⟨n, rfl⟩ : ∃ k : Nat, v = (k : Int) := ⟨v.toNat, by omega⟩
        obtain ⟨x, rfl⟩ : ∃ k : Nat, a = (k : Int) := ⟨a.toNat, by omega⟩
        obtain ⟨y, rfl⟩ : ∃ k : Nat, b = (k : Int) := ⟨b.toNat, by omega⟩
        refine p_iload 46 dX12_envoys_44 rfl ?_
        refine p_if_eq 58 49 dX12_envoys_46 (by omega) (by omega) (fun h46 => ?_) (fun h46 => ?_)
        · refine p_iload_n 59 dX12_envoys_58 rfl rfl ?_
          refine p_iload_n 60 dX12_envoys_59 rfl rfl ?_
          refine p_iload_n 61 dX12_envoys_60 rfl rfl ?_
          refine p_callS3i 64 dX12_envoys_61 (s_envoysOf (w := n) (m := x) (k := y) (by omega) (by omega) (by omega)) lk_X12_406 mX12_envoysOf (by decide) (Nat.le_of_ble_eq_true rfl) ?_
          rintro _ _ ⟨rfl, e9⟩
          have e9 := e9.symm
          subst e9
          refine p_iret dX12_envoys_64 rfl ?_
          exact ⟨_, rfl, MQq.of hid_good hW (by unfold pa_envoys; (repeat' split) <;> first | rfl | (exfalso; omega)) (by unfold pa_envoys; (repeat' split) <;> first | rfl | (exfalso; omega))⟩
        · refine p_iload_n 50 dX12_envoys_49 rfl rfl ?_
          refine p_iload_n 51 dX12_envoys_50 rfl rfl ?_
          refine p_iload_n 52 dX12_envoys_51 rfl rfl ?_
          refine p_callS3i 55 dX12_envoys_52 (s_envoysOf (w := n) (m := y) (k := x) (by omega) (by omega) (by omega)) lk_X12_406 mX12_envoysOf (by decide) (Nat.le_of_ble_eq_true rfl) ?_
          rintro _ _ ⟨rfl, e9⟩
          have e9 := e9.symm
          subst e9
          refine p_goto 64 dX12_envoys_55 ?_
          refine p_iret dX12_envoys_64 rfl ?_
          exact ⟨_, rfl, MQq.of hid_good hW (by unfold pa_envoys; (repeat' split) <;> first | rfl | (exfalso; omega)) (by unfold pa_envoys; (repeat' split) <;> first | rfl | (exfalso; omega))⟩
      · have h33 := if_nne0 h33
        refine p_iconst 37 dX12_envoys_36 ?_
        refine p_istore 39 dX12_envoys_37 (Nat.le_of_ble_eq_true rfl) rfl rfl ?_
        dsimp only [List.set]
        refine p_iload 41 dX12_envoys_39 rfl ?_
        refine p_if_ne 65 44 dX12_envoys_41 (by decide) (by decide) (fun h41 => ?_) (fun h41 => absurd (h41 (by decide)) (fun h9 : False => h9))
        refine p_aload_n 66 dX12_envoys_65 rfl rfl (by decide) ?_
        refine p_iload 68 dX12_envoys_66 rfl ?_
        refine p_putI 124 71 dX12_envoys_68 wX12_56 rfl ?_
        refine p_bipush 73 dX12_envoys_71 rfl ?_
        refine p_iret dX12_envoys_73 rfl ?_
        refine ⟨_, rfl, MQq.of hid_nov hW ?_ ?_⟩
        · unfold pa_envoys
          (repeat' split) <;> first | rfl | (exfalso; omega)
        · first
            | (show (if M 124 14 = 0 then 1 else if 0 ≤ v ∧ v ≤ 99 then 0 else 2) = _
               unfold pa_envoys
               (repeat' split) <;> first | rfl | (exfalso; omega))
            | (show (2 : Int) = _
               unfold pa_envoys
               (repeat' split) <;> first | rfl | (exfalso; omega))
