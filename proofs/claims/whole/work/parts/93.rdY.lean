/-! THE READER, the model's: an order's line, a line of what was seen -/
theorem s_orderLineS {l : Launch} {X : ZX} {M : ZM} {t : Nat → Int} {n p : Nat} {ρ : Nat → Int} {N : ZM} (hn : n ≤ 900) (ht : ∀ i, i < n → 0 ≤ t i ∧ t i < 256) (hp : p ≤ n) (hS : MS t n p ρ N M) (hP : PI ρ) (hro : ρ 6 < 6) : zCv l X 9 yX12_orderLine tX12_orderLine [zr 124] M (fun M' => MX t n (q_lorder t n p ρ) N M') := by
  obtain ⟨hB, hT, hf0, hr, hfa, hfk⟩ := id hS
  obtain ⟨t4, t5, t6, t8, t7⟩ := id hT
  have hal := q_at_le t hp
  have hel := q_en_le t hp
  have htk := q_tk_cases t n p
  have hp0 := hp
  have hS0 := hS
  have hnn : nn ρ := hP.1.1
  have e9c := q_n_i hnn (i := 6) (by decide)
  refine zC.of [some (zr 124), none, none, none] (by decide +kernel) rfl rfl (Nat.le_of_ble_eq_true rfl) rfl ?_
  refine p_aload_n 1 dX12_orderLine_0 rfl rfl (by decide) ?_
  refine p_getI 124 4 dX12_orderLine_1 fX12_91 rfl ?_
  rw [hf0]
  refine p_if_eq 8 7 dX12_orderLine_4 (by decide) (by decide) (fun h4 => ?_) (fun h4 => absurd (h4 rfl) (fun h9 : False => h9))
  refine p_bipush 10 dX12_orderLine_8 rfl ?_
  refine p_bipush 12 dX12_orderLine_10 rfl ?_
  refine p_aload_n 13 dX12_orderLine_12 rfl rfl (by decide) ?_
  refine p_getR 124 16 dX12_orderLine_13 fX12_23 rfl (hB.1 (124, 16, 128) (by decide)) ?_
  refine p_bipush 18 dX12_orderLine_16 rfl ?_
  refine p_ialdn 128 19 (6) dX12_orderLine_18 rfl (by omega) (by omega) ?_
  rw [hr 6 (by decide), e9c]
  refine p_imul 20 dX12_orderLine_19 ?_
  refine p_iadd 21 dX12_orderLine_20 ?_
  refine p_istore_n 22 dX12_orderLine_21 rfl (Nat.le_of_ble_eq_true rfl) rfl rfl ?_
  dsimp only [List.set]
  refine p_aload_n 23 dX12_orderLine_22 rfl rfl (by decide) ?_
  refine p_iload_n 24 dX12_orderLine_23 rfl rfl ?_
  refine p_iconst 25 dX12_orderLine_24 ?_
  refine p_iadd 26 dX12_orderLine_25 ?_
  rw [show (59 : Int) + 19 * (q_n ρ 6 : Int) + 1 = (((59 + 19 * q_n ρ 6 + 1) : Nat) : Int) by omega]
  refine p_callV1v 124 29 dX12_orderLine_26 (s_laysPassedS hn ht hp hS (f := (59 + 19 * q_n ρ 6 + 1)) (by omega)) lk_X12_252 mX12_laysPassed rfl rfl (by decide) (Nat.le_of_ble_eq_true rfl) ?_
  intro M1 hd
  rcases hd with ⟨hk1, hF⟩ | ⟨hq1, hS⟩
  · refine p_aload_n 30 dX12_orderLine_29 rfl rfl (by decide) ?_
    refine p_ldcS 32 32 dX12_orderLine_30 rfl ?_
    refine p_callV1v 124 35 dX12_orderLine_32 (s_mustF hF) lk_X12_154 mX12_must rfl rfl (by decide) (Nat.le_of_ble_eq_true rfl) ?_
    intro M9 e9
    have e9 := e9.symm
    subst e9
    refine p_aload_n 36 dX12_orderLine_35 rfl rfl (by decide) ?_
    refine p_iload_n 37 dX12_orderLine_36 rfl rfl ?_
    refine p_bipush 39 dX12_orderLine_37 rfl ?_
    refine p_iadd 40 dX12_orderLine_39 ?_
    refine p_callV1v 124 43 dX12_orderLine_40 (s_laysPassedF hF) lk_X12_252 mX12_laysPassed rfl rfl (by decide) (Nat.le_of_ble_eq_true rfl) ?_
    intro M9 e9
    have e9 := e9.symm
    subst e9
    refine p_aload_n 44 dX12_orderLine_43 rfl rfl (by decide) ?_
    refine p_ldcS 44 46 dX12_orderLine_44 rfl ?_
    refine p_callV1v 124 49 dX12_orderLine_46 (s_mustF hF) lk_X12_154 mX12_must rfl rfl (by decide) (Nat.le_of_ble_eq_true rfl) ?_
    intro M9 e9
    have e9 := e9.symm
    subst e9
    refine p_aload_n 50 dX12_orderLine_49 rfl rfl (by decide) ?_
    refine p_iconst 51 dX12_orderLine_50 ?_
    refine p_bipush 53 dX12_orderLine_51 rfl ?_
    refine p_callV2i 124 56 dX12_orderLine_53 (s_numberHereF hF) lk_X12_150 mX12_numberHere rfl rfl (by decide) (Nat.le_of_ble_eq_true rfl) ?_
    rintro _ _ ⟨rfl, e9⟩
    have e9 := e9.symm
    subst e9
    refine p_istore_n 57 dX12_orderLine_56 rfl (Nat.le_of_ble_eq_true rfl) rfl rfl ?_
    dsimp only [List.set]
    refine p_iconst 58 dX12_orderLine_57 ?_
    refine p_istore_n 59 dX12_orderLine_58 rfl (Nat.le_of_ble_eq_true rfl) rfl rfl ?_
    dsimp only [List.set]
    refine l_ordF hF (fun k9 => ?_) _ 0 (by omega) (Nat.le_refl _) (by omega)
    refine p_aload_n 131 dX12_orderLine_130 rfl rfl (by decide) ?_
    refine p_getI 124 134 dX12_orderLine_131 fX12_91 rfl ?_
    rw [hF.2.1]
    refine p_if_eq 138 137 dX12_orderLine_134 (by decide) (by decide) (fun h134 => absurd (absurd h134 (by decide)) (fun h9 : False => h9)) (fun h134 => ?_)
    refine p_vret dX12_orderLine_137 rfl ?_
    exact ⟨rfl, MX.l (by simp only [q_lorder, if_pos hk1]) hF⟩
  · have hk1 : ¬ q_tk t n p ≠ 2 := fun k => k hq1
    have hp := q_en_n t hp
    refine p_aload_n 30 dX12_orderLine_29 rfl rfl (by decide) ?_
    refine p_ldcS 32 32 dX12_orderLine_30 rfl ?_
    refine p_callV1v 124 35 dX12_orderLine_32 (s_mustM hn ht hp hS (i := 9) (k := 32) rfl (by decide) rfl) lk_X12_154 mX12_must rfl rfl (by decide) (Nat.le_of_ble_eq_true rfl) ?_
    intro M2 hd
    rcases hd with ⟨hy2, hS⟩ | ⟨hno2, hF⟩
    · have hk2 : ¬ q_is t n (q_en t n p) 9 = false := by rw [hy2]; decide
      have hp := q_en_n t hp
      refine p_aload_n 36 dX12_orderLine_35 rfl rfl (by decide) ?_
      refine p_iload_n 37 dX12_orderLine_36 rfl rfl ?_
      refine p_bipush 39 dX12_orderLine_37 rfl ?_
      refine p_iadd 40 dX12_orderLine_39 ?_
      rw [show (59 : Int) + 19 * (q_n ρ 6 : Int) + 10 = (((59 + 19 * q_n ρ 6 + 10) : Nat) : Int) by omega]
      refine p_callV1v 124 43 dX12_orderLine_40 (s_laysPassedS hn ht hp hS (f := (59 + 19 * q_n ρ 6 + 10)) (by omega)) lk_X12_252 mX12_laysPassed rfl rfl (by decide) (Nat.le_of_ble_eq_true rfl) ?_
      intro M3 hd
      rcases hd with ⟨hk3, hF⟩ | ⟨hq3, hS⟩
      · refine p_aload_n 44 dX12_orderLine_43 rfl rfl (by decide) ?_
        refine p_ldcS 44 46 dX12_orderLine_44 rfl ?_
        refine p_callV1v 124 49 dX12_orderLine_46 (s_mustF hF) lk_X12_154 mX12_must rfl rfl (by decide) (Nat.le_of_ble_eq_true rfl) ?_
        intro M9 e9
        have e9 := e9.symm
        subst e9
        refine p_aload_n 50 dX12_orderLine_49 rfl rfl (by decide) ?_
        refine p_iconst 51 dX12_orderLine_50 ?_
        refine p_bipush 53 dX12_orderLine_51 rfl ?_
        refine p_callV2i 124 56 dX12_orderLine_53 (s_numberHereF hF) lk_X12_150 mX12_numberHere rfl rfl (by decide) (Nat.le_of_ble_eq_true rfl) ?_
        rintro _ _ ⟨rfl, e9⟩
        have e9 := e9.symm
        subst e9
        refine p_istore_n 57 dX12_orderLine_56 rfl (Nat.le_of_ble_eq_true rfl) rfl rfl ?_
        dsimp only [List.set]
        refine p_iconst 58 dX12_orderLine_57 ?_
        refine p_istore_n 59 dX12_orderLine_58 rfl (Nat.le_of_ble_eq_true rfl) rfl rfl ?_
        dsimp only [List.set]
        refine l_ordF hF (fun k9 => ?_) _ 0 (by omega) (Nat.le_refl _) (by omega)
        refine p_aload_n 131 dX12_orderLine_130 rfl rfl (by decide) ?_
        refine p_getI 124 134 dX12_orderLine_131 fX12_91 rfl ?_
        rw [hF.2.1]
        refine p_if_eq 138 137 dX12_orderLine_134 (by decide) (by decide) (fun h134 => absurd (absurd h134 (by decide)) (fun h9 : False => h9)) (fun h134 => ?_)
        refine p_vret dX12_orderLine_137 rfl ?_
        exact ⟨rfl, MX.l (by simp only [q_lorder, if_neg hk1, if_neg hk2, if_pos hk3]) hF⟩
      · have hk3 : ¬ q_tk t n (q_en t n (q_en t n p)) ≠ 2 := fun k => k hq3
        have hpp2 := hp
        have hp := q_en_n t hp
        refine p_aload_n 44 dX12_orderLine_43 rfl rfl (by decide) ?_
        refine p_ldcS 44 46 dX12_orderLine_44 rfl ?_
        refine p_callV1v 124 49 dX12_orderLine_46 (s_mustM hn ht hp hS (i := 21) (k := 44) rfl (by decide) rfl) lk_X12_154 mX12_must rfl rfl (by decide) (Nat.le_of_ble_eq_true rfl) ?_
        intro M4 hd
        rcases hd with ⟨hy4, hS⟩ | ⟨hno4, hF⟩
        · have hk4 : ¬ q_is t n (q_en t n (q_en t n (q_en t n p))) 21 = false := by rw [hy4]; decide
          have hp := q_en_n t hp
          refine p_aload_n 50 dX12_orderLine_49 rfl rfl (by decide) ?_
          refine p_iconst 51 dX12_orderLine_50 ?_
          refine p_bipush 53 dX12_orderLine_51 rfl ?_
          refine p_callV2i 124 56 dX12_orderLine_53 (s_numberHereS hn ht hp hS (lo := 1) (hi := 9) (by omega) (by omega)) lk_X12_150 mX12_numberHere rfl rfl (by decide) (Nat.le_of_ble_eq_true rfl) ?_
          intro a5 M5 hd
          rcases hd with ⟨e5, hz5, ea5, hF⟩ | ⟨hz5, ea5, em⟩
          · refine p_istore_n 57 dX12_orderLine_56 rfl (Nat.le_of_ble_eq_true rfl) rfl rfl ?_
            dsimp only [List.set]
            refine p_iconst 58 dX12_orderLine_57 ?_
            refine p_istore_n 59 dX12_orderLine_58 rfl (Nat.le_of_ble_eq_true rfl) rfl rfl ?_
            dsimp only [List.set]
            refine l_ordF hF (fun k9 => ?_) _ 0 (by omega) (Nat.le_refl _) (by omega)
            refine p_aload_n 131 dX12_orderLine_130 rfl rfl (by decide) ?_
            refine p_getI 124 134 dX12_orderLine_131 fX12_91 rfl ?_
            rw [hF.2.1]
            refine p_if_eq 138 137 dX12_orderLine_134 (by decide) (by decide) (fun h134 => absurd (absurd h134 (by decide)) (fun h9 : False => h9)) (fun h134 => ?_)
            refine p_vret dX12_orderLine_137 rfl ?_
            exact ⟨rfl, MX.l (by simp only [q_lorder, if_neg hk1, if_neg hk2, if_neg hk3, if_neg hk4, hz5, q_bindN]) hF⟩
          · have em := em.symm
            subst em
            subst ea5
            have hnb := (q_num_inv hz5).2.2
            refine p_istore_n 57 dX12_orderLine_56 rfl (Nat.le_of_ble_eq_true rfl) rfl rfl ?_
            dsimp only [List.set]
            refine p_iconst 58 dX12_orderLine_57 ?_
            refine p_istore_n 59 dX12_orderLine_58 rfl (Nat.le_of_ble_eq_true rfl) rfl rfl ?_
            dsimp only [List.set]
            obtain ⟨w1, w2, w3, w4, w5⟩ := q_tk_word hp0 hq1
            obtain ⟨v1, v2, v3, v4, v5⟩ := q_tk_word hpp2 hq3
            have eo : ∀ i, ¬ ((59 + 19 * q_n ρ 6 + 1) ≤ i ∧ i < (59 + 19 * q_n ρ 6 + 1) + 9) → ¬ ((59 + 19 * q_n ρ 6 + 10) ≤ i ∧ i < (59 + 19 * q_n ρ 6 + 10) + 9) → (q_lay t n (q_en t n (q_en t n p)) (q_lay t n p ρ (59 + 19 * q_n ρ 6 + 1)) (59 + 19 * q_n ρ 6 + 10)) i = ρ i := fun i g1 g2 => by rw [q_lay_ne v3 g2, q_lay_ne w3 g1]
            have hl6 := l_ordL (l := l) (X := X) (Q := (fun r M' => r = none ∧ MX t n (q_lorder t n p ρ) N M')) (ρ := ρ) (rk := q_nb t n (q_en t n (q_en t n (q_en t n (q_en t n p))))) (sh := q_wd t n p) (o := q_n ρ 6) hn ht hp hS (by omega) (by rw [eo 6 (by omega) (by omega)]; exact e9c) (by omega) ((hnn.lay w5).lay v5) (fun k hk => ⟨eo _ (by omega) (by omega), by rw [eo _ (by omega) (by omega)]; exact (hP.1.2.2.2.2.2.1 k (by omega)).1, q_sign_congr (hP.1.2.2.2.2.2.1 k (by omega)).2.1.1 (fun i hi => eo i (by omega) (by omega)), q_wordOk_congr (hP.1.2.2.2.2.2.1 k (by omega)).2.1 (fun i hi => eo i (by omega) (by omega))⟩) ⟨(q_sign_congr (ρ := q_lay t n p ρ (59 + 19 * q_n ρ 6 + 1)) (by rw [q_lay_at]; omega) (fun i hi => q_lay_ne v3 (by omega))).trans q_lay_wd, (q_lay_ok hp0 hq1 (fun i hi => q_lay_ne v3 (by omega))).2⟩
            refine hl6 (fun hall => ?_) (fun hall M9 k9 hF => ?_) (q_n ρ 6) 0 (by omega) rfl
            · refine p_aload_n 131 dX12_orderLine_130 rfl rfl (by decide) ?_
              refine p_getI 124 134 dX12_orderLine_131 fX12_91 rfl ?_
              rw [hS.2.2.1]
              refine p_if_eq 138 137 dX12_orderLine_134 (by decide) (by decide) (fun h134 => ?_) (fun h134 => absurd (h134 rfl) (fun h9 : False => h9))
              refine p_aload_n 139 dX12_orderLine_138 rfl rfl (by decide) ?_
              refine p_callV0v 124 142 dX12_orderLine_139 (s_goOn hn ht hS.1 (p := q_en t n (q_en t n (q_en t n (q_en t n (q_en t n p))))) (q_en_n t hp) hS.2.1.2.1) lk_X12_112 mX12_goOn rfl rfl (by decide) (Nat.le_of_ble_eq_true rfl) ?_
              rintro M9 ⟨kk9, hT9⟩
              have hS := hS.adv kk9 hT9
              refine p_aload_n 143 dX12_orderLine_142 rfl rfl (by decide) ?_
              refine p_getR 124 146 dX12_orderLine_143 fX12_23 rfl (hS.1.1 (124, 16, 128) (by decide)) ?_
              refine p_iload_n 147 dX12_orderLine_146 rfl rfl ?_
              refine p_iload_n 148 dX12_orderLine_147 rfl rfl ?_
              refine p_iastn 128 149 (59 + 19 * q_n ρ 6) dX12_orderLine_148 rfl (by omega) (by omega) ?_
              have hS := hS.put (k := 59 + 19 * q_n ρ 6) (v := q_nb t n (q_en t n (q_en t n (q_en t n (q_en t n p)))))
              refine p_aload_n 150 dX12_orderLine_149 rfl rfl (by decide) ?_
              refine p_getR 124 153 dX12_orderLine_150 fX12_23 rfl (hS.1.1 (124, 16, 128) (by decide)) ?_
              refine p_bipush 155 dX12_orderLine_153 rfl ?_
              refine p_dup2 156 dX12_orderLine_155 ?_
              refine p_ialdn 128 157 (6) dX12_orderLine_156 rfl (by omega) (by omega) ?_
              rw [hS.2.2.2.1 6 (by decide), q_up_ne (by omega), eo 6 (by omega) (by omega)]
              refine p_iconst 158 dX12_orderLine_157 ?_
              refine p_iadd 159 dX12_orderLine_158 ?_
              refine p_iastn 128 160 (6) dX12_orderLine_159 rfl (by omega) (by omega) ?_
              have hS := hS.put (k := 6) (v := ρ 6 + 1)
              refine p_vret dX12_orderLine_160 rfl ?_
              exact ⟨rfl, MX.r (by simp only [q_lorder, if_neg hk1, if_neg hk2, if_neg hk3, if_neg hk4, hz5, q_bindN, if_pos hall]) hS⟩
            · refine p_aload_n 131 dX12_orderLine_130 rfl rfl (by decide) ?_
              refine p_getI 124 134 dX12_orderLine_131 fX12_91 rfl ?_
              rw [hF.2.1]
              refine p_if_eq 138 137 dX12_orderLine_134 (by decide) (by decide) (fun h134 => absurd (absurd h134 (by decide)) (fun h9 : False => h9)) (fun h134 => ?_)
              refine p_vret dX12_orderLine_137 rfl ?_
              exact ⟨rfl, MX.l (by simp only [q_lorder, if_neg hk1, if_neg hk2, if_neg hk3, if_neg hk4, hz5, q_bindN, if_neg hall]) hF⟩
        · have hk4 : q_is t n (q_en t n (q_en t n (q_en t n p))) 21 = false := Bool.eq_false_iff.mpr hno4
          refine p_aload_n 50 dX12_orderLine_49 rfl rfl (by decide) ?_
          refine p_iconst 51 dX12_orderLine_50 ?_
          refine p_bipush 53 dX12_orderLine_51 rfl ?_
          refine p_callV2i 124 56 dX12_orderLine_53 (s_numberHereF hF) lk_X12_150 mX12_numberHere rfl rfl (by decide) (Nat.le_of_ble_eq_true rfl) ?_
          rintro _ _ ⟨rfl, e9⟩
          have e9 := e9.symm
          subst e9
          refine p_istore_n 57 dX12_orderLine_56 rfl (Nat.le_of_ble_eq_true rfl) rfl rfl ?_
          dsimp only [List.set]
          refine p_iconst 58 dX12_orderLine_57 ?_
          refine p_istore_n 59 dX12_orderLine_58 rfl (Nat.le_of_ble_eq_true rfl) rfl rfl ?_
          dsimp only [List.set]
          refine l_ordF hF (fun k9 => ?_) _ 0 (by omega) (Nat.le_refl _) (by omega)
          refine p_aload_n 131 dX12_orderLine_130 rfl rfl (by decide) ?_
          refine p_getI 124 134 dX12_orderLine_131 fX12_91 rfl ?_
          rw [hF.2.1]
          refine p_if_eq 138 137 dX12_orderLine_134 (by decide) (by decide) (fun h134 => absurd (absurd h134 (by decide)) (fun h9 : False => h9)) (fun h134 => ?_)
          refine p_vret dX12_orderLine_137 rfl ?_
          exact ⟨rfl, MX.l (by simp only [q_lorder, if_neg hk1, if_neg hk2, if_neg hk3, if_pos hk4]) hF⟩
    · have hk2 : q_is t n (q_en t n p) 9 = false := Bool.eq_false_iff.mpr hno2
      refine p_aload_n 36 dX12_orderLine_35 rfl rfl (by decide) ?_
      refine p_iload_n 37 dX12_orderLine_36 rfl rfl ?_
      refine p_bipush 39 dX12_orderLine_37 rfl ?_
      refine p_iadd 40 dX12_orderLine_39 ?_
      refine p_callV1v 124 43 dX12_orderLine_40 (s_laysPassedF hF) lk_X12_252 mX12_laysPassed rfl rfl (by decide) (Nat.le_of_ble_eq_true rfl) ?_
      intro M9 e9
      have e9 := e9.symm
      subst e9
      refine p_aload_n 44 dX12_orderLine_43 rfl rfl (by decide) ?_
      refine p_ldcS 44 46 dX12_orderLine_44 rfl ?_
      refine p_callV1v 124 49 dX12_orderLine_46 (s_mustF hF) lk_X12_154 mX12_must rfl rfl (by decide) (Nat.le_of_ble_eq_true rfl) ?_
      intro M9 e9
      have e9 := e9.symm
      subst e9
      refine p_aload_n 50 dX12_orderLine_49 rfl rfl (by decide) ?_
      refine p_iconst 51 dX12_orderLine_50 ?_
      refine p_bipush 53 dX12_orderLine_51 rfl ?_
      refine p_callV2i 124 56 dX12_orderLine_53 (s_numberHereF hF) lk_X12_150 mX12_numberHere rfl rfl (by decide) (Nat.le_of_ble_eq_true rfl) ?_
      rintro _ _ ⟨rfl, e9⟩
      have e9 := e9.symm
      subst e9
      refine p_istore_n 57 dX12_orderLine_56 rfl (Nat.le_of_ble_eq_true rfl) rfl rfl ?_
      dsimp only [List.set]
      refine p_iconst 58 dX12_orderLine_57 ?_
      refine p_istore_n 59 dX12_orderLine_58 rfl (Nat.le_of_ble_eq_true rfl) rfl rfl ?_
      dsimp only [List.set]
      refine l_ordF hF (fun k9 => ?_) _ 0 (by omega) (Nat.le_refl _) (by omega)
      refine p_aload_n 131 dX12_orderLine_130 rfl rfl (by decide) ?_
      refine p_getI 124 134 dX12_orderLine_131 fX12_91 rfl ?_
      rw [hF.2.1]
      refine p_if_eq 138 137 dX12_orderLine_134 (by decide) (by decide) (fun h134 => absurd (absurd h134 (by decide)) (fun h9 : False => h9)) (fun h134 => ?_)
      refine p_vret dX12_orderLine_137 rfl ?_
      exact ⟨rfl, MX.l (by simp only [q_lorder, if_neg hk1, if_pos hk2]) hF⟩
theorem s_seenLineS {l : Launch} {X : ZX} {M : ZM} {t : Nat → Int} {n p : Nat} {ρ : Nat → Int} {N : ZM} (hn : n ≤ 900) (ht : ∀ i, i < n → 0 ≤ t i ∧ t i < 256) (hp : p ≤ n) (hS : MS t n p ρ N M) (hP : PI ρ) (hro : ρ 7 < 5) : zCv l X 9 yX12_seenLine tX12_seenLine [zr 124] M (fun M' => MX t n (q_lseen t n p ρ) N M') := by
  obtain ⟨hB, hT, hf0, hr, hfa, hfk⟩ := id hS
  obtain ⟨t4, t5, t6, t8, t7⟩ := id hT
  have hal := q_at_le t hp
  have hel := q_en_le t hp
  have htk := q_tk_cases t n p
  have hp0 := hp
  have hS0 := hS
  have hnn : nn ρ := hP.1.1
  have e9c := q_n_i hnn (i := 7) (by decide)
  refine zC.of [some (zr 124), none, none] (by decide +kernel) rfl rfl (Nat.le_of_ble_eq_true rfl) rfl ?_
  refine p_aload_n 1 dX12_seenLine_0 rfl rfl (by decide) ?_
  refine p_getI 124 4 dX12_seenLine_1 fX12_91 rfl ?_
  rw [hf0]
  refine p_if_eq 8 7 dX12_seenLine_4 (by decide) (by decide) (fun h4 => ?_) (fun h4 => absurd (h4 rfl) (fun h9 : False => h9))
  refine p_sipush 11 dX12_seenLine_8 rfl ?_
  refine p_bipush 13 dX12_seenLine_11 rfl ?_
  refine p_aload_n 14 dX12_seenLine_13 rfl rfl (by decide) ?_
  refine p_getR 124 17 dX12_seenLine_14 fX12_23 rfl (hB.1 (124, 16, 128) (by decide)) ?_
  refine p_bipush 19 dX12_seenLine_17 rfl ?_
  refine p_ialdn 128 20 (7) dX12_seenLine_19 rfl (by omega) (by omega) ?_
  rw [hr 7 (by decide), e9c]
  refine p_imul 21 dX12_seenLine_20 ?_
  refine p_iadd 22 dX12_seenLine_21 ?_
  refine p_istore_n 23 dX12_seenLine_22 rfl (Nat.le_of_ble_eq_true rfl) rfl rfl ?_
  dsimp only [List.set]
  refine p_aload_n 24 dX12_seenLine_23 rfl rfl (by decide) ?_
  refine p_iload_n 25 dX12_seenLine_24 rfl rfl ?_
  refine p_iconst 26 dX12_seenLine_25 ?_
  refine p_iadd 27 dX12_seenLine_26 ?_
  rw [show (173 : Int) + 19 * (q_n ρ 7 : Int) + 1 = (((173 + 19 * q_n ρ 7 + 1) : Nat) : Int) by omega]
  refine p_callV1v 124 30 dX12_seenLine_27 (s_laysS hn ht hp hS (f := (173 + 19 * q_n ρ 7 + 1)) (by omega)) lk_X12_161 mX12_lays rfl rfl (by decide) (Nat.le_of_ble_eq_true rfl) ?_
  intro M1 hd
  rcases hd with ⟨hk1, hF⟩ | ⟨hq1, hS⟩
  · refine p_iconst 31 dX12_seenLine_30 ?_
    refine p_istore_n 32 dX12_seenLine_31 rfl (Nat.le_of_ble_eq_true rfl) rfl rfl ?_
    dsimp only [List.set]
    refine l_seeF hF (fun k9 => ?_) _ 0 (by omega) (Nat.le_refl _) (by omega)
    refine p_aload_n 89 dX12_seenLine_88 rfl rfl (by decide) ?_
    refine p_getI 124 92 dX12_seenLine_89 fX12_91 rfl ?_
    rw [hF.2.1]
    refine p_if_eq 96 95 dX12_seenLine_92 (by decide) (by decide) (fun h92 => absurd (absurd h92 (by decide)) (fun h9 : False => h9)) (fun h92 => ?_)
    refine p_vret dX12_seenLine_95 rfl ?_
    exact ⟨rfl, MX.l (by simp only [q_lseen, if_pos hk1]) hF⟩
  · have hk1 : ¬ q_tk t n p ≠ 2 := fun k => k hq1
    refine p_iconst 31 dX12_seenLine_30 ?_
    refine p_istore_n 32 dX12_seenLine_31 rfl (Nat.le_of_ble_eq_true rfl) rfl rfl ?_
    dsimp only [List.set]
    obtain ⟨w1, w2, w3, w4, w5⟩ := q_tk_word hp0 hq1
    have eo : ∀ i, ¬ ((173 + 19 * q_n ρ 7 + 1) ≤ i ∧ i < (173 + 19 * q_n ρ 7 + 1) + 9) → (q_lay t n p ρ (173 + 19 * q_n ρ 7 + 1)) i = ρ i := fun i g1 => q_lay_ne w3 g1
    have hl6 := l_seeL (l := l) (X := X) (Q := (fun r M' => r = none ∧ MX t n (q_lseen t n p ρ) N M')) (ρ := ρ) (sh := q_wd t n p) (o := q_n ρ 7) hn ht hp hS (by omega) (by rw [eo 7 (by omega)]; exact e9c) (hnn.lay w5) (fun k hk => ⟨q_sign_congr (hP.1.2.2.2.2.2.2 k (by omega)).2.1.1 (fun i hi => eo i (by omega)), q_wordOk_congr (hP.1.2.2.2.2.2.2 k (by omega)).2.1 (fun i hi => eo i (by omega))⟩) ⟨q_lay_wd, (q_lay_ok hp0 hq1 (fun i hi => rfl)).2⟩
    refine hl6 (fun hall => ?_) (fun hall M9 k9 hF => ?_) (q_n ρ 7) 0 (by omega) rfl
    · have hall : ¬ q_all (fun k => decide (q_ss ρ k ≠ q_wd t n p)) (q_n ρ 7) = false := by rw [hall]; decide
      refine p_aload_n 89 dX12_seenLine_88 rfl rfl (by decide) ?_
      refine p_getI 124 92 dX12_seenLine_89 fX12_91 rfl ?_
      rw [hS.2.2.1]
      refine p_if_eq 96 95 dX12_seenLine_92 (by decide) (by decide) (fun h92 => ?_) (fun h92 => absurd (h92 rfl) (fun h9 : False => h9))
      refine p_aload_n 97 dX12_seenLine_96 rfl rfl (by decide) ?_
      refine p_callV0v 124 100 dX12_seenLine_97 (s_goOn hn ht hS.1 (p := q_en t n p) (q_en_n t hp) hS.2.1.2.1) lk_X12_112 mX12_goOn rfl rfl (by decide) (Nat.le_of_ble_eq_true rfl) ?_
      rintro M9 ⟨kk9, hT9⟩
      have hS := hS.adv kk9 hT9
      have hp := q_en_n t hp
      refine p_aload_n 101 dX12_seenLine_100 rfl rfl (by decide) ?_
      refine p_getR 124 104 dX12_seenLine_101 fX12_23 rfl (hS.1.1 (124, 16, 128) (by decide)) ?_
      refine p_iload_n 105 dX12_seenLine_104 rfl rfl ?_
      refine p_iconst 106 dX12_seenLine_105 ?_
      refine p_iastn 128 107 ((173 + 19 * q_n ρ 7)) dX12_seenLine_106 rfl (by omega) (by omega) ?_
      have hS := hS.put (k := (173 + 19 * q_n ρ 7)) (v := 0)
      refine p_aload_n 108 dX12_seenLine_107 rfl rfl (by decide) ?_
      refine p_ldcS 33 110 dX12_seenLine_108 rfl ?_
      refine p_callV1i 124 113 dX12_seenLine_110 (s_takesWordM hn ht hp hS (i := 10) (k := 33) rfl (by decide) rfl) lk_X12_115 mX12_takesWord rfl rfl (by decide) (Nat.le_of_ble_eq_true rfl) ?_
      intro a2 M2 hd
      rcases hd with ⟨hy2, ea2, hS⟩ | ⟨hno2, ea2, em⟩
      · subst ea2
        have hp := q_en_n t hp
        refine p_if_ne 144 116 dX12_seenLine_113 (by decide) (by decide) (fun h113 => ?_) (fun h113 => absurd (h113 (by decide)) (fun h9 : False => h9))
        refine p_aload_n 145 dX12_seenLine_144 rfl rfl (by decide) ?_
        refine p_getI 124 148 dX12_seenLine_145 fX12_91 rfl ?_
        rw [hS.2.2.1]
        refine p_if_ne 162 151 dX12_seenLine_148 (by decide) (by decide) (fun h148 => absurd (absurd rfl h148) (fun h9 : False => h9)) (fun h148 => ?_)
        refine p_aload_n 152 dX12_seenLine_151 rfl rfl (by decide) ?_
        refine p_getR 124 155 dX12_seenLine_152 fX12_23 rfl (hS.1.1 (124, 16, 128) (by decide)) ?_
        refine p_bipush 157 dX12_seenLine_155 rfl ?_
        refine p_dup2 158 dX12_seenLine_157 ?_
        refine p_ialdn 128 159 (7) dX12_seenLine_158 rfl (by omega) (by omega) ?_
        rw [hS.2.2.2.1 7 (by decide), show (q_up (q_lay t n p ρ (173 + 19 * q_n ρ 7 + 1)) (173 + 19 * q_n ρ 7) 0) 7 = ρ 7 by rw [q_up_ne (by omega), q_lay_ne w3 (by omega)]]
        refine p_iconst 160 dX12_seenLine_159 ?_
        refine p_iadd 161 dX12_seenLine_160 ?_
        refine p_iastn 128 162 (7) dX12_seenLine_161 rfl (by omega) (by omega) ?_
        have hS := hS.put (k := 7) (v := ρ 7 + 1)
        refine p_vret dX12_seenLine_162 rfl ?_
        exact ⟨rfl, MX.r (by simp only [q_lseen, if_neg hk1, if_neg hall, if_pos hy2]) hS⟩
      · subst ea2
        have em := em.symm
        subst em
        refine p_if_ne 144 116 dX12_seenLine_113 (by decide) (by decide) (fun h113 => absurd (absurd rfl h113) (fun h9 : False => h9)) (fun h113 => ?_)
        refine p_aload_n 117 dX12_seenLine_116 rfl rfl (by decide) ?_
        refine p_ldcS 32 119 dX12_seenLine_117 rfl ?_
        refine p_callV1v 124 122 dX12_seenLine_119 (s_mustM hn ht hp hS (i := 9) (k := 32) rfl (by decide) rfl) lk_X12_154 mX12_must rfl rfl (by decide) (Nat.le_of_ble_eq_true rfl) ?_
        intro M3 hd
        rcases hd with ⟨hy3, hS⟩ | ⟨hno3, hF⟩
        · have hk3 : ¬ q_is t n (q_en t n p) 9 = false := by rw [hy3]; decide
          have hp := q_en_n t hp
          refine p_aload_n 123 dX12_seenLine_122 rfl rfl (by decide) ?_
          refine p_iload_n 124 dX12_seenLine_123 rfl rfl ?_
          refine p_bipush 126 dX12_seenLine_124 rfl ?_
          refine p_iadd 127 dX12_seenLine_126 ?_
          rw [show (173 : Int) + 19 * (q_n ρ 7 : Int) + 10 = (((173 + 19 * q_n ρ 7 + 10) : Nat) : Int) by omega]
          refine p_callV1v 124 130 dX12_seenLine_127 (s_laysPassedS hn ht hp hS (f := (173 + 19 * q_n ρ 7 + 10)) (by omega)) lk_X12_252 mX12_laysPassed rfl rfl (by decide) (Nat.le_of_ble_eq_true rfl) ?_
          intro M4 hd
          rcases hd with ⟨hk4, hF⟩ | ⟨hq4, hS⟩
          · refine p_aload_n 131 dX12_seenLine_130 rfl rfl (by decide) ?_
            refine p_getI 124 134 dX12_seenLine_131 fX12_91 rfl ?_
            rw [hF.2.1]
            refine p_if_ne 144 137 dX12_seenLine_134 (by decide) (by decide) (fun h134 => ?_) (fun h134 => absurd (h134 (by decide)) (fun h9 : False => h9))
            refine p_aload_n 145 dX12_seenLine_144 rfl rfl (by decide) ?_
            refine p_getI 124 148 dX12_seenLine_145 fX12_91 rfl ?_
            rw [hF.2.1]
            refine p_if_ne 162 151 dX12_seenLine_148 (by decide) (by decide) (fun h148 => ?_) (fun h148 => absurd (h148 (by decide)) (fun h9 : False => h9))
            refine p_vret dX12_seenLine_162 rfl ?_
            exact ⟨rfl, MX.l (by simp only [q_lseen, if_neg hk1, if_neg hall, if_neg hno2, if_neg hk3, if_pos hk4]) hF⟩
          · have hk4 : ¬ q_tk t n (q_en t n (q_en t n p)) ≠ 2 := fun k => k hq4
            obtain ⟨v1, v2, v3, v4, v5⟩ := q_tk_word hp hq4
            have hp := q_en_n t hp
            refine p_aload_n 131 dX12_seenLine_130 rfl rfl (by decide) ?_
            refine p_getI 124 134 dX12_seenLine_131 fX12_91 rfl ?_
            rw [hS.2.2.1]
            refine p_if_ne 144 137 dX12_seenLine_134 (by decide) (by decide) (fun h134 => absurd (absurd rfl h134) (fun h9 : False => h9)) (fun h134 => ?_)
            refine p_aload_n 138 dX12_seenLine_137 rfl rfl (by decide) ?_
            refine p_getR 124 141 dX12_seenLine_138 fX12_23 rfl (hS.1.1 (124, 16, 128) (by decide)) ?_
            refine p_iload_n 142 dX12_seenLine_141 rfl rfl ?_
            refine p_iconst 143 dX12_seenLine_142 ?_
            refine p_iastn 128 144 ((173 + 19 * q_n ρ 7)) dX12_seenLine_143 rfl (by omega) (by omega) ?_
            have hS := hS.put (k := (173 + 19 * q_n ρ 7)) (v := 1)
            refine p_aload_n 145 dX12_seenLine_144 rfl rfl (by decide) ?_
            refine p_getI 124 148 dX12_seenLine_145 fX12_91 rfl ?_
            rw [hS.2.2.1]
            refine p_if_ne 162 151 dX12_seenLine_148 (by decide) (by decide) (fun h148 => absurd (absurd rfl h148) (fun h9 : False => h9)) (fun h148 => ?_)
            refine p_aload_n 152 dX12_seenLine_151 rfl rfl (by decide) ?_
            refine p_getR 124 155 dX12_seenLine_152 fX12_23 rfl (hS.1.1 (124, 16, 128) (by decide)) ?_
            refine p_bipush 157 dX12_seenLine_155 rfl ?_
            refine p_dup2 158 dX12_seenLine_157 ?_
            refine p_ialdn 128 159 (7) dX12_seenLine_158 rfl (by omega) (by omega) ?_
            rw [hS.2.2.2.1 7 (by decide), show (q_up (q_lay t n (q_en t n (q_en t n p)) (q_up (q_lay t n p ρ (173 + 19 * q_n ρ 7 + 1)) (173 + 19 * q_n ρ 7) 0) (173 + 19 * q_n ρ 7 + 10)) (173 + 19 * q_n ρ 7) 1) 7 = ρ 7 by rw [q_up_ne (by omega), q_lay_ne v3 (by omega), q_up_ne (by omega), q_lay_ne w3 (by omega)]]
            refine p_iconst 160 dX12_seenLine_159 ?_
            refine p_iadd 161 dX12_seenLine_160 ?_
            refine p_iastn 128 162 (7) dX12_seenLine_161 rfl (by omega) (by omega) ?_
            have hS := hS.put (k := 7) (v := ρ 7 + 1)
            refine p_vret dX12_seenLine_162 rfl ?_
            exact ⟨rfl, MX.r (by simp only [q_lseen, if_neg hk1, if_neg hall, if_neg hno2, if_neg hk3, if_neg hk4]) hS⟩
        · have hk3 : q_is t n (q_en t n p) 9 = false := Bool.eq_false_iff.mpr hno3
          refine p_aload_n 123 dX12_seenLine_122 rfl rfl (by decide) ?_
          refine p_iload_n 124 dX12_seenLine_123 rfl rfl ?_
          refine p_bipush 126 dX12_seenLine_124 rfl ?_
          refine p_iadd 127 dX12_seenLine_126 ?_
          refine p_callV1v 124 130 dX12_seenLine_127 (s_laysPassedF hF) lk_X12_252 mX12_laysPassed rfl rfl (by decide) (Nat.le_of_ble_eq_true rfl) ?_
          intro M9 e9
          have e9 := e9.symm
          subst e9
          refine p_aload_n 131 dX12_seenLine_130 rfl rfl (by decide) ?_
          refine p_getI 124 134 dX12_seenLine_131 fX12_91 rfl ?_
          rw [hF.2.1]
          refine p_if_ne 144 137 dX12_seenLine_134 (by decide) (by decide) (fun h134 => ?_) (fun h134 => absurd (h134 (by decide)) (fun h9 : False => h9))
          refine p_aload_n 145 dX12_seenLine_144 rfl rfl (by decide) ?_
          refine p_getI 124 148 dX12_seenLine_145 fX12_91 rfl ?_
          rw [hF.2.1]
          refine p_if_ne 162 151 dX12_seenLine_148 (by decide) (by decide) (fun h148 => ?_) (fun h148 => absurd (h148 (by decide)) (fun h9 : False => h9))
          refine p_vret dX12_seenLine_162 rfl ?_
          exact ⟨rfl, MX.l (by simp only [q_lseen, if_neg hk1, if_neg hall, if_neg hno2, if_pos hk3]) hF⟩
    · refine p_aload_n 89 dX12_seenLine_88 rfl rfl (by decide) ?_
      refine p_getI 124 92 dX12_seenLine_89 fX12_91 rfl ?_
      rw [hF.2.1]
      refine p_if_eq 96 95 dX12_seenLine_92 (by decide) (by decide) (fun h92 => absurd (absurd h92 (by decide)) (fun h9 : False => h9)) (fun h92 => ?_)
      refine p_vret dX12_seenLine_95 rfl ?_
      exact ⟨rfl, MX.l (by simp only [q_lseen, if_neg hk1, if_pos hall]) hF⟩
