/-! THE READER, the model's: a sleeper's line, a line of what comes before -/
theorem s_sleeperLineS {l : Launch} {X : ZX} {M : ZM} {t : Nat → Int} {n p : Nat} {ρ : Nat → Int} {N : ZM} (hn : n ≤ 900) (ht : ∀ i, i < n → 0 ≤ t i ∧ t i < 256) (hp : p ≤ n) (hS : MS t n p ρ N M) (hP : PI ρ) (hro : ρ 2 < 7) : zCv l X 9 yX12_sleeperLine tX12_sleeperLine [zr 124] M (fun M' => MX t n (q_lsleeper t n p ρ) N M') := by
  obtain ⟨hB, hT, hf0, hr, hfa, hfk⟩ := id hS
  obtain ⟨t4, t5, t6, t8, t7⟩ := id hT
  have hal := q_at_le t hp
  have hel := q_en_le t hp
  have htk := q_tk_cases t n p
  have hp0 := hp
  have hS0 := hS
  have hnn : nn ρ := hP.1.1
  have e9c := q_n_i hnn (i := 2) (by decide)
  refine zC.of [some (zr 124), none, none] (by decide +kernel) rfl rfl (Nat.le_of_ble_eq_true rfl) rfl ?_
  refine p_aload_n 1 dX12_sleeperLine_0 rfl rfl (by decide) ?_
  refine p_getI 124 4 dX12_sleeperLine_1 fX12_91 rfl ?_
  rw [hf0]
  refine p_if_eq 8 7 dX12_sleeperLine_4 (by decide) (by decide) (fun h4 => ?_) (fun h4 => absurd (h4 rfl) (fun h9 : False => h9))
  refine p_bipush 10 dX12_sleeperLine_8 rfl ?_
  refine p_iconst 11 dX12_sleeperLine_10 ?_
  refine p_aload_n 12 dX12_sleeperLine_11 rfl rfl (by decide) ?_
  refine p_getR 124 15 dX12_sleeperLine_12 fX12_23 rfl (hB.1 (124, 16, 128) (by decide)) ?_
  refine p_iconst 16 dX12_sleeperLine_15 ?_
  refine p_ialdn 128 17 (2) dX12_sleeperLine_16 rfl (by omega) (by omega) ?_
  rw [hr 2 (by decide), e9c]
  refine p_imul 18 dX12_sleeperLine_17 ?_
  refine p_iadd 19 dX12_sleeperLine_18 ?_
  refine p_istore_n 20 dX12_sleeperLine_19 rfl (Nat.le_of_ble_eq_true rfl) rfl rfl ?_
  dsimp only [List.set]
  refine p_aload_n 21 dX12_sleeperLine_20 rfl rfl (by decide) ?_
  refine p_aload_n 22 dX12_sleeperLine_21 rfl rfl (by decide) ?_
  refine p_getR 124 25 dX12_sleeperLine_22 fX12_23 rfl (hB.1 (124, 16, 128) (by decide)) ?_
  refine p_iconst 26 dX12_sleeperLine_25 ?_
  refine p_ialdn 128 27 (2) dX12_sleeperLine_26 rfl (by omega) (by omega) ?_
  rw [hr 2 (by decide), e9c]
  refine p_callV1v 124 30 dX12_sleeperLine_27 (s_newNameS hn ht hp hS hP (m := q_n ρ 2) (by omega)) lk_X12_220 mX12_newName rfl rfl (by decide) (Nat.le_of_ble_eq_true rfl) ?_
  intro M0 hX0
  rcases hX0.cases with ⟨e0, hz0, hF⟩ | ⟨p1, ρ1, hz0, hS⟩
  · refine p_aload_n 31 dX12_sleeperLine_30 rfl rfl (by decide) ?_
    refine p_ldcS 34 33 dX12_sleeperLine_31 rfl ?_
    refine p_callV1i 124 36 dX12_sleeperLine_33 (s_isWordF hF) lk_X12_108 mX12_isWord rfl rfl (by decide) (Nat.le_of_ble_eq_true rfl) ?_
    rintro _ _ ⟨rfl, e9⟩
    have e9 := e9.symm
    subst e9
    refine p_if_eq 43 39 dX12_sleeperLine_36 (by decide) (by decide) (fun h36 => ?_) (fun h36 => absurd (h36 rfl) (fun h9 : False => h9))
    refine p_aload_n 44 dX12_sleeperLine_43 rfl rfl (by decide) ?_
    refine p_ldcS 35 46 dX12_sleeperLine_44 rfl ?_
    refine p_callV1i 124 49 dX12_sleeperLine_46 (s_isWordF hF) lk_X12_108 mX12_isWord rfl rfl (by decide) (Nat.le_of_ble_eq_true rfl) ?_
    rintro _ _ ⟨rfl, e9⟩
    have e9 := e9.symm
    subst e9
    refine p_if_eq 56 52 dX12_sleeperLine_49 (by decide) (by decide) (fun h49 => ?_) (fun h49 => absurd (h49 rfl) (fun h9 : False => h9))
    refine p_aload_n 57 dX12_sleeperLine_56 rfl rfl (by decide) ?_
    refine p_ldcS 36 59 dX12_sleeperLine_57 rfl ?_
    refine p_callV1i 124 62 dX12_sleeperLine_59 (s_isWordF hF) lk_X12_108 mX12_isWord rfl rfl (by decide) (Nat.le_of_ble_eq_true rfl) ?_
    rintro _ _ ⟨rfl, e9⟩
    have e9 := e9.symm
    subst e9
    refine p_if_eq 69 65 dX12_sleeperLine_62 (by decide) (by decide) (fun h62 => ?_) (fun h62 => absurd (h62 rfl) (fun h9 : False => h9))
    refine p_aload_n 70 dX12_sleeperLine_69 rfl rfl (by decide) ?_
    refine p_ldcS 37 72 dX12_sleeperLine_70 rfl ?_
    refine p_callV1i 124 75 dX12_sleeperLine_72 (s_isWordF hF) lk_X12_108 mX12_isWord rfl rfl (by decide) (Nat.le_of_ble_eq_true rfl) ?_
    rintro _ _ ⟨rfl, e9⟩
    have e9 := e9.symm
    subst e9
    refine p_if_eq 82 78 dX12_sleeperLine_75 (by decide) (by decide) (fun h75 => ?_) (fun h75 => absurd (h75 rfl) (fun h9 : False => h9))
    refine p_iconst 83 dX12_sleeperLine_82 ?_
    refine p_istore_n 84 dX12_sleeperLine_83 rfl (Nat.le_of_ble_eq_true rfl) rfl rfl ?_
    dsimp only [List.set]
    refine p_iload_n 85 dX12_sleeperLine_84 rfl rfl ?_
    refine p_if_ge 97 88 dX12_sleeperLine_85 (by decide) (by decide) (fun h85 => absurd (absurd h85 (by decide)) (fun h9 : False => h9)) (fun h85 => ?_)
    refine p_aload_n 89 dX12_sleeperLine_88 rfl rfl (by decide) ?_
    refine p_iconst 90 dX12_sleeperLine_89 ?_
    refine p_aload_n 91 dX12_sleeperLine_90 rfl rfl (by decide) ?_
    refine p_getI 124 94 dX12_sleeperLine_91 fX12_72 rfl ?_
    refine p_callV2v 124 97 dX12_sleeperLine_94 (s_wrongF hF) lk_X12_118 mX12_wrong rfl rfl (by decide) (Nat.le_of_ble_eq_true rfl) ?_
    intro M9 e9
    have e9 := e9.symm
    subst e9
    refine p_aload_n 98 dX12_sleeperLine_97 rfl rfl (by decide) ?_
    refine p_getI 124 101 dX12_sleeperLine_98 fX12_91 rfl ?_
    rw [hF.2.1]
    refine p_if_eq 105 104 dX12_sleeperLine_101 (by decide) (by decide) (fun h101 => absurd (absurd h101 (by decide)) (fun h9 : False => h9)) (fun h101 => ?_)
    refine p_vret dX12_sleeperLine_104 rfl ?_
    exact ⟨rfl, MX.l (by simp only [q_lsleeper, q_bindR, hz0]) hF⟩
  · have hp := newn_le hp hz0
    have hk2 := (q_newn_inv hz0).1
    obtain ⟨-, -, hw3, -, -⟩ := q_tk_word hp0 hk2
    have hro := (q_newn_inv hz0).2.2.2
    have h83 : ∀ k9 : Int, q_kind t n p1 = k9 → zP l X 9 tX12_sleeperLine 83 [some (zr 124), some (zi (8 + 3 * (q_n ρ 2 : Int))), none] [zi k9] M0 (fun r M' => r = none ∧ MX t n (q_lsleeper t n p ρ) N M') := by
      intro k9 hkq
      have hkb := q_kind_bd t n p1
      refine p_istore_n 84 dX12_sleeperLine_83 rfl (Nat.le_of_ble_eq_true rfl) rfl rfl ?_
      dsimp only [List.set]
      refine p_iload_n 85 dX12_sleeperLine_84 rfl rfl ?_
      refine p_if_ge 97 88 dX12_sleeperLine_85 (by omega) (by omega) (fun h85 => ?_) (fun h85 => ?_)
      · have hkn : ¬ k9 < 0 := by omega
        refine p_aload_n 98 dX12_sleeperLine_97 rfl rfl (by decide) ?_
        refine p_getI 124 101 dX12_sleeperLine_98 fX12_91 rfl ?_
        rw [hS.2.2.1]
        refine p_if_eq 105 104 dX12_sleeperLine_101 (by decide) (by decide) (fun h101 => ?_) (fun h101 => absurd (h101 rfl) (fun h9 : False => h9))
        refine p_aload_n 106 dX12_sleeperLine_105 rfl rfl (by decide) ?_
        refine p_callV0v 124 109 dX12_sleeperLine_106 (s_goOn hn ht hS.1 (p := q_en t n p1) (q_en_n t hp) hS.2.1.2.1) lk_X12_112 mX12_goOn rfl rfl (by decide) (Nat.le_of_ble_eq_true rfl) ?_
        rintro M9 ⟨kk9, hT9⟩
        have hS := hS.adv kk9 hT9
        have hp := q_en_n t hp
        refine p_aload_n 110 dX12_sleeperLine_109 rfl rfl (by decide) ?_
        refine p_getR 124 113 dX12_sleeperLine_110 fX12_23 rfl (hS.1.1 (124, 16, 128) (by decide)) ?_
        refine p_iload_n 114 dX12_sleeperLine_113 rfl rfl ?_
        refine p_iload_n 115 dX12_sleeperLine_114 rfl rfl ?_
        refine p_iastn 128 116 (8 + 3 * q_n ρ 2) dX12_sleeperLine_115 rfl (by omega) (by omega) ?_
        have hS := hS.put (k := 8 + 3 * q_n ρ 2) (v := k9)
        refine p_aload_n 117 dX12_sleeperLine_116 rfl rfl (by decide) ?_
        refine p_getR 124 120 dX12_sleeperLine_117 fX12_23 rfl (hS.1.1 (124, 16, 128) (by decide)) ?_
        refine p_iload_n 121 dX12_sleeperLine_120 rfl rfl ?_
        refine p_iconst 122 dX12_sleeperLine_121 ?_
        refine p_iadd 123 dX12_sleeperLine_122 ?_
        refine p_aload_n 124 dX12_sleeperLine_123 rfl rfl (by decide) ?_
        refine p_ldcS 38 126 dX12_sleeperLine_124 rfl ?_
        refine p_iconst 127 dX12_sleeperLine_126 ?_
        refine p_bipush 129 dX12_sleeperLine_127 rfl ?_
        refine p_callV3i 124 132 dX12_sleeperLine_129 (s_afterM hn ht hp hS (i := 15) (k := 38) rfl (by decide) rfl (by omega : (0 : Int) ≤ 0 ∧ (0 : Int) ≤ 1000) (by omega : (0 : Int) ≤ 9 ∧ (9 : Int) ≤ 1000)) lk_X12_214 mX12_after rfl rfl (by decide) (Nat.le_of_ble_eq_true rfl) ?_
        intro a1 M1 hd
        rcases hd with ⟨e1, hz1, ea1, hF⟩ | ⟨p1, hp, la1, lb1, hz1, hS⟩
        · refine p_iastn 128 133 (8 + 3 * q_n ρ 2 + 1) dX12_sleeperLine_132 rfl (by omega) (by omega) ?_
          have hF := hF.put (k := 8 + 3 * q_n ρ 2 + 1) (v := a1)
          refine p_aload_n 134 dX12_sleeperLine_133 rfl rfl (by decide) ?_
          refine p_getR 124 137 dX12_sleeperLine_134 fX12_23 rfl (hF.1 (124, 16, 128) (by decide)) ?_
          refine p_iload_n 138 dX12_sleeperLine_137 rfl rfl ?_
          refine p_iconst 139 dX12_sleeperLine_138 ?_
          refine p_iadd 140 dX12_sleeperLine_139 ?_
          refine p_aload_n 141 dX12_sleeperLine_140 rfl rfl (by decide) ?_
          refine p_ldcS 39 143 dX12_sleeperLine_141 rfl ?_
          refine p_iconst 144 dX12_sleeperLine_143 ?_
          refine p_bipush 146 dX12_sleeperLine_144 rfl ?_
          refine p_callV3i 124 149 dX12_sleeperLine_146 (s_afterF hF (by decide)) lk_X12_214 mX12_after rfl rfl (by decide) (Nat.le_of_ble_eq_true rfl) ?_
          rintro _ _ ⟨rfl, e9⟩
          have e9 := e9.symm
          subst e9
          refine p_iastn 128 150 (8 + 3 * q_n ρ 2 + 2) dX12_sleeperLine_149 rfl (by omega) (by omega) ?_
          have hF := hF.put (k := 8 + 3 * q_n ρ 2 + 2) (v := 1)
          refine p_aload_n 151 dX12_sleeperLine_150 rfl rfl (by decide) ?_
          refine p_getI 124 154 dX12_sleeperLine_151 fX12_91 rfl ?_
          rw [hF.2.1]
          refine p_if_ne 167 157 dX12_sleeperLine_154 (by decide) (by decide) (fun h154 => ?_) (fun h154 => absurd (h154 (by decide)) (fun h9 : False => h9))
          refine p_vret dX12_sleeperLine_167 rfl ?_
          exact ⟨rfl, MX.l (by simp only [q_lsleeper, q_bindR, q_bindN, hz0, hkq, if_neg hkn, hz1]) hF⟩
        · refine p_iastn 128 133 (8 + 3 * q_n ρ 2 + 1) dX12_sleeperLine_132 rfl (by omega) (by omega) ?_
          have hS := hS.put (k := 8 + 3 * q_n ρ 2 + 1) (v := a1)
          refine p_aload_n 134 dX12_sleeperLine_133 rfl rfl (by decide) ?_
          refine p_getR 124 137 dX12_sleeperLine_134 fX12_23 rfl (hS.1.1 (124, 16, 128) (by decide)) ?_
          refine p_iload_n 138 dX12_sleeperLine_137 rfl rfl ?_
          refine p_iconst 139 dX12_sleeperLine_138 ?_
          refine p_iadd 140 dX12_sleeperLine_139 ?_
          refine p_aload_n 141 dX12_sleeperLine_140 rfl rfl (by decide) ?_
          refine p_ldcS 39 143 dX12_sleeperLine_141 rfl ?_
          refine p_iconst 144 dX12_sleeperLine_143 ?_
          refine p_bipush 146 dX12_sleeperLine_144 rfl ?_
          refine p_callV3i 124 149 dX12_sleeperLine_146 (s_afterM hn ht hp hS (i := 16) (k := 39) rfl (by decide) rfl (by omega : (0 : Int) ≤ 1 ∧ (1 : Int) ≤ 1000) (by omega : (0 : Int) ≤ 20 ∧ (20 : Int) ≤ 1000)) lk_X12_214 mX12_after rfl rfl (by decide) (Nat.le_of_ble_eq_true rfl) ?_
          intro a2 M2 hd
          rcases hd with ⟨e2, hz2, ea2, hF⟩ | ⟨p2, hp, la2, lb2, hz2, hS⟩
          · refine p_iastn 128 150 (8 + 3 * q_n ρ 2 + 2) dX12_sleeperLine_149 rfl (by omega) (by omega) ?_
            have hF := hF.put (k := 8 + 3 * q_n ρ 2 + 2) (v := a2)
            refine p_aload_n 151 dX12_sleeperLine_150 rfl rfl (by decide) ?_
            refine p_getI 124 154 dX12_sleeperLine_151 fX12_91 rfl ?_
            rw [hF.2.1]
            refine p_if_ne 167 157 dX12_sleeperLine_154 (by decide) (by decide) (fun h154 => ?_) (fun h154 => absurd (h154 (by decide)) (fun h9 : False => h9))
            refine p_vret dX12_sleeperLine_167 rfl ?_
            exact ⟨rfl, MX.l (by simp only [q_lsleeper, q_bindR, q_bindN, hz0, hkq, if_neg hkn, hz1, hz2]) hF⟩
          · refine p_iastn 128 150 (8 + 3 * q_n ρ 2 + 2) dX12_sleeperLine_149 rfl (by omega) (by omega) ?_
            have hS := hS.put (k := 8 + 3 * q_n ρ 2 + 2) (v := a2)
            refine p_aload_n 151 dX12_sleeperLine_150 rfl rfl (by decide) ?_
            refine p_getI 124 154 dX12_sleeperLine_151 fX12_91 rfl ?_
            rw [hS.2.2.1]
            refine p_if_ne 167 157 dX12_sleeperLine_154 (by decide) (by decide) (fun h154 => absurd (absurd rfl h154) (fun h9 : False => h9)) (fun h154 => ?_)
            refine p_aload_n 158 dX12_sleeperLine_157 rfl rfl (by decide) ?_
            refine p_getR 124 161 dX12_sleeperLine_158 fX12_23 rfl (hS.1.1 (124, 16, 128) (by decide)) ?_
            refine p_iconst 162 dX12_sleeperLine_161 ?_
            refine p_dup2 163 dX12_sleeperLine_162 ?_
            refine p_ialdn 128 164 (2) dX12_sleeperLine_163 rfl (by omega) (by omega) ?_
            rw [hS.2.2.2.1 2 (by decide)]
            rw [show (q_up (q_up (q_up ρ1 (8 + 3 * q_n ρ 2) k9) (8 + 3 * q_n ρ 2 + 1) a1) (8 + 3 * q_n ρ 2 + 2) a2) 2 = ρ 2 by rw [q_up_ne (by omega), q_up_ne (by omega), q_up_ne (by omega), hro, q_nm_ne hw3 (by omega) (by omega)]]
            refine p_iconst 165 dX12_sleeperLine_164 ?_
            refine p_iadd 166 dX12_sleeperLine_165 ?_
            refine p_iastn 128 167 (2) dX12_sleeperLine_166 rfl (by omega) (by omega) ?_
            have hS := hS.put (k := 2) (v := ρ 2 + 1)
            refine p_vret dX12_sleeperLine_167 rfl ?_
            exact ⟨rfl, MX.r (by simp only [q_lsleeper, q_bindR, q_bindN, hz0, hkq, if_neg hkn, hz1, hz2]) hS⟩
      · have hkn : k9 < 0 := by omega
        refine p_aload_n 89 dX12_sleeperLine_88 rfl rfl (by decide) ?_
        refine p_iconst 90 dX12_sleeperLine_89 ?_
        refine p_aload_n 91 dX12_sleeperLine_90 rfl rfl (by decide) ?_
        refine p_getI 124 94 dX12_sleeperLine_91 fX12_72 rfl ?_
        rw [hS.2.1.1]
        refine p_callV2v 124 97 dX12_sleeperLine_94 (s_wrongS hn hp hS) lk_X12_118 mX12_wrong rfl rfl (by decide) (Nat.le_of_ble_eq_true rfl) ?_
        intro M9 hF9
        refine p_aload_n 98 dX12_sleeperLine_97 rfl rfl (by decide) ?_
        refine p_getI 124 101 dX12_sleeperLine_98 fX12_91 rfl ?_
        rw [hF9.2.1]
        refine p_if_eq 105 104 dX12_sleeperLine_101 (by decide) (by decide) (fun h101 => absurd (absurd h101 (by decide)) (fun h9 : False => h9)) (fun h101 => ?_)
        refine p_vret dX12_sleeperLine_104 rfl ?_
        exact ⟨rfl, MX.l (by simp only [q_lsleeper, q_bindR, hz0, hkq, if_pos hkn]) hF9⟩
    refine p_aload_n 31 dX12_sleeperLine_30 rfl rfl (by decide) ?_
    refine p_ldcS 34 33 dX12_sleeperLine_31 rfl ?_
    refine p_callV1i 124 36 dX12_sleeperLine_33 (s_isWordM hn ht hp hS (i := 11) (k := 34) rfl (by decide) rfl) lk_X12_108 mX12_isWord rfl rfl (by decide) (Nat.le_of_ble_eq_true rfl) ?_
    rintro _ _ ⟨rfl, e9⟩
    have e9 := e9.symm
    subst e9
    refine p_if_eq 43 39 dX12_sleeperLine_36 (by split <;> omega) (by split <;> omega) (fun h36 => ?_) (fun h36 => ?_)
    · have hn11 : ¬ q_is t n p1 11 = true := if_eq0 h36
      refine p_aload_n 44 dX12_sleeperLine_43 rfl rfl (by decide) ?_
      refine p_ldcS 35 46 dX12_sleeperLine_44 rfl ?_
      refine p_callV1i 124 49 dX12_sleeperLine_46 (s_isWordM hn ht hp hS (i := 12) (k := 35) rfl (by decide) rfl) lk_X12_108 mX12_isWord rfl rfl (by decide) (Nat.le_of_ble_eq_true rfl) ?_
      rintro _ _ ⟨rfl, e9⟩
      have e9 := e9.symm
      subst e9
      refine p_if_eq 56 52 dX12_sleeperLine_49 (by split <;> omega) (by split <;> omega) (fun h49 => ?_) (fun h49 => ?_)
      · have hn12 : ¬ q_is t n p1 12 = true := if_eq0 h49
        refine p_aload_n 57 dX12_sleeperLine_56 rfl rfl (by decide) ?_
        refine p_ldcS 36 59 dX12_sleeperLine_57 rfl ?_
        refine p_callV1i 124 62 dX12_sleeperLine_59 (s_isWordM hn ht hp hS (i := 13) (k := 36) rfl (by decide) rfl) lk_X12_108 mX12_isWord rfl rfl (by decide) (Nat.le_of_ble_eq_true rfl) ?_
        rintro _ _ ⟨rfl, e9⟩
        have e9 := e9.symm
        subst e9
        refine p_if_eq 69 65 dX12_sleeperLine_62 (by split <;> omega) (by split <;> omega) (fun h62 => ?_) (fun h62 => ?_)
        · have hn13 : ¬ q_is t n p1 13 = true := if_eq0 h62
          refine p_aload_n 70 dX12_sleeperLine_69 rfl rfl (by decide) ?_
          refine p_ldcS 37 72 dX12_sleeperLine_70 rfl ?_
          refine p_callV1i 124 75 dX12_sleeperLine_72 (s_isWordM hn ht hp hS (i := 14) (k := 37) rfl (by decide) rfl) lk_X12_108 mX12_isWord rfl rfl (by decide) (Nat.le_of_ble_eq_true rfl) ?_
          rintro _ _ ⟨rfl, e9⟩
          have e9 := e9.symm
          subst e9
          refine p_if_eq 82 78 dX12_sleeperLine_75 (by split <;> omega) (by split <;> omega) (fun h75 => ?_) (fun h75 => ?_)
          · have hn14 : ¬ q_is t n p1 14 = true := if_eq0 h75
            refine p_iconst 83 dX12_sleeperLine_82 ?_
            exact h83 _ (by
              unfold q_kind
              first
              | (rw [if_pos hy]; done)
              | (rw [if_neg hn11, if_pos hy]; done)
              | (rw [if_neg hn11, if_neg hn12, if_pos hy]; done)
              | (rw [if_neg hn11, if_neg hn12, if_neg hn13, if_pos hy]; done)
              | (rw [if_neg hn11, if_neg hn12, if_neg hn13, if_neg hn14]; done))
          · have hy : q_is t n p1 14 = true := if_neq0 h75
            refine p_iconst 79 dX12_sleeperLine_78 ?_
            refine p_goto 83 dX12_sleeperLine_79 ?_
            exact h83 _ (by
              unfold q_kind
              first
              | (rw [if_pos hy]; done)
              | (rw [if_neg hn11, if_pos hy]; done)
              | (rw [if_neg hn11, if_neg hn12, if_pos hy]; done)
              | (rw [if_neg hn11, if_neg hn12, if_neg hn13, if_pos hy]; done)
              | (rw [if_neg hn11, if_neg hn12, if_neg hn13, if_neg hn14]; done))
        · have hy : q_is t n p1 13 = true := if_neq0 h62
          refine p_iconst 66 dX12_sleeperLine_65 ?_
          refine p_goto 83 dX12_sleeperLine_66 ?_
          exact h83 _ (by
            unfold q_kind
            first
            | (rw [if_pos hy]; done)
            | (rw [if_neg hn11, if_pos hy]; done)
            | (rw [if_neg hn11, if_neg hn12, if_pos hy]; done)
            | (rw [if_neg hn11, if_neg hn12, if_neg hn13, if_pos hy]; done)
            | (rw [if_neg hn11, if_neg hn12, if_neg hn13, if_neg hn14]; done))
      · have hy : q_is t n p1 12 = true := if_neq0 h49
        refine p_iconst 53 dX12_sleeperLine_52 ?_
        refine p_goto 83 dX12_sleeperLine_53 ?_
        exact h83 _ (by
          unfold q_kind
          first
          | (rw [if_pos hy]; done)
          | (rw [if_neg hn11, if_pos hy]; done)
          | (rw [if_neg hn11, if_neg hn12, if_pos hy]; done)
          | (rw [if_neg hn11, if_neg hn12, if_neg hn13, if_pos hy]; done)
          | (rw [if_neg hn11, if_neg hn12, if_neg hn13, if_neg hn14]; done))
    · have hy : q_is t n p1 11 = true := if_neq0 h36
      refine p_iconst 40 dX12_sleeperLine_39 ?_
      refine p_goto 83 dX12_sleeperLine_40 ?_
      exact h83 _ (by
        unfold q_kind
        first
        | (rw [if_pos hy]; done)
        | (rw [if_neg hn11, if_pos hy]; done)
        | (rw [if_neg hn11, if_neg hn12, if_pos hy]; done)
        | (rw [if_neg hn11, if_neg hn12, if_neg hn13, if_pos hy]; done)
        | (rw [if_neg hn11, if_neg hn12, if_neg hn13, if_neg hn14]; done))
theorem s_sleeperLineF {l : Launch} {X : ZX} {M : ZM} {e : Int × Int} {N : ZM} (hS : MF e N M) : zCv l X 9 yX12_sleeperLine tX12_sleeperLine [zr 124] M (fun M' => M' = M) := by
  refine zC.of [some (zr 124), none, none] (by decide +kernel) rfl rfl (Nat.le_of_ble_eq_true rfl) rfl ?_
  refine p_aload_n 1 dX12_sleeperLine_0 rfl rfl (by decide) ?_
  refine p_getI 124 4 dX12_sleeperLine_1 fX12_91 rfl ?_
  rw [hS.2.1]
  refine p_if_eq 8 7 dX12_sleeperLine_4 (by decide) (by decide) (fun h4 => absurd (absurd h4 (by decide)) (fun h9 : False => h9)) (fun h4 => ?_)
  refine p_vret dX12_sleeperLine_7 rfl ?_
  exact ⟨rfl, rfl⟩
theorem s_beforeLineF {l : Launch} {X : ZX} {M : ZM} {e : Int × Int} {N : ZM} (hS : MF e N M) : zCv l X 9 yX12_beforeLine tX12_beforeLine [zr 124] M (fun M' => M' = M) := by
  refine zC.of [some (zr 124), none, none] (by decide +kernel) rfl rfl (Nat.le_of_ble_eq_true rfl) rfl ?_
  refine p_aload_n 1 dX12_beforeLine_0 rfl rfl (by decide) ?_
  refine p_getI 124 4 dX12_beforeLine_1 fX12_91 rfl ?_
  rw [hS.2.1]
  refine p_if_eq 8 7 dX12_beforeLine_4 (by decide) (by decide) (fun h4 => absurd (absurd h4 (by decide)) (fun h9 : False => h9)) (fun h4 => ?_)
  refine p_vret dX12_beforeLine_7 rfl ?_
  exact ⟨rfl, rfl⟩
theorem s_orderLineF {l : Launch} {X : ZX} {M : ZM} {e : Int × Int} {N : ZM} (hS : MF e N M) : zCv l X 9 yX12_orderLine tX12_orderLine [zr 124] M (fun M' => M' = M) := by
  refine zC.of [some (zr 124), none, none, none] (by decide +kernel) rfl rfl (Nat.le_of_ble_eq_true rfl) rfl ?_
  refine p_aload_n 1 dX12_orderLine_0 rfl rfl (by decide) ?_
  refine p_getI 124 4 dX12_orderLine_1 fX12_91 rfl ?_
  rw [hS.2.1]
  refine p_if_eq 8 7 dX12_orderLine_4 (by decide) (by decide) (fun h4 => absurd (absurd h4 (by decide)) (fun h9 : False => h9)) (fun h4 => ?_)
  refine p_vret dX12_orderLine_7 rfl ?_
  exact ⟨rfl, rfl⟩
theorem s_seenLineF {l : Launch} {X : ZX} {M : ZM} {e : Int × Int} {N : ZM} (hS : MF e N M) : zCv l X 9 yX12_seenLine tX12_seenLine [zr 124] M (fun M' => M' = M) := by
  refine zC.of [some (zr 124), none, none] (by decide +kernel) rfl rfl (Nat.le_of_ble_eq_true rfl) rfl ?_
  refine p_aload_n 1 dX12_seenLine_0 rfl rfl (by decide) ?_
  refine p_getI 124 4 dX12_seenLine_1 fX12_91 rfl ?_
  rw [hS.2.1]
  refine p_if_eq 8 7 dX12_seenLine_4 (by decide) (by decide) (fun h4 => absurd (absurd h4 (by decide)) (fun h9 : False => h9)) (fun h4 => ?_)
  refine p_vret dX12_seenLine_7 rfl ?_
  exact ⟨rfl, rfl⟩
theorem q_bef_lt {ρ : Nat → Int} (hP : PI ρ) {k : Nat} (hk : k < 7) : q_n ρ (38 + 3 * k + 2) < 128 := by
  have h := (hP.1.2.2.2.2.1 k hk).2.2
  have h0 := hP.1.1 (38 + 3 * k + 2) (by omega)
  unfold q_n
  omega
theorem q_or_w {x a : Nat} (hx : x < 128) (ha : a < 7) : z_ior (x : Int) (z_ishl 1 (a : Int)) = ((x ||| 2 ^ a : Nat) : Int) := by
  have h2 : 2 ^ a ≤ 2 ^ 6 := Nat.pow_le_pow_right (by decide) (by omega)
  have e6 : (2 : Nat) ^ 6 = 64 := by decide
  rw [z_bit a (by omega), z_ior_n x (2 ^ a) (by omega) (by omega)]
theorem s_beforeLineS {l : Launch} {X : ZX} {M : ZM} {t : Nat → Int} {n p : Nat} {ρ : Nat → Int} {N : ZM} (hn : n ≤ 900) (ht : ∀ i, i < n → 0 ≤ t i ∧ t i < 256) (hp : p ≤ n) (hS : MS t n p ρ N M) (hP : PI ρ) : zCv l X 9 yX12_beforeLine tX12_beforeLine [zr 124] M (fun M' => MX t n (q_lbefore t n p ρ) N M') := by
  obtain ⟨hB, hT, hf0, hr, hfa, hfk⟩ := id hS
  obtain ⟨t4, t5, t6, t8, t7⟩ := id hT
  have hal := q_at_le t hp
  have hel := q_en_le t hp
  have htk := q_tk_cases t n p
  have hp0 := hp
  have hS0 := hS
  have hnn : nn ρ := hP.1.1
  have e9c := q_n_i hnn (i := 4) (by decide)
  have b9c := hP.1.2.1.2.2.2.2.1
  have hab9 : ∀ w, w < 7 → q_ab (q_n ρ) w < 128 := fun w hw => q_ab128 hP.1 hw
  refine zC.of [some (zr 124), none, none] (by decide +kernel) rfl rfl (Nat.le_of_ble_eq_true rfl) rfl ?_
  refine p_aload_n 1 dX12_beforeLine_0 rfl rfl (by decide) ?_
  refine p_getI 124 4 dX12_beforeLine_1 fX12_91 rfl ?_
  rw [hf0]
  refine p_if_eq 8 7 dX12_beforeLine_4 (by decide) (by decide) (fun h4 => ?_) (fun h4 => absurd (h4 rfl) (fun h9 : False => h9))
  refine p_aload_n 9 dX12_beforeLine_8 rfl rfl (by decide) ?_
  refine p_callV0i 124 12 dX12_beforeLine_9 (s_wordHereS hn ht hp hS hP) lk_X12_245 mX12_wordHere rfl rfl (by decide) (Nat.le_of_ble_eq_true rfl) ?_
  intro a1 M1 hd
  rcases hd with ⟨e1, hz1, ea1, hF⟩ | ⟨a, hal, hz1, ea1, em⟩
  · refine p_istore_n 13 dX12_beforeLine_12 rfl (Nat.le_of_ble_eq_true rfl) rfl rfl ?_
    dsimp only [List.set]
    refine p_aload_n 14 dX12_beforeLine_13 rfl rfl (by decide) ?_
    refine p_getI 124 17 dX12_beforeLine_14 fX12_91 rfl ?_
    rw [hF.2.1]
    refine p_if_eq 21 20 dX12_beforeLine_17 (by decide) (by decide) (fun h17 => absurd (absurd h17 (by decide)) (fun h9 : False => h9)) (fun h17 => ?_)
    refine p_vret dX12_beforeLine_20 rfl ?_
    exact ⟨rfl, MX.l (by simp only [q_lbefore, q_bindW, hz1]) hF⟩
  · have em := em.symm
    subst em
    subst ea1
    refine p_istore_n 13 dX12_beforeLine_12 rfl (Nat.le_of_ble_eq_true rfl) rfl rfl ?_
    dsimp only [List.set]
    refine p_aload_n 14 dX12_beforeLine_13 rfl rfl (by decide) ?_
    refine p_getI 124 17 dX12_beforeLine_14 fX12_91 rfl ?_
    rw [hS.2.2.1]
    refine p_if_eq 21 20 dX12_beforeLine_17 (by decide) (by decide) (fun h17 => ?_) (fun h17 => absurd (h17 rfl) (fun h9 : False => h9))
    refine p_aload_n 22 dX12_beforeLine_21 rfl rfl (by decide) ?_
    refine p_callV0v 124 25 dX12_beforeLine_22 (s_goOn hn ht hS.1 (p := q_en t n p) (q_en_n t hp) hS.2.1.2.1) lk_X12_112 mX12_goOn rfl rfl (by decide) (Nat.le_of_ble_eq_true rfl) ?_
    rintro M9 ⟨kk9, hT9⟩
    have hS := hS.adv kk9 hT9
    have hp := q_en_n t hp
    refine p_aload_n 26 dX12_beforeLine_25 rfl rfl (by decide) ?_
    refine p_callV0i 124 29 dX12_beforeLine_26 (s_wordHereS hn ht hp hS hP) lk_X12_245 mX12_wordHere rfl rfl (by decide) (Nat.le_of_ble_eq_true rfl) ?_
    intro a2 M2 hd
    rcases hd with ⟨e2, hz2, ea2, hF⟩ | ⟨b, hbl, hz2, ea2, em⟩
    · refine p_istore_n 30 dX12_beforeLine_29 rfl (Nat.le_of_ble_eq_true rfl) rfl rfl ?_
      dsimp only [List.set]
      refine p_aload_n 31 dX12_beforeLine_30 rfl rfl (by decide) ?_
      refine p_getI 124 34 dX12_beforeLine_31 fX12_91 rfl ?_
      rw [hF.2.1]
      refine p_if_ne 71 37 dX12_beforeLine_34 (by decide) (by decide) (fun h34 => ?_) (fun h34 => absurd (h34 (by decide)) (fun h9 : False => h9))
      refine p_aload_n 72 dX12_beforeLine_71 rfl rfl (by decide) ?_
      refine p_getI 124 75 dX12_beforeLine_72 fX12_91 rfl ?_
      rw [hF.2.1]
      refine p_if_ne 103 78 dX12_beforeLine_75 (by decide) (by decide) (fun h75 => ?_) (fun h75 => absurd (h75 (by decide)) (fun h9 : False => h9))
      refine p_aload_n 104 dX12_beforeLine_103 rfl rfl (by decide) ?_
      refine p_getI 124 107 dX12_beforeLine_104 fX12_91 rfl ?_
      rw [hF.2.1]
      refine p_if_eq 111 110 dX12_beforeLine_107 (by decide) (by decide) (fun h107 => absurd (absurd h107 (by decide)) (fun h9 : False => h9)) (fun h107 => ?_)
      refine p_vret dX12_beforeLine_110 rfl ?_
      exact ⟨rfl, MX.l (by simp only [q_lbefore, q_bindW, hz1, hz2]) hF⟩
    · have em := em.symm
      subst em
      subst ea2
      refine p_istore_n 30 dX12_beforeLine_29 rfl (Nat.le_of_ble_eq_true rfl) rfl rfl ?_
      dsimp only [List.set]
      refine p_aload_n 31 dX12_beforeLine_30 rfl rfl (by decide) ?_
      refine p_getI 124 34 dX12_beforeLine_31 fX12_91 rfl ?_
      rw [hS.2.2.1]
      refine p_if_ne 71 37 dX12_beforeLine_34 (by decide) (by decide) (fun h34 => absurd (absurd rfl h34) (fun h9 : False => h9)) (fun h34 => ?_)
      refine p_iload_n 38 dX12_beforeLine_37 rfl rfl ?_
      refine p_iload_n 39 dX12_beforeLine_38 rfl rfl ?_
      refine p_icmp_eq 62 42 dX12_beforeLine_39 (by omega) (by omega) (by omega) (by omega) (fun h39 => ?_) (fun h39 => ?_)
      · have hye : a = b ∨ (q_n ρ (38 + 3 * b + 2)).testBit a = true := Or.inl (by omega)
        refine p_aload_n 63 dX12_beforeLine_62 rfl rfl (by decide) ?_
        refine p_iconst 64 dX12_beforeLine_63 ?_
        refine p_aload_n 65 dX12_beforeLine_64 rfl rfl (by decide) ?_
        refine p_getI 124 68 dX12_beforeLine_65 fX12_72 rfl ?_
        rw [hS.2.1.1]
        refine p_callV2v 124 71 dX12_beforeLine_68 (s_wrongS hn hp hS) lk_X12_118 mX12_wrong rfl rfl (by decide) (Nat.le_of_ble_eq_true rfl) ?_
        intro M9 hF
        refine p_aload_n 72 dX12_beforeLine_71 rfl rfl (by decide) ?_
        refine p_getI 124 75 dX12_beforeLine_72 fX12_91 rfl ?_
        rw [hF.2.1]
        refine p_if_ne 103 78 dX12_beforeLine_75 (by decide) (by decide) (fun h75 => ?_) (fun h75 => absurd (h75 (by decide)) (fun h9 : False => h9))
        refine p_aload_n 104 dX12_beforeLine_103 rfl rfl (by decide) ?_
        refine p_getI 124 107 dX12_beforeLine_104 fX12_91 rfl ?_
        rw [hF.2.1]
        refine p_if_eq 111 110 dX12_beforeLine_107 (by decide) (by decide) (fun h107 => absurd (absurd h107 (by decide)) (fun h9 : False => h9)) (fun h107 => ?_)
        refine p_vret dX12_beforeLine_110 rfl ?_
        exact ⟨rfl, MX.l (by simp only [q_lbefore, q_bindW, hz1, hz2, if_pos hye]) hF⟩
      · refine p_aload_n 43 dX12_beforeLine_42 rfl rfl (by decide) ?_
        refine p_getR 124 46 dX12_beforeLine_43 fX12_23 rfl (hS.1.1 (124, 16, 128) (by decide)) ?_
        refine p_bipush 48 dX12_beforeLine_46 rfl ?_
        refine p_iconst 49 dX12_beforeLine_48 ?_
        refine p_iload_n 50 dX12_beforeLine_49 rfl rfl ?_
        refine p_imul 51 dX12_beforeLine_50 ?_
        refine p_iadd 52 dX12_beforeLine_51 ?_
        refine p_iconst 53 dX12_beforeLine_52 ?_
        refine p_iadd 54 dX12_beforeLine_53 ?_
        refine p_ialdn 128 55 (38 + 3 * b + 2) dX12_beforeLine_54 rfl (by omega) (by omega) ?_
        rw [hS.2.2.2.1 _ (by omega), q_n_i hnn (i := 38 + 3 * b + 2) (by omega)]
        have hlt := q_bef_lt hP (k := b) (by omega)
        refine p_iload_n 56 dX12_beforeLine_55 rfl rfl ?_
        refine p_callS2i 59 dX12_beforeLine_56 (s_hasBit (S := q_n ρ (38 + 3 * b + 2)) (k := a) (by omega) (by omega)) lk_X12_241 mX12_hasBit (by decide) (Nat.le_of_ble_eq_true rfl) ?_
        rintro _ _ ⟨rfl, e9⟩
        have e9 := e9.symm
        subst e9
        refine p_if_eq 71 62 dX12_beforeLine_59 (by split <;> omega) (by split <;> omega) (fun h59 => ?_) (fun h59 => ?_)
        · have hne : ¬ (a = b ∨ (q_n ρ (38 + 3 * b + 2)).testBit a = true) := fun g => g.elim (fun g => by omega) (if_eq0 h59)
          refine p_aload_n 72 dX12_beforeLine_71 rfl rfl (by decide) ?_
          refine p_getI 124 75 dX12_beforeLine_72 fX12_91 rfl ?_
          rw [hS.2.2.1]
          refine p_if_ne 103 78 dX12_beforeLine_75 (by decide) (by decide) (fun h75 => absurd (absurd rfl h75) (fun h9 : False => h9)) (fun h75 => ?_)
          refine p_aload_n 79 dX12_beforeLine_78 rfl rfl (by decide) ?_
          refine p_getR 124 82 dX12_beforeLine_79 fX12_23 rfl (hS.1.1 (124, 16, 128) (by decide)) ?_
          refine p_iload_n 83 dX12_beforeLine_82 rfl rfl ?_
          refine p_callS2i 86 dX12_beforeLine_83 (s_allBefore_128 hS.2.2.2.1 (fun k hk => q_bef_lt hP hk) hnn (w := a) (by omega)) lk_X12_248 mX12_allBefore (by decide) (Nat.le_of_ble_eq_true rfl) ?_
          rintro _ _ ⟨rfl, e9⟩
          have e9 := e9.symm
          subst e9
          refine p_iload_n 87 dX12_beforeLine_86 rfl rfl ?_
          refine p_callS2i 90 dX12_beforeLine_87 (s_hasBit (S := q_ab (q_n ρ) a) (k := b) (by omega) (by have := hab9 a (by omega); omega)) lk_X12_241 mX12_hasBit (by decide) (Nat.le_of_ble_eq_true rfl) ?_
          rintro _ _ ⟨rfl, e9⟩
          have e9 := e9.symm
          subst e9
          refine p_if_eq 103 93 dX12_beforeLine_90 (by split <;> omega) (by split <;> omega) (fun h90 => ?_) (fun h90 => ?_)
          · have hnb := if_eq0 h90
            refine p_aload_n 104 dX12_beforeLine_103 rfl rfl (by decide) ?_
            refine p_getI 124 107 dX12_beforeLine_104 fX12_91 rfl ?_
            rw [hS.2.2.1]
            refine p_if_eq 111 110 dX12_beforeLine_107 (by decide) (by decide) (fun h107 => ?_) (fun h107 => absurd (h107 rfl) (fun h9 : False => h9))
            refine p_aload_n 112 dX12_beforeLine_111 rfl rfl (by decide) ?_
            refine p_callV0v 124 115 dX12_beforeLine_112 (s_goOn hn ht hS.1 (p := q_en t n (q_en t n p)) (q_en_n t hp) hS.2.1.2.1) lk_X12_112 mX12_goOn rfl rfl (by decide) (Nat.le_of_ble_eq_true rfl) ?_
            rintro M9 ⟨kk9, hT9⟩
            have hS := hS.adv kk9 hT9
            have hp := q_en_n t hp
            refine p_aload_n 116 dX12_beforeLine_115 rfl rfl (by decide) ?_
            refine p_getR 124 119 dX12_beforeLine_116 fX12_23 rfl (hS.1.1 (124, 16, 128) (by decide)) ?_
            refine p_bipush 121 dX12_beforeLine_119 rfl ?_
            refine p_iconst 122 dX12_beforeLine_121 ?_
            refine p_iload_n 123 dX12_beforeLine_122 rfl rfl ?_
            refine p_imul 124 dX12_beforeLine_123 ?_
            refine p_iadd 125 dX12_beforeLine_124 ?_
            refine p_iconst 126 dX12_beforeLine_125 ?_
            refine p_iadd 127 dX12_beforeLine_126 ?_
            refine p_dup2 128 dX12_beforeLine_127 ?_
            refine p_ialdn 128 129 (38 + 3 * b + 2) dX12_beforeLine_128 rfl (by omega) (by omega) ?_
            rw [hS.2.2.2.1 _ (by omega), q_n_i hnn (i := 38 + 3 * b + 2) (by omega)]
            refine p_iconst 130 dX12_beforeLine_129 ?_
            refine p_iload_n 131 dX12_beforeLine_130 rfl rfl ?_
            refine p_ishl 132 dX12_beforeLine_131 ?_
            refine p_ior 133 dX12_beforeLine_132 ?_
            rw [q_or_w (q_bef_lt hP (by omega)) (by omega)]
            refine p_iastn 128 134 (38 + 3 * b + 2) dX12_beforeLine_133 rfl (by omega) (by omega) ?_
            have hS := hS.put (k := 38 + 3 * b + 2) (v := ((q_n ρ (38 + 3 * b + 2) ||| 2 ^ a : Nat) : Int))
            refine p_aload_n 135 dX12_beforeLine_134 rfl rfl (by decide) ?_
            refine p_getR 124 138 dX12_beforeLine_135 fX12_23 rfl (hS.1.1 (124, 16, 128) (by decide)) ?_
            refine p_iconst 139 dX12_beforeLine_138 ?_
            refine p_dup2 140 dX12_beforeLine_139 ?_
            refine p_ialdn 128 141 (5) dX12_beforeLine_140 rfl (by omega) (by omega) ?_
            rw [hS.2.2.2.1 5 (by decide), q_up_ne (by omega)]
            refine p_iconst 142 dX12_beforeLine_141 ?_
            refine p_iadd 143 dX12_beforeLine_142 ?_
            refine p_iastn 128 144 (5) dX12_beforeLine_143 rfl (by omega) (by omega) ?_
            have hS := hS.put (k := 5) (v := ρ 5 + 1)
            refine p_vret dX12_beforeLine_144 rfl ?_
            exact ⟨rfl, MX.r (by simp only [q_lbefore, q_bindW, hz1, hz2, if_neg hne, if_neg hnb]) hS⟩
          · have hyb := if_neq0 h90
            refine p_aload_n 94 dX12_beforeLine_93 rfl rfl (by decide) ?_
            refine p_bipush 96 dX12_beforeLine_94 rfl ?_
            refine p_aload_n 97 dX12_beforeLine_96 rfl rfl (by decide) ?_
            refine p_getI 124 100 dX12_beforeLine_97 fX12_72 rfl ?_
            rw [hS.2.1.1]
            refine p_callV2v 124 103 dX12_beforeLine_100 (s_wrongS hn hp hS) lk_X12_118 mX12_wrong rfl rfl (by decide) (Nat.le_of_ble_eq_true rfl) ?_
            intro M9 hF
            refine p_aload_n 104 dX12_beforeLine_103 rfl rfl (by decide) ?_
            refine p_getI 124 107 dX12_beforeLine_104 fX12_91 rfl ?_
            rw [hF.2.1]
            refine p_if_eq 111 110 dX12_beforeLine_107 (by decide) (by decide) (fun h107 => absurd (absurd h107 (by decide)) (fun h9 : False => h9)) (fun h107 => ?_)
            refine p_vret dX12_beforeLine_110 rfl ?_
            exact ⟨rfl, MX.l (by simp only [q_lbefore, q_bindW, hz1, hz2, if_neg hne, if_pos hyb]) hF⟩
        · have hye : a = b ∨ (q_n ρ (38 + 3 * b + 2)).testBit a = true := Or.inr (if_neq0 h59)
          refine p_aload_n 63 dX12_beforeLine_62 rfl rfl (by decide) ?_
          refine p_iconst 64 dX12_beforeLine_63 ?_
          refine p_aload_n 65 dX12_beforeLine_64 rfl rfl (by decide) ?_
          refine p_getI 124 68 dX12_beforeLine_65 fX12_72 rfl ?_
          rw [hS.2.1.1]
          refine p_callV2v 124 71 dX12_beforeLine_68 (s_wrongS hn hp hS) lk_X12_118 mX12_wrong rfl rfl (by decide) (Nat.le_of_ble_eq_true rfl) ?_
          intro M9 hF
          refine p_aload_n 72 dX12_beforeLine_71 rfl rfl (by decide) ?_
          refine p_getI 124 75 dX12_beforeLine_72 fX12_91 rfl ?_
          rw [hF.2.1]
          refine p_if_ne 103 78 dX12_beforeLine_75 (by decide) (by decide) (fun h75 => ?_) (fun h75 => absurd (h75 (by decide)) (fun h9 : False => h9))
          refine p_aload_n 104 dX12_beforeLine_103 rfl rfl (by decide) ?_
          refine p_getI 124 107 dX12_beforeLine_104 fX12_91 rfl ?_
          rw [hF.2.1]
          refine p_if_eq 111 110 dX12_beforeLine_107 (by decide) (by decide) (fun h107 => absurd (absurd h107 (by decide)) (fun h9 : False => h9)) (fun h107 => ?_)
          refine p_vret dX12_beforeLine_110 rfl ?_
          exact ⟨rfl, MX.l (by simp only [q_lbefore, q_bindW, hz1, hz2, if_pos hye]) hF⟩
