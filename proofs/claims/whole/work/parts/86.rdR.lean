/-! THE READER, the model's: a name must be there -/
theorem s_mustNameS {l : Launch} {X : ZX} {M : ZM} {t : Nat → Int} {n p : Nat} {ρ : Nat → Int} {N : ZM} (hn : n ≤ 900) (ht : ∀ i, i < n → 0 ≤ t i ∧ t i < 256) (hp : p ≤ n) (hS : MS t n p ρ N M) : zCv l X 5 yX12_mustName tX12_mustName [zr 124] M (fun M' => (q_tk t n p = 2 ∧ ¬ q_rsv t n p = true ∧ M' = M) ∨ ((q_tk t n p ≠ 2 ∨ q_rsv t n p = true) ∧ MF (1, (q_at t n p : Int)) N M')) := by
  refine zC.of [some (zr 124), none] (by decide +kernel) rfl rfl (Nat.le_of_ble_eq_true rfl) rfl ?_
  refine p_aload_n 1 dX12_mustName_0 rfl rfl (by decide) ?_
  refine p_ldcS 23 3 dX12_mustName_1 rfl ?_
  refine p_callV1i 124 6 dX12_mustName_3 (s_isWordS hn ht hp hS (i := 23) rfl (by decide)) lk_X12_108 mX12_isWord rfl rfl (by decide) (Nat.le_of_ble_eq_true rfl) ?_
  rintro _ _ ⟨rfl, e9⟩
  have e9 := e9.symm
  subst e9
  refine p_if_ne 81 9 dX12_mustName_6 (by split <;> omega) (by split <;> omega) (fun h6 => ?_) (fun h6 => ?_)
  · have hy : q_is t n p 0 = true := q_is_m (i := 0) (by decide) (if_ne0 h6)
    have hr9 : q_rsv t n p = true := by
      unfold q_rsv
      rw [hy]
      simp
    refine p_iconst 82 dX12_mustName_81 ?_
    refine p_goto 86 dX12_mustName_82 ?_
    refine p_istore_n 87 dX12_mustName_86 rfl (Nat.le_of_ble_eq_true rfl) rfl rfl ?_
    dsimp only [List.set]
    refine p_aload_n 88 dX12_mustName_87 rfl rfl (by decide) ?_
    refine p_getI 124 91 dX12_mustName_88 fX12_81 rfl ?_
    rw [hS.2.1.2.2.1]
    have htk := q_tk_cases t n p
    refine p_iconst 92 dX12_mustName_91 ?_
    refine p_icmp_ne 99 95 dX12_mustName_92 (by omega) (by omega) (by decide) (by decide) (fun h92 => ?_) (fun h92 => ?_)
    · have hw : q_tk t n p ≠ 2 ∨ q_rsv t n p = true := Or.inl (by omega)
      refine p_aload_n 100 dX12_mustName_99 rfl rfl (by decide) ?_
      refine p_iconst 101 dX12_mustName_100 ?_
      refine p_aload_n 102 dX12_mustName_101 rfl rfl (by decide) ?_
      refine p_getI 124 105 dX12_mustName_102 fX12_72 rfl ?_
      rw [hS.2.1.1]
      refine p_callV2v 124 108 dX12_mustName_105 (s_wrongS hn hp hS) lk_X12_118 mX12_wrong rfl rfl (by decide) (Nat.le_of_ble_eq_true rfl) ?_
      intro M9 hF
      have hX : (q_tk t n p = 2 ∧ ¬ q_rsv t n p = true ∧ M9 = M) ∨ ((q_tk t n p ≠ 2 ∨ q_rsv t n p = true) ∧ MF (1, (q_at t n p : Int)) N M9) := Or.inr ⟨hw, hF⟩
      refine p_vret dX12_mustName_108 rfl ?_
      exact ⟨rfl, hX⟩
    · refine p_iload_n 96 dX12_mustName_95 rfl rfl ?_
      refine p_if_eq 108 99 dX12_mustName_96 (by decide) (by decide) (fun h96 => ?_) (fun h96 => ?_)
      · have hX : (q_tk t n p = 2 ∧ ¬ q_rsv t n p = true ∧ M = M) ∨ ((q_tk t n p ≠ 2 ∨ q_rsv t n p = true) ∧ MF (1, (q_at t n p : Int)) N M) := Or.inl ⟨by omega, by first | exact hr9 | exact absurd h96 (by decide), rfl⟩
        refine p_vret dX12_mustName_108 rfl ?_
        exact ⟨rfl, hX⟩
      · have hw : q_tk t n p ≠ 2 ∨ q_rsv t n p = true := Or.inr (by first | exact hr9 | exact absurd rfl h96)
        refine p_aload_n 100 dX12_mustName_99 rfl rfl (by decide) ?_
        refine p_iconst 101 dX12_mustName_100 ?_
        refine p_aload_n 102 dX12_mustName_101 rfl rfl (by decide) ?_
        refine p_getI 124 105 dX12_mustName_102 fX12_72 rfl ?_
        rw [hS.2.1.1]
        refine p_callV2v 124 108 dX12_mustName_105 (s_wrongS hn hp hS) lk_X12_118 mX12_wrong rfl rfl (by decide) (Nat.le_of_ble_eq_true rfl) ?_
        intro M9 hF
        have hX : (q_tk t n p = 2 ∧ ¬ q_rsv t n p = true ∧ M9 = M) ∨ ((q_tk t n p ≠ 2 ∨ q_rsv t n p = true) ∧ MF (1, (q_at t n p : Int)) N M9) := Or.inr ⟨hw, hF⟩
        refine p_vret dX12_mustName_108 rfl ?_
        exact ⟨rfl, hX⟩
  · have hn0 : q_is t n p 0 = false := q_is_mf (i := 0) (by decide) (if_nne0 h6)
    refine p_aload_n 10 dX12_mustName_9 rfl rfl (by decide) ?_
    refine p_ldcS 26 12 dX12_mustName_10 rfl ?_
    refine p_callV1i 124 15 dX12_mustName_12 (s_isWordS hn ht hp hS (i := 26) rfl (by decide)) lk_X12_108 mX12_isWord rfl rfl (by decide) (Nat.le_of_ble_eq_true rfl) ?_
    rintro _ _ ⟨rfl, e9⟩
    have e9 := e9.symm
    subst e9
    refine p_if_ne 81 18 dX12_mustName_15 (by split <;> omega) (by split <;> omega) (fun h15 => ?_) (fun h15 => ?_)
    · have hy : q_is t n p 3 = true := q_is_m (i := 3) (by decide) (if_ne0 h15)
      have hr9 : q_rsv t n p = true := by
        unfold q_rsv
        rw [hy]
        simp
      refine p_iconst 82 dX12_mustName_81 ?_
      refine p_goto 86 dX12_mustName_82 ?_
      refine p_istore_n 87 dX12_mustName_86 rfl (Nat.le_of_ble_eq_true rfl) rfl rfl ?_
      dsimp only [List.set]
      refine p_aload_n 88 dX12_mustName_87 rfl rfl (by decide) ?_
      refine p_getI 124 91 dX12_mustName_88 fX12_81 rfl ?_
      rw [hS.2.1.2.2.1]
      have htk := q_tk_cases t n p
      refine p_iconst 92 dX12_mustName_91 ?_
      refine p_icmp_ne 99 95 dX12_mustName_92 (by omega) (by omega) (by decide) (by decide) (fun h92 => ?_) (fun h92 => ?_)
      · have hw : q_tk t n p ≠ 2 ∨ q_rsv t n p = true := Or.inl (by omega)
        refine p_aload_n 100 dX12_mustName_99 rfl rfl (by decide) ?_
        refine p_iconst 101 dX12_mustName_100 ?_
        refine p_aload_n 102 dX12_mustName_101 rfl rfl (by decide) ?_
        refine p_getI 124 105 dX12_mustName_102 fX12_72 rfl ?_
        rw [hS.2.1.1]
        refine p_callV2v 124 108 dX12_mustName_105 (s_wrongS hn hp hS) lk_X12_118 mX12_wrong rfl rfl (by decide) (Nat.le_of_ble_eq_true rfl) ?_
        intro M9 hF
        have hX : (q_tk t n p = 2 ∧ ¬ q_rsv t n p = true ∧ M9 = M) ∨ ((q_tk t n p ≠ 2 ∨ q_rsv t n p = true) ∧ MF (1, (q_at t n p : Int)) N M9) := Or.inr ⟨hw, hF⟩
        refine p_vret dX12_mustName_108 rfl ?_
        exact ⟨rfl, hX⟩
      · refine p_iload_n 96 dX12_mustName_95 rfl rfl ?_
        refine p_if_eq 108 99 dX12_mustName_96 (by decide) (by decide) (fun h96 => ?_) (fun h96 => ?_)
        · have hX : (q_tk t n p = 2 ∧ ¬ q_rsv t n p = true ∧ M = M) ∨ ((q_tk t n p ≠ 2 ∨ q_rsv t n p = true) ∧ MF (1, (q_at t n p : Int)) N M) := Or.inl ⟨by omega, by first | exact hr9 | exact absurd h96 (by decide), rfl⟩
          refine p_vret dX12_mustName_108 rfl ?_
          exact ⟨rfl, hX⟩
        · have hw : q_tk t n p ≠ 2 ∨ q_rsv t n p = true := Or.inr (by first | exact hr9 | exact absurd rfl h96)
          refine p_aload_n 100 dX12_mustName_99 rfl rfl (by decide) ?_
          refine p_iconst 101 dX12_mustName_100 ?_
          refine p_aload_n 102 dX12_mustName_101 rfl rfl (by decide) ?_
          refine p_getI 124 105 dX12_mustName_102 fX12_72 rfl ?_
          rw [hS.2.1.1]
          refine p_callV2v 124 108 dX12_mustName_105 (s_wrongS hn hp hS) lk_X12_118 mX12_wrong rfl rfl (by decide) (Nat.le_of_ble_eq_true rfl) ?_
          intro M9 hF
          have hX : (q_tk t n p = 2 ∧ ¬ q_rsv t n p = true ∧ M9 = M) ∨ ((q_tk t n p ≠ 2 ∨ q_rsv t n p = true) ∧ MF (1, (q_at t n p : Int)) N M9) := Or.inr ⟨hw, hF⟩
          refine p_vret dX12_mustName_108 rfl ?_
          exact ⟨rfl, hX⟩
    · have hn3 : q_is t n p 3 = false := q_is_mf (i := 3) (by decide) (if_nne0 h15)
      refine p_aload_n 19 dX12_mustName_18 rfl rfl (by decide) ?_
      refine p_ldcS 27 21 dX12_mustName_19 rfl ?_
      refine p_callV1i 124 24 dX12_mustName_21 (s_isWordS hn ht hp hS (i := 27) rfl (by decide)) lk_X12_108 mX12_isWord rfl rfl (by decide) (Nat.le_of_ble_eq_true rfl) ?_
      rintro _ _ ⟨rfl, e9⟩
      have e9 := e9.symm
      subst e9
      refine p_if_ne 81 27 dX12_mustName_24 (by split <;> omega) (by split <;> omega) (fun h24 => ?_) (fun h24 => ?_)
      · have hy : q_is t n p 4 = true := q_is_m (i := 4) (by decide) (if_ne0 h24)
        have hr9 : q_rsv t n p = true := by
          unfold q_rsv
          rw [hy]
          simp
        refine p_iconst 82 dX12_mustName_81 ?_
        refine p_goto 86 dX12_mustName_82 ?_
        refine p_istore_n 87 dX12_mustName_86 rfl (Nat.le_of_ble_eq_true rfl) rfl rfl ?_
        dsimp only [List.set]
        refine p_aload_n 88 dX12_mustName_87 rfl rfl (by decide) ?_
        refine p_getI 124 91 dX12_mustName_88 fX12_81 rfl ?_
        rw [hS.2.1.2.2.1]
        have htk := q_tk_cases t n p
        refine p_iconst 92 dX12_mustName_91 ?_
        refine p_icmp_ne 99 95 dX12_mustName_92 (by omega) (by omega) (by decide) (by decide) (fun h92 => ?_) (fun h92 => ?_)
        · have hw : q_tk t n p ≠ 2 ∨ q_rsv t n p = true := Or.inl (by omega)
          refine p_aload_n 100 dX12_mustName_99 rfl rfl (by decide) ?_
          refine p_iconst 101 dX12_mustName_100 ?_
          refine p_aload_n 102 dX12_mustName_101 rfl rfl (by decide) ?_
          refine p_getI 124 105 dX12_mustName_102 fX12_72 rfl ?_
          rw [hS.2.1.1]
          refine p_callV2v 124 108 dX12_mustName_105 (s_wrongS hn hp hS) lk_X12_118 mX12_wrong rfl rfl (by decide) (Nat.le_of_ble_eq_true rfl) ?_
          intro M9 hF
          have hX : (q_tk t n p = 2 ∧ ¬ q_rsv t n p = true ∧ M9 = M) ∨ ((q_tk t n p ≠ 2 ∨ q_rsv t n p = true) ∧ MF (1, (q_at t n p : Int)) N M9) := Or.inr ⟨hw, hF⟩
          refine p_vret dX12_mustName_108 rfl ?_
          exact ⟨rfl, hX⟩
        · refine p_iload_n 96 dX12_mustName_95 rfl rfl ?_
          refine p_if_eq 108 99 dX12_mustName_96 (by decide) (by decide) (fun h96 => ?_) (fun h96 => ?_)
          · have hX : (q_tk t n p = 2 ∧ ¬ q_rsv t n p = true ∧ M = M) ∨ ((q_tk t n p ≠ 2 ∨ q_rsv t n p = true) ∧ MF (1, (q_at t n p : Int)) N M) := Or.inl ⟨by omega, by first | exact hr9 | exact absurd h96 (by decide), rfl⟩
            refine p_vret dX12_mustName_108 rfl ?_
            exact ⟨rfl, hX⟩
          · have hw : q_tk t n p ≠ 2 ∨ q_rsv t n p = true := Or.inr (by first | exact hr9 | exact absurd rfl h96)
            refine p_aload_n 100 dX12_mustName_99 rfl rfl (by decide) ?_
            refine p_iconst 101 dX12_mustName_100 ?_
            refine p_aload_n 102 dX12_mustName_101 rfl rfl (by decide) ?_
            refine p_getI 124 105 dX12_mustName_102 fX12_72 rfl ?_
            rw [hS.2.1.1]
            refine p_callV2v 124 108 dX12_mustName_105 (s_wrongS hn hp hS) lk_X12_118 mX12_wrong rfl rfl (by decide) (Nat.le_of_ble_eq_true rfl) ?_
            intro M9 hF
            have hX : (q_tk t n p = 2 ∧ ¬ q_rsv t n p = true ∧ M9 = M) ∨ ((q_tk t n p ≠ 2 ∨ q_rsv t n p = true) ∧ MF (1, (q_at t n p : Int)) N M9) := Or.inr ⟨hw, hF⟩
            refine p_vret dX12_mustName_108 rfl ?_
            exact ⟨rfl, hX⟩
      · have hn4 : q_is t n p 4 = false := q_is_mf (i := 4) (by decide) (if_nne0 h24)
        refine p_aload_n 28 dX12_mustName_27 rfl rfl (by decide) ?_
        refine p_ldcS 28 30 dX12_mustName_28 rfl ?_
        refine p_callV1i 124 33 dX12_mustName_30 (s_isWordS hn ht hp hS (i := 28) rfl (by decide)) lk_X12_108 mX12_isWord rfl rfl (by decide) (Nat.le_of_ble_eq_true rfl) ?_
        rintro _ _ ⟨rfl, e9⟩
        have e9 := e9.symm
        subst e9
        refine p_if_ne 81 36 dX12_mustName_33 (by split <;> omega) (by split <;> omega) (fun h33 => ?_) (fun h33 => ?_)
        · have hy : q_is t n p 5 = true := q_is_m (i := 5) (by decide) (if_ne0 h33)
          have hr9 : q_rsv t n p = true := by
            unfold q_rsv
            rw [hy]
            simp
          refine p_iconst 82 dX12_mustName_81 ?_
          refine p_goto 86 dX12_mustName_82 ?_
          refine p_istore_n 87 dX12_mustName_86 rfl (Nat.le_of_ble_eq_true rfl) rfl rfl ?_
          dsimp only [List.set]
          refine p_aload_n 88 dX12_mustName_87 rfl rfl (by decide) ?_
          refine p_getI 124 91 dX12_mustName_88 fX12_81 rfl ?_
          rw [hS.2.1.2.2.1]
          have htk := q_tk_cases t n p
          refine p_iconst 92 dX12_mustName_91 ?_
          refine p_icmp_ne 99 95 dX12_mustName_92 (by omega) (by omega) (by decide) (by decide) (fun h92 => ?_) (fun h92 => ?_)
          · have hw : q_tk t n p ≠ 2 ∨ q_rsv t n p = true := Or.inl (by omega)
            refine p_aload_n 100 dX12_mustName_99 rfl rfl (by decide) ?_
            refine p_iconst 101 dX12_mustName_100 ?_
            refine p_aload_n 102 dX12_mustName_101 rfl rfl (by decide) ?_
            refine p_getI 124 105 dX12_mustName_102 fX12_72 rfl ?_
            rw [hS.2.1.1]
            refine p_callV2v 124 108 dX12_mustName_105 (s_wrongS hn hp hS) lk_X12_118 mX12_wrong rfl rfl (by decide) (Nat.le_of_ble_eq_true rfl) ?_
            intro M9 hF
            have hX : (q_tk t n p = 2 ∧ ¬ q_rsv t n p = true ∧ M9 = M) ∨ ((q_tk t n p ≠ 2 ∨ q_rsv t n p = true) ∧ MF (1, (q_at t n p : Int)) N M9) := Or.inr ⟨hw, hF⟩
            refine p_vret dX12_mustName_108 rfl ?_
            exact ⟨rfl, hX⟩
          · refine p_iload_n 96 dX12_mustName_95 rfl rfl ?_
            refine p_if_eq 108 99 dX12_mustName_96 (by decide) (by decide) (fun h96 => ?_) (fun h96 => ?_)
            · have hX : (q_tk t n p = 2 ∧ ¬ q_rsv t n p = true ∧ M = M) ∨ ((q_tk t n p ≠ 2 ∨ q_rsv t n p = true) ∧ MF (1, (q_at t n p : Int)) N M) := Or.inl ⟨by omega, by first | exact hr9 | exact absurd h96 (by decide), rfl⟩
              refine p_vret dX12_mustName_108 rfl ?_
              exact ⟨rfl, hX⟩
            · have hw : q_tk t n p ≠ 2 ∨ q_rsv t n p = true := Or.inr (by first | exact hr9 | exact absurd rfl h96)
              refine p_aload_n 100 dX12_mustName_99 rfl rfl (by decide) ?_
              refine p_iconst 101 dX12_mustName_100 ?_
              refine p_aload_n 102 dX12_mustName_101 rfl rfl (by decide) ?_
              refine p_getI 124 105 dX12_mustName_102 fX12_72 rfl ?_
              rw [hS.2.1.1]
              refine p_callV2v 124 108 dX12_mustName_105 (s_wrongS hn hp hS) lk_X12_118 mX12_wrong rfl rfl (by decide) (Nat.le_of_ble_eq_true rfl) ?_
              intro M9 hF
              have hX : (q_tk t n p = 2 ∧ ¬ q_rsv t n p = true ∧ M9 = M) ∨ ((q_tk t n p ≠ 2 ∨ q_rsv t n p = true) ∧ MF (1, (q_at t n p : Int)) N M9) := Or.inr ⟨hw, hF⟩
              refine p_vret dX12_mustName_108 rfl ?_
              exact ⟨rfl, hX⟩
        · have hn5 : q_is t n p 5 = false := q_is_mf (i := 5) (by decide) (if_nne0 h33)
          refine p_aload_n 37 dX12_mustName_36 rfl rfl (by decide) ?_
          refine p_ldcS 29 39 dX12_mustName_37 rfl ?_
          refine p_callV1i 124 42 dX12_mustName_39 (s_isWordS hn ht hp hS (i := 29) rfl (by decide)) lk_X12_108 mX12_isWord rfl rfl (by decide) (Nat.le_of_ble_eq_true rfl) ?_
          rintro _ _ ⟨rfl, e9⟩
          have e9 := e9.symm
          subst e9
          refine p_if_ne 81 45 dX12_mustName_42 (by split <;> omega) (by split <;> omega) (fun h42 => ?_) (fun h42 => ?_)
          · have hy : q_is t n p 6 = true := q_is_m (i := 6) (by decide) (if_ne0 h42)
            have hr9 : q_rsv t n p = true := by
              unfold q_rsv
              rw [hy]
              simp
            refine p_iconst 82 dX12_mustName_81 ?_
            refine p_goto 86 dX12_mustName_82 ?_
            refine p_istore_n 87 dX12_mustName_86 rfl (Nat.le_of_ble_eq_true rfl) rfl rfl ?_
            dsimp only [List.set]
            refine p_aload_n 88 dX12_mustName_87 rfl rfl (by decide) ?_
            refine p_getI 124 91 dX12_mustName_88 fX12_81 rfl ?_
            rw [hS.2.1.2.2.1]
            have htk := q_tk_cases t n p
            refine p_iconst 92 dX12_mustName_91 ?_
            refine p_icmp_ne 99 95 dX12_mustName_92 (by omega) (by omega) (by decide) (by decide) (fun h92 => ?_) (fun h92 => ?_)
            · have hw : q_tk t n p ≠ 2 ∨ q_rsv t n p = true := Or.inl (by omega)
              refine p_aload_n 100 dX12_mustName_99 rfl rfl (by decide) ?_
              refine p_iconst 101 dX12_mustName_100 ?_
              refine p_aload_n 102 dX12_mustName_101 rfl rfl (by decide) ?_
              refine p_getI 124 105 dX12_mustName_102 fX12_72 rfl ?_
              rw [hS.2.1.1]
              refine p_callV2v 124 108 dX12_mustName_105 (s_wrongS hn hp hS) lk_X12_118 mX12_wrong rfl rfl (by decide) (Nat.le_of_ble_eq_true rfl) ?_
              intro M9 hF
              have hX : (q_tk t n p = 2 ∧ ¬ q_rsv t n p = true ∧ M9 = M) ∨ ((q_tk t n p ≠ 2 ∨ q_rsv t n p = true) ∧ MF (1, (q_at t n p : Int)) N M9) := Or.inr ⟨hw, hF⟩
              refine p_vret dX12_mustName_108 rfl ?_
              exact ⟨rfl, hX⟩
            · refine p_iload_n 96 dX12_mustName_95 rfl rfl ?_
              refine p_if_eq 108 99 dX12_mustName_96 (by decide) (by decide) (fun h96 => ?_) (fun h96 => ?_)
              · have hX : (q_tk t n p = 2 ∧ ¬ q_rsv t n p = true ∧ M = M) ∨ ((q_tk t n p ≠ 2 ∨ q_rsv t n p = true) ∧ MF (1, (q_at t n p : Int)) N M) := Or.inl ⟨by omega, by first | exact hr9 | exact absurd h96 (by decide), rfl⟩
                refine p_vret dX12_mustName_108 rfl ?_
                exact ⟨rfl, hX⟩
              · have hw : q_tk t n p ≠ 2 ∨ q_rsv t n p = true := Or.inr (by first | exact hr9 | exact absurd rfl h96)
                refine p_aload_n 100 dX12_mustName_99 rfl rfl (by decide) ?_
                refine p_iconst 101 dX12_mustName_100 ?_
                refine p_aload_n 102 dX12_mustName_101 rfl rfl (by decide) ?_
                refine p_getI 124 105 dX12_mustName_102 fX12_72 rfl ?_
                rw [hS.2.1.1]
                refine p_callV2v 124 108 dX12_mustName_105 (s_wrongS hn hp hS) lk_X12_118 mX12_wrong rfl rfl (by decide) (Nat.le_of_ble_eq_true rfl) ?_
                intro M9 hF
                have hX : (q_tk t n p = 2 ∧ ¬ q_rsv t n p = true ∧ M9 = M) ∨ ((q_tk t n p ≠ 2 ∨ q_rsv t n p = true) ∧ MF (1, (q_at t n p : Int)) N M9) := Or.inr ⟨hw, hF⟩
                refine p_vret dX12_mustName_108 rfl ?_
                exact ⟨rfl, hX⟩
          · have hn6 : q_is t n p 6 = false := q_is_mf (i := 6) (by decide) (if_nne0 h42)
            refine p_aload_n 46 dX12_mustName_45 rfl rfl (by decide) ?_
            refine p_ldcS 30 48 dX12_mustName_46 rfl ?_
            refine p_callV1i 124 51 dX12_mustName_48 (s_isWordS hn ht hp hS (i := 30) rfl (by decide)) lk_X12_108 mX12_isWord rfl rfl (by decide) (Nat.le_of_ble_eq_true rfl) ?_
            rintro _ _ ⟨rfl, e9⟩
            have e9 := e9.symm
            subst e9
            refine p_if_ne 81 54 dX12_mustName_51 (by split <;> omega) (by split <;> omega) (fun h51 => ?_) (fun h51 => ?_)
            · have hy : q_is t n p 7 = true := q_is_m (i := 7) (by decide) (if_ne0 h51)
              have hr9 : q_rsv t n p = true := by
                unfold q_rsv
                rw [hy]
                simp
              refine p_iconst 82 dX12_mustName_81 ?_
              refine p_goto 86 dX12_mustName_82 ?_
              refine p_istore_n 87 dX12_mustName_86 rfl (Nat.le_of_ble_eq_true rfl) rfl rfl ?_
              dsimp only [List.set]
              refine p_aload_n 88 dX12_mustName_87 rfl rfl (by decide) ?_
              refine p_getI 124 91 dX12_mustName_88 fX12_81 rfl ?_
              rw [hS.2.1.2.2.1]
              have htk := q_tk_cases t n p
              refine p_iconst 92 dX12_mustName_91 ?_
              refine p_icmp_ne 99 95 dX12_mustName_92 (by omega) (by omega) (by decide) (by decide) (fun h92 => ?_) (fun h92 => ?_)
              · have hw : q_tk t n p ≠ 2 ∨ q_rsv t n p = true := Or.inl (by omega)
                refine p_aload_n 100 dX12_mustName_99 rfl rfl (by decide) ?_
                refine p_iconst 101 dX12_mustName_100 ?_
                refine p_aload_n 102 dX12_mustName_101 rfl rfl (by decide) ?_
                refine p_getI 124 105 dX12_mustName_102 fX12_72 rfl ?_
                rw [hS.2.1.1]
                refine p_callV2v 124 108 dX12_mustName_105 (s_wrongS hn hp hS) lk_X12_118 mX12_wrong rfl rfl (by decide) (Nat.le_of_ble_eq_true rfl) ?_
                intro M9 hF
                have hX : (q_tk t n p = 2 ∧ ¬ q_rsv t n p = true ∧ M9 = M) ∨ ((q_tk t n p ≠ 2 ∨ q_rsv t n p = true) ∧ MF (1, (q_at t n p : Int)) N M9) := Or.inr ⟨hw, hF⟩
                refine p_vret dX12_mustName_108 rfl ?_
                exact ⟨rfl, hX⟩
              · refine p_iload_n 96 dX12_mustName_95 rfl rfl ?_
                refine p_if_eq 108 99 dX12_mustName_96 (by decide) (by decide) (fun h96 => ?_) (fun h96 => ?_)
                · have hX : (q_tk t n p = 2 ∧ ¬ q_rsv t n p = true ∧ M = M) ∨ ((q_tk t n p ≠ 2 ∨ q_rsv t n p = true) ∧ MF (1, (q_at t n p : Int)) N M) := Or.inl ⟨by omega, by first | exact hr9 | exact absurd h96 (by decide), rfl⟩
                  refine p_vret dX12_mustName_108 rfl ?_
                  exact ⟨rfl, hX⟩
                · have hw : q_tk t n p ≠ 2 ∨ q_rsv t n p = true := Or.inr (by first | exact hr9 | exact absurd rfl h96)
                  refine p_aload_n 100 dX12_mustName_99 rfl rfl (by decide) ?_
                  refine p_iconst 101 dX12_mustName_100 ?_
                  refine p_aload_n 102 dX12_mustName_101 rfl rfl (by decide) ?_
                  refine p_getI 124 105 dX12_mustName_102 fX12_72 rfl ?_
                  rw [hS.2.1.1]
                  refine p_callV2v 124 108 dX12_mustName_105 (s_wrongS hn hp hS) lk_X12_118 mX12_wrong rfl rfl (by decide) (Nat.le_of_ble_eq_true rfl) ?_
                  intro M9 hF
                  have hX : (q_tk t n p = 2 ∧ ¬ q_rsv t n p = true ∧ M9 = M) ∨ ((q_tk t n p ≠ 2 ∨ q_rsv t n p = true) ∧ MF (1, (q_at t n p : Int)) N M9) := Or.inr ⟨hw, hF⟩
                  refine p_vret dX12_mustName_108 rfl ?_
                  exact ⟨rfl, hX⟩
            · have hn7 : q_is t n p 7 = false := q_is_mf (i := 7) (by decide) (if_nne0 h51)
              refine p_aload_n 55 dX12_mustName_54 rfl rfl (by decide) ?_
              refine p_ldcS 31 57 dX12_mustName_55 rfl ?_
              refine p_callV1i 124 60 dX12_mustName_57 (s_isWordS hn ht hp hS (i := 31) rfl (by decide)) lk_X12_108 mX12_isWord rfl rfl (by decide) (Nat.le_of_ble_eq_true rfl) ?_
              rintro _ _ ⟨rfl, e9⟩
              have e9 := e9.symm
              subst e9
              refine p_if_ne 81 63 dX12_mustName_60 (by split <;> omega) (by split <;> omega) (fun h60 => ?_) (fun h60 => ?_)
              · have hy : q_is t n p 8 = true := q_is_m (i := 8) (by decide) (if_ne0 h60)
                have hr9 : q_rsv t n p = true := by
                  unfold q_rsv
                  rw [hy]
                  simp
                refine p_iconst 82 dX12_mustName_81 ?_
                refine p_goto 86 dX12_mustName_82 ?_
                refine p_istore_n 87 dX12_mustName_86 rfl (Nat.le_of_ble_eq_true rfl) rfl rfl ?_
                dsimp only [List.set]
                refine p_aload_n 88 dX12_mustName_87 rfl rfl (by decide) ?_
                refine p_getI 124 91 dX12_mustName_88 fX12_81 rfl ?_
                rw [hS.2.1.2.2.1]
                have htk := q_tk_cases t n p
                refine p_iconst 92 dX12_mustName_91 ?_
                refine p_icmp_ne 99 95 dX12_mustName_92 (by omega) (by omega) (by decide) (by decide) (fun h92 => ?_) (fun h92 => ?_)
                · have hw : q_tk t n p ≠ 2 ∨ q_rsv t n p = true := Or.inl (by omega)
                  refine p_aload_n 100 dX12_mustName_99 rfl rfl (by decide) ?_
                  refine p_iconst 101 dX12_mustName_100 ?_
                  refine p_aload_n 102 dX12_mustName_101 rfl rfl (by decide) ?_
                  refine p_getI 124 105 dX12_mustName_102 fX12_72 rfl ?_
                  rw [hS.2.1.1]
                  refine p_callV2v 124 108 dX12_mustName_105 (s_wrongS hn hp hS) lk_X12_118 mX12_wrong rfl rfl (by decide) (Nat.le_of_ble_eq_true rfl) ?_
                  intro M9 hF
                  have hX : (q_tk t n p = 2 ∧ ¬ q_rsv t n p = true ∧ M9 = M) ∨ ((q_tk t n p ≠ 2 ∨ q_rsv t n p = true) ∧ MF (1, (q_at t n p : Int)) N M9) := Or.inr ⟨hw, hF⟩
                  refine p_vret dX12_mustName_108 rfl ?_
                  exact ⟨rfl, hX⟩
                · refine p_iload_n 96 dX12_mustName_95 rfl rfl ?_
                  refine p_if_eq 108 99 dX12_mustName_96 (by decide) (by decide) (fun h96 => ?_) (fun h96 => ?_)
                  · have hX : (q_tk t n p = 2 ∧ ¬ q_rsv t n p = true ∧ M = M) ∨ ((q_tk t n p ≠ 2 ∨ q_rsv t n p = true) ∧ MF (1, (q_at t n p : Int)) N M) := Or.inl ⟨by omega, by first | exact hr9 | exact absurd h96 (by decide), rfl⟩
                    refine p_vret dX12_mustName_108 rfl ?_
                    exact ⟨rfl, hX⟩
                  · have hw : q_tk t n p ≠ 2 ∨ q_rsv t n p = true := Or.inr (by first | exact hr9 | exact absurd rfl h96)
                    refine p_aload_n 100 dX12_mustName_99 rfl rfl (by decide) ?_
                    refine p_iconst 101 dX12_mustName_100 ?_
                    refine p_aload_n 102 dX12_mustName_101 rfl rfl (by decide) ?_
                    refine p_getI 124 105 dX12_mustName_102 fX12_72 rfl ?_
                    rw [hS.2.1.1]
                    refine p_callV2v 124 108 dX12_mustName_105 (s_wrongS hn hp hS) lk_X12_118 mX12_wrong rfl rfl (by decide) (Nat.le_of_ble_eq_true rfl) ?_
                    intro M9 hF
                    have hX : (q_tk t n p = 2 ∧ ¬ q_rsv t n p = true ∧ M9 = M) ∨ ((q_tk t n p ≠ 2 ∨ q_rsv t n p = true) ∧ MF (1, (q_at t n p : Int)) N M9) := Or.inr ⟨hw, hF⟩
                    refine p_vret dX12_mustName_108 rfl ?_
                    exact ⟨rfl, hX⟩
              · have hn8 : q_is t n p 8 = false := q_is_mf (i := 8) (by decide) (if_nne0 h60)
                refine p_aload_n 64 dX12_mustName_63 rfl rfl (by decide) ?_
                refine p_ldcS 32 66 dX12_mustName_64 rfl ?_
                refine p_callV1i 124 69 dX12_mustName_66 (s_isWordS hn ht hp hS (i := 32) rfl (by decide)) lk_X12_108 mX12_isWord rfl rfl (by decide) (Nat.le_of_ble_eq_true rfl) ?_
                rintro _ _ ⟨rfl, e9⟩
                have e9 := e9.symm
                subst e9
                refine p_if_ne 81 72 dX12_mustName_69 (by split <;> omega) (by split <;> omega) (fun h69 => ?_) (fun h69 => ?_)
                · have hy : q_is t n p 9 = true := q_is_m (i := 9) (by decide) (if_ne0 h69)
                  have hr9 : q_rsv t n p = true := by
                    unfold q_rsv
                    rw [hy]
                    simp
                  refine p_iconst 82 dX12_mustName_81 ?_
                  refine p_goto 86 dX12_mustName_82 ?_
                  refine p_istore_n 87 dX12_mustName_86 rfl (Nat.le_of_ble_eq_true rfl) rfl rfl ?_
                  dsimp only [List.set]
                  refine p_aload_n 88 dX12_mustName_87 rfl rfl (by decide) ?_
                  refine p_getI 124 91 dX12_mustName_88 fX12_81 rfl ?_
                  rw [hS.2.1.2.2.1]
                  have htk := q_tk_cases t n p
                  refine p_iconst 92 dX12_mustName_91 ?_
                  refine p_icmp_ne 99 95 dX12_mustName_92 (by omega) (by omega) (by decide) (by decide) (fun h92 => ?_) (fun h92 => ?_)
                  · have hw : q_tk t n p ≠ 2 ∨ q_rsv t n p = true := Or.inl (by omega)
                    refine p_aload_n 100 dX12_mustName_99 rfl rfl (by decide) ?_
                    refine p_iconst 101 dX12_mustName_100 ?_
                    refine p_aload_n 102 dX12_mustName_101 rfl rfl (by decide) ?_
                    refine p_getI 124 105 dX12_mustName_102 fX12_72 rfl ?_
                    rw [hS.2.1.1]
                    refine p_callV2v 124 108 dX12_mustName_105 (s_wrongS hn hp hS) lk_X12_118 mX12_wrong rfl rfl (by decide) (Nat.le_of_ble_eq_true rfl) ?_
                    intro M9 hF
                    have hX : (q_tk t n p = 2 ∧ ¬ q_rsv t n p = true ∧ M9 = M) ∨ ((q_tk t n p ≠ 2 ∨ q_rsv t n p = true) ∧ MF (1, (q_at t n p : Int)) N M9) := Or.inr ⟨hw, hF⟩
                    refine p_vret dX12_mustName_108 rfl ?_
                    exact ⟨rfl, hX⟩
                  · refine p_iload_n 96 dX12_mustName_95 rfl rfl ?_
                    refine p_if_eq 108 99 dX12_mustName_96 (by decide) (by decide) (fun h96 => ?_) (fun h96 => ?_)
                    · have hX : (q_tk t n p = 2 ∧ ¬ q_rsv t n p = true ∧ M = M) ∨ ((q_tk t n p ≠ 2 ∨ q_rsv t n p = true) ∧ MF (1, (q_at t n p : Int)) N M) := Or.inl ⟨by omega, by first | exact hr9 | exact absurd h96 (by decide), rfl⟩
                      refine p_vret dX12_mustName_108 rfl ?_
                      exact ⟨rfl, hX⟩
                    · have hw : q_tk t n p ≠ 2 ∨ q_rsv t n p = true := Or.inr (by first | exact hr9 | exact absurd rfl h96)
                      refine p_aload_n 100 dX12_mustName_99 rfl rfl (by decide) ?_
                      refine p_iconst 101 dX12_mustName_100 ?_
                      refine p_aload_n 102 dX12_mustName_101 rfl rfl (by decide) ?_
                      refine p_getI 124 105 dX12_mustName_102 fX12_72 rfl ?_
                      rw [hS.2.1.1]
                      refine p_callV2v 124 108 dX12_mustName_105 (s_wrongS hn hp hS) lk_X12_118 mX12_wrong rfl rfl (by decide) (Nat.le_of_ble_eq_true rfl) ?_
                      intro M9 hF
                      have hX : (q_tk t n p = 2 ∧ ¬ q_rsv t n p = true ∧ M9 = M) ∨ ((q_tk t n p ≠ 2 ∨ q_rsv t n p = true) ∧ MF (1, (q_at t n p : Int)) N M9) := Or.inr ⟨hw, hF⟩
                      refine p_vret dX12_mustName_108 rfl ?_
                      exact ⟨rfl, hX⟩
                · have hn9 : q_is t n p 9 = false := q_is_mf (i := 9) (by decide) (if_nne0 h69)
                  refine p_aload_n 73 dX12_mustName_72 rfl rfl (by decide) ?_
                  refine p_ldcS 33 75 dX12_mustName_73 rfl ?_
                  refine p_callV1i 124 78 dX12_mustName_75 (s_isWordS hn ht hp hS (i := 33) rfl (by decide)) lk_X12_108 mX12_isWord rfl rfl (by decide) (Nat.le_of_ble_eq_true rfl) ?_
                  rintro _ _ ⟨rfl, e9⟩
                  have e9 := e9.symm
                  subst e9
                  refine p_if_eq 85 81 dX12_mustName_78 (by split <;> omega) (by split <;> omega) (fun h78 => ?_) (fun h78 => ?_)
                  · have hn10 : q_is t n p 10 = false := q_is_mf (i := 10) (by decide) (if_eq0 h78)
                    have hr9 : ¬ q_rsv t n p = true := by
                      unfold q_rsv
                      rw [hn0, hn3, hn4, hn5, hn6, hn7, hn8, hn9, hn10]
                      decide
                    refine p_iconst 86 dX12_mustName_85 ?_
                    refine p_istore_n 87 dX12_mustName_86 rfl (Nat.le_of_ble_eq_true rfl) rfl rfl ?_
                    dsimp only [List.set]
                    refine p_aload_n 88 dX12_mustName_87 rfl rfl (by decide) ?_
                    refine p_getI 124 91 dX12_mustName_88 fX12_81 rfl ?_
                    rw [hS.2.1.2.2.1]
                    have htk := q_tk_cases t n p
                    refine p_iconst 92 dX12_mustName_91 ?_
                    refine p_icmp_ne 99 95 dX12_mustName_92 (by omega) (by omega) (by decide) (by decide) (fun h92 => ?_) (fun h92 => ?_)
                    · have hw : q_tk t n p ≠ 2 ∨ q_rsv t n p = true := Or.inl (by omega)
                      refine p_aload_n 100 dX12_mustName_99 rfl rfl (by decide) ?_
                      refine p_iconst 101 dX12_mustName_100 ?_
                      refine p_aload_n 102 dX12_mustName_101 rfl rfl (by decide) ?_
                      refine p_getI 124 105 dX12_mustName_102 fX12_72 rfl ?_
                      rw [hS.2.1.1]
                      refine p_callV2v 124 108 dX12_mustName_105 (s_wrongS hn hp hS) lk_X12_118 mX12_wrong rfl rfl (by decide) (Nat.le_of_ble_eq_true rfl) ?_
                      intro M9 hF
                      have hX : (q_tk t n p = 2 ∧ ¬ q_rsv t n p = true ∧ M9 = M) ∨ ((q_tk t n p ≠ 2 ∨ q_rsv t n p = true) ∧ MF (1, (q_at t n p : Int)) N M9) := Or.inr ⟨hw, hF⟩
                      refine p_vret dX12_mustName_108 rfl ?_
                      exact ⟨rfl, hX⟩
                    · refine p_iload_n 96 dX12_mustName_95 rfl rfl ?_
                      refine p_if_eq 108 99 dX12_mustName_96 (by decide) (by decide) (fun h96 => ?_) (fun h96 => ?_)
                      · have hX : (q_tk t n p = 2 ∧ ¬ q_rsv t n p = true ∧ M = M) ∨ ((q_tk t n p ≠ 2 ∨ q_rsv t n p = true) ∧ MF (1, (q_at t n p : Int)) N M) := Or.inl ⟨by omega, by first | exact hr9 | exact absurd h96 (by decide), rfl⟩
                        refine p_vret dX12_mustName_108 rfl ?_
                        exact ⟨rfl, hX⟩
                      · have hw : q_tk t n p ≠ 2 ∨ q_rsv t n p = true := Or.inr (by first | exact hr9 | exact absurd rfl h96)
                        refine p_aload_n 100 dX12_mustName_99 rfl rfl (by decide) ?_
                        refine p_iconst 101 dX12_mustName_100 ?_
                        refine p_aload_n 102 dX12_mustName_101 rfl rfl (by decide) ?_
                        refine p_getI 124 105 dX12_mustName_102 fX12_72 rfl ?_
                        rw [hS.2.1.1]
                        refine p_callV2v 124 108 dX12_mustName_105 (s_wrongS hn hp hS) lk_X12_118 mX12_wrong rfl rfl (by decide) (Nat.le_of_ble_eq_true rfl) ?_
                        intro M9 hF
                        have hX : (q_tk t n p = 2 ∧ ¬ q_rsv t n p = true ∧ M9 = M) ∨ ((q_tk t n p ≠ 2 ∨ q_rsv t n p = true) ∧ MF (1, (q_at t n p : Int)) N M9) := Or.inr ⟨hw, hF⟩
                        refine p_vret dX12_mustName_108 rfl ?_
                        exact ⟨rfl, hX⟩
                  · have hy : q_is t n p 10 = true := q_is_m (i := 10) (by decide) (if_neq0 h78)
                    have hr9 : q_rsv t n p = true := by
                      unfold q_rsv
                      rw [hy]
                      simp
                    refine p_iconst 82 dX12_mustName_81 ?_
                    refine p_goto 86 dX12_mustName_82 ?_
                    refine p_istore_n 87 dX12_mustName_86 rfl (Nat.le_of_ble_eq_true rfl) rfl rfl ?_
                    dsimp only [List.set]
                    refine p_aload_n 88 dX12_mustName_87 rfl rfl (by decide) ?_
                    refine p_getI 124 91 dX12_mustName_88 fX12_81 rfl ?_
                    rw [hS.2.1.2.2.1]
                    have htk := q_tk_cases t n p
                    refine p_iconst 92 dX12_mustName_91 ?_
                    refine p_icmp_ne 99 95 dX12_mustName_92 (by omega) (by omega) (by decide) (by decide) (fun h92 => ?_) (fun h92 => ?_)
                    · have hw : q_tk t n p ≠ 2 ∨ q_rsv t n p = true := Or.inl (by omega)
                      refine p_aload_n 100 dX12_mustName_99 rfl rfl (by decide) ?_
                      refine p_iconst 101 dX12_mustName_100 ?_
                      refine p_aload_n 102 dX12_mustName_101 rfl rfl (by decide) ?_
                      refine p_getI 124 105 dX12_mustName_102 fX12_72 rfl ?_
                      rw [hS.2.1.1]
                      refine p_callV2v 124 108 dX12_mustName_105 (s_wrongS hn hp hS) lk_X12_118 mX12_wrong rfl rfl (by decide) (Nat.le_of_ble_eq_true rfl) ?_
                      intro M9 hF
                      have hX : (q_tk t n p = 2 ∧ ¬ q_rsv t n p = true ∧ M9 = M) ∨ ((q_tk t n p ≠ 2 ∨ q_rsv t n p = true) ∧ MF (1, (q_at t n p : Int)) N M9) := Or.inr ⟨hw, hF⟩
                      refine p_vret dX12_mustName_108 rfl ?_
                      exact ⟨rfl, hX⟩
                    · refine p_iload_n 96 dX12_mustName_95 rfl rfl ?_
                      refine p_if_eq 108 99 dX12_mustName_96 (by decide) (by decide) (fun h96 => ?_) (fun h96 => ?_)
                      · have hX : (q_tk t n p = 2 ∧ ¬ q_rsv t n p = true ∧ M = M) ∨ ((q_tk t n p ≠ 2 ∨ q_rsv t n p = true) ∧ MF (1, (q_at t n p : Int)) N M) := Or.inl ⟨by omega, by first | exact hr9 | exact absurd h96 (by decide), rfl⟩
                        refine p_vret dX12_mustName_108 rfl ?_
                        exact ⟨rfl, hX⟩
                      · have hw : q_tk t n p ≠ 2 ∨ q_rsv t n p = true := Or.inr (by first | exact hr9 | exact absurd rfl h96)
                        refine p_aload_n 100 dX12_mustName_99 rfl rfl (by decide) ?_
                        refine p_iconst 101 dX12_mustName_100 ?_
                        refine p_aload_n 102 dX12_mustName_101 rfl rfl (by decide) ?_
                        refine p_getI 124 105 dX12_mustName_102 fX12_72 rfl ?_
                        rw [hS.2.1.1]
                        refine p_callV2v 124 108 dX12_mustName_105 (s_wrongS hn hp hS) lk_X12_118 mX12_wrong rfl rfl (by decide) (Nat.le_of_ble_eq_true rfl) ?_
                        intro M9 hF
                        have hX : (q_tk t n p = 2 ∧ ¬ q_rsv t n p = true ∧ M9 = M) ∨ ((q_tk t n p ≠ 2 ∨ q_rsv t n p = true) ∧ MF (1, (q_at t n p : Int)) N M9) := Or.inr ⟨hw, hF⟩
                        refine p_vret dX12_mustName_108 rfl ?_
                        exact ⟨rfl, hX⟩
