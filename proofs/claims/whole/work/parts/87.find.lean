/-! THE READER, the model's: which name it is -/
theorem q_nm_eq {t : Nat → Int} {n p : Nat} {ρ : Nat → Int} (hp : p ≤ n) (hP : PI ρ) (hk2 : q_tk t n p = 2) {m : Nat} (hm : m < 17) : q_nmp ρ m = q_wd t n p ↔ ρ (268 + m) = (q_ln t n p : Int) ∧ q_all (fun j => decide (ρ (285 + 8 * m + j) = t (q_at t n p + j))) (q_ln t n p) = true := by
  obtain ⟨w1, w2, w3, w4, w5⟩ := q_tk_word hp hk2
  have h0 := hP.1.1 (268 + m) (by omega)
  obtain ⟨c1, c2⟩ := hP.2.2.1 m hm
  constructor
  · intro h
    unfold q_nmp q_wd at h
    obtain ⟨e1, e2⟩ := q_pk_inj _ _ _ _ (fun j hj => c2 j (by omega)) w5 h
    refine ⟨by omega, q_all_iff.mpr (fun j hj => decide_eq_true (e2 j (by omega)))⟩
  · rintro ⟨e1, e2⟩
    unfold q_nmp q_wd
    rw [e1, Int.toNat_natCast]
    exact q_pk_congr _ (fun j hj => of_decide_eq_true (q_all_iff.mp e2 j hj))
theorem q_first_no {p : Nat → Bool} {n : Nat} (h : ∀ v, v < n → p v = false) : q_first p n = none := by
  cases hq : q_first p n with
  | none => rfl
  | some w =>
    obtain ⟨h1, h2, -⟩ := q_first_some hq
    rw [h w h1] at h2
    cases h2
theorem l_findZ {l : Launch} {X : ZX} {M : ZM} {t : Nat → Int} {n p : Nat} {ρ : Nat → Int} {N : ZM} (hn : n ≤ 900) (ht : ∀ i, i < n → 0 ≤ t i ∧ t i < 256) (hp : p ≤ n) (hS : MS t n p ρ N M) (hP : PI ρ) (hk2 : q_tk t n p = 2) {m : Nat} {j : Int} (hj : 0 ≤ j ∧ j ≤ 8) {Q : Option ZV → ZM → Prop} (h94 : zP l X 0 tX12_find 94 [some (zr 124), some (zi (m : Int)), some (zi 0), some (zi j)] [] M Q) : zP l X 0 tX12_find 46 [some (zr 124), some (zi (m : Int)), some (zi 0), some (zi j)] [] M Q := by
  obtain ⟨hB, hT, hf0, hr, hfa, hfk⟩ := id hS
  obtain ⟨t4, t5, t6, t8, t7⟩ := id hT
  obtain ⟨w1, w2, w3, w4, w5⟩ := q_tk_word hp hk2
  refine p_iload_n 47 dX12_find_46 rfl rfl ?_
  refine p_aload_n 48 dX12_find_47 rfl rfl (by decide) ?_
  refine p_getI 124 51 dX12_find_48 fX12_75 rfl ?_
  rw [(t8 hk2).1]
  refine p_icmp_ge 94 54 dX12_find_51 (by omega) (by omega) (by omega) (by omega) (fun h51 => ?_) (fun h51 => ?_)
  · exact h94
  · refine p_iload_n 55 dX12_find_54 rfl rfl ?_
    refine p_if_eq 94 58 dX12_find_55 (by decide) (by decide) (fun h55 => ?_) (fun h55 => absurd (h55 rfl) (fun h9 : False => h9))
    exact h94
theorem l_findI {l : Launch} {X : ZX} {M : ZM} {t : Nat → Int} {n p : Nat} {ρ : Nat → Int} {N : ZM} (hn : n ≤ 900) (ht : ∀ i, i < n → 0 ≤ t i ∧ t i < 256) (hp : p ≤ n) (hS : MS t n p ρ N M) (hP : PI ρ) (hk2 : q_tk t n p = 2) {m : Nat} (hm : m < 17) (hle : ρ (268 + m) = (q_ln t n p : Int)) {Q : Option ZV → ZM → Prop} (hy : q_all (fun j => decide (ρ (285 + 8 * m + j) = t (q_at t n p + j))) (q_ln t n p) = true → zP l X 0 tX12_find 94 [some (zr 124), some (zi (m : Int)), some (zi 1), some (zi (q_ln t n p : Int))] [] M Q) (hno : ¬ q_all (fun j => decide (ρ (285 + 8 * m + j) = t (q_at t n p + j))) (q_ln t n p) = true → ∀ j : Int, zP l X 0 tX12_find 94 [some (zr 124), some (zi (m : Int)), some (zi 0), some (zi j)] [] M Q) : ∀ (k j : Nat), j + k = q_ln t n p → q_all (fun j => decide (ρ (285 + 8 * m + j) = t (q_at t n p + j))) j = true → zP l X 0 tX12_find 46 [some (zr 124), some (zi (m : Int)), some (zi 1), some (zi (j : Int))] [] M (Q) := by
  obtain ⟨hB, hT, hf0, hr, hfa, hfk⟩ := id hS
  obtain ⟨t4, t5, t6, t8, t7⟩ := id hT
  obtain ⟨w1, w2, w3, w4, w5⟩ := q_tk_word hp hk2
  intro k
  induction k with
  | zero =>
    intro j hj hv
    refine p_iload_n 47 dX12_find_46 rfl rfl ?_
    refine p_aload_n 48 dX12_find_47 rfl rfl (by decide) ?_
    refine p_getI 124 51 dX12_find_48 fX12_75 rfl ?_
    rw [(t8 hk2).1]
    refine p_icmp_ge 94 54 dX12_find_51 (by omega) (by omega) (by omega) (by omega) (fun h51 => ?_) (fun h51 => absurd (by omega) (fun h9 : False => h9))
    rw [Nat.add_zero] at hj
    subst hj
    exact hy hv
  | succ k ih =>
    intro j hj hv
    have hb0 := hP.1.1 (285 + 8 * m + j) (by omega)
    have hb1 := (hP.2.2.1 m hm).2 j (by omega)
    have w6 := w5 j (by omega)
    refine p_iload_n 47 dX12_find_46 rfl rfl ?_
    refine p_aload_n 48 dX12_find_47 rfl rfl (by decide) ?_
    refine p_getI 124 51 dX12_find_48 fX12_75 rfl ?_
    rw [(t8 hk2).1]
    refine p_icmp_ge 94 54 dX12_find_51 (by omega) (by omega) (by omega) (by omega) (fun h51 => absurd (by omega) (fun h9 : False => h9)) (fun h51 => ?_)
    refine p_iload_n 55 dX12_find_54 rfl rfl ?_
    refine p_if_eq 94 58 dX12_find_55 (by decide) (by decide) (fun h55 => absurd (absurd h55 (by decide)) (fun h9 : False => h9)) (fun h55 => ?_)
    refine p_aload_n 59 dX12_find_58 rfl rfl (by decide) ?_
    refine p_getR 124 62 dX12_find_59 fX12_23 rfl (hB.1 (124, 16, 128) (by decide)) ?_
    refine p_sipush 65 dX12_find_62 rfl ?_
    refine p_bipush 67 dX12_find_65 rfl ?_
    refine p_iload_n 68 dX12_find_67 rfl rfl ?_
    refine p_imul 69 dX12_find_68 ?_
    refine p_iadd 70 dX12_find_69 ?_
    refine p_iload_n 71 dX12_find_70 rfl rfl ?_
    refine p_iadd 72 dX12_find_71 ?_
    refine p_ialdn 128 73 (285 + 8 * m + j) dX12_find_72 rfl (by omega) (by omega) ?_
    rw [hr _ (by omega)]
    refine p_aload_n 74 dX12_find_73 rfl rfl (by decide) ?_
    refine p_getR 124 77 dX12_find_74 fX12_17 rfl (hB.1 (124, 12, 126) (by decide)) ?_
    refine p_iload_n 78 dX12_find_77 rfl rfl ?_
    refine p_ialdn 126 79 (j) dX12_find_78 rfl (by omega) (by omega) ?_
    rw [(t8 hk2).2 j (by omega)]
    refine p_icmp_ne 86 82 dX12_find_79 (by omega) (by omega) (by omega) (by omega) (fun h79 => ?_) (fun h79 => ?_)
    · have hx : ¬ q_all (fun j => decide (ρ (285 + 8 * m + j) = t (q_at t n p + j))) (q_ln t n p) = true := fun g => by have g9 := of_decide_eq_true (q_all_iff.mp g j (by omega)); omega
      refine p_iconst 87 dX12_find_86 ?_
      refine p_istore_n 88 dX12_find_87 rfl (Nat.le_of_ble_eq_true rfl) rfl rfl ?_
      dsimp only [List.set]
      refine p_iinc 91 dX12_find_88 rfl rfl rfl ?_
      dsimp only [List.set]
      refine p_goto 46 dX12_find_91 ?_
      first
        | exact ih (j + 1) (by omega) hx
        | exact l_findZ hn ht hp hS hP hk2 (j := (j : Int) + 1) (by omega) (hno hx _)
    · have hx : q_all (fun j => decide (ρ (285 + 8 * m + j) = t (q_at t n p + j))) (j + 1) = true := by rw [q_all_succ, hv, Bool.true_and]; exact decide_eq_true (by omega)
      refine p_iconst 83 dX12_find_82 ?_
      refine p_goto 87 dX12_find_83 ?_
      refine p_istore_n 88 dX12_find_87 rfl (Nat.le_of_ble_eq_true rfl) rfl rfl ?_
      dsimp only [List.set]
      refine p_iinc 91 dX12_find_88 rfl rfl rfl ?_
      dsimp only [List.set]
      refine p_goto 46 dX12_find_91 ?_
      first
        | exact ih (j + 1) (by omega) hx
        | exact l_findZ hn ht hp hS hP hk2 (j := (j : Int) + 1) (by omega) (hno hx _)
theorem l_findO {l : Launch} {X : ZX} {M : ZM} {t : Nat → Int} {n p : Nat} {ρ : Nat → Int} {N : ZM} (hn : n ≤ 900) (ht : ∀ i, i < n → 0 ≤ t i ∧ t i < 256) (hp : p ≤ n) (hS : MS t n p ρ N M) (hP : PI ρ) (hk2 : q_tk t n p = 2) : ∀ (j i : Nat), i + j = 17 → ∀ x9 y9 : Option ZV, (∀ v, v < i → (fun m => decide (0 < ρ (268 + m)) && decide (q_nmp ρ m = q_wd t n p)) v = false) → zP l X 0 tX12_find 2 [some (zr 124), some (zi (i : Int)), x9, y9] [] M (fun r M' => ∃ a, r = some (zi a) ∧ (a = q_mn (q_fnd t n p ρ) ∧ M' = M)) := by
  obtain ⟨hB, hT, hf0, hr, hfa, hfk⟩ := id hS
  obtain ⟨t4, t5, t6, t8, t7⟩ := id hT
  obtain ⟨w1, w2, w3, w4, w5⟩ := q_tk_word hp hk2
  intro j
  induction j with
  | zero =>
    intro i hi x9 y9 hv
    refine p_iload_n 3 dX12_find_2 rfl rfl ?_
    refine p_bipush 5 dX12_find_3 rfl ?_
    refine p_icmp_ge 106 8 dX12_find_5 (by omega) (by omega) (by omega) (by omega) (fun h5 => ?_) (fun h5 => absurd (by omega) (fun h9 : False => h9))
    refine p_iconst 107 dX12_find_106 ?_
    refine p_iret dX12_find_107 rfl ?_
    have hfi : q_fnd t n p ρ = none := q_first_no (fun v hv9 => hv v (by omega))
    exact ⟨_, rfl, by rw [hfi]; rfl, rfl⟩
  | succ j ih =>
    intro i hi x9 y9 hv
    have hb0 := hP.1.1 (268 + i) (by omega)
    have hb1 := (hP.2.2.1 i (by omega)).1
    refine p_iload_n 3 dX12_find_2 rfl rfl ?_
    refine p_bipush 5 dX12_find_3 rfl ?_
    refine p_icmp_ge 106 8 dX12_find_5 (by omega) (by omega) (by omega) (by omega) (fun h5 => absurd (by omega) (fun h9 : False => h9)) (fun h5 => ?_)
    refine p_aload_n 9 dX12_find_8 rfl rfl (by decide) ?_
    refine p_getR 124 12 dX12_find_9 fX12_23 rfl (hB.1 (124, 16, 128) (by decide)) ?_
    refine p_sipush 15 dX12_find_12 rfl ?_
    refine p_iload_n 16 dX12_find_15 rfl rfl ?_
    refine p_iadd 17 dX12_find_16 ?_
    refine p_ialdn 128 18 (268 + i) dX12_find_17 rfl (by omega) (by omega) ?_
    rw [hr _ (by omega)]
    refine p_if_le 42 21 dX12_find_18 (by omega) (by omega) (fun h18 => ?_) (fun h18 => ?_)
    · have h94Z : zP l X 0 tX12_find 94 [some (zr 124), some (zi (i : Int)), some (zi 0), some (zi 0)] [] M (fun r M' => ∃ a, r = some (zi a) ∧ (a = q_mn (q_fnd t n p ρ) ∧ M' = M)) := by
        have hm0 : (fun m => decide (0 < ρ (268 + m)) && decide (q_nmp ρ m = q_wd t n p)) i = false := by
          show (decide (0 < ρ (268 + i)) && decide (q_nmp ρ i = q_wd t n p)) = false
          rw [Bool.and_eq_false_iff, decide_eq_false_iff_not, decide_eq_false_iff_not]
          exact Or.inl (by omega)
        refine p_iload_n 95 dX12_find_94 rfl rfl ?_
        refine p_if_eq 100 98 dX12_find_95 (by decide) (by decide) (fun h95 => ?_) (fun h95 => absurd (h95 rfl) (fun h9 : False => h9))
        refine p_iinc 103 dX12_find_100 rfl rfl rfl ?_
        dsimp only [List.set]
        refine p_goto 2 dX12_find_103 ?_
        exact ih (i + 1) (by omega) _ _ (fun v hv9 => by by_cases e9 : v = i; subst e9; exact hm0; exact hv v (by omega))
      refine p_iconst 43 dX12_find_42 ?_
      refine p_istore_n 44 dX12_find_43 rfl (Nat.le_of_ble_eq_true rfl) rfl rfl ?_
      dsimp only [List.set]
      refine p_iconst 45 dX12_find_44 ?_
      refine p_istore_n 46 dX12_find_45 rfl (Nat.le_of_ble_eq_true rfl) rfl rfl ?_
      dsimp only [List.set]
      first
        | exact l_findZ hn ht hp hS hP hk2 (j := 0) (by omega) h94Z
        | exact l_findI hn ht hp hS hP hk2 (m := i) (by omega) (by omega) h94Y h94N (q_ln t n p) 0 (by omega) rfl
    · refine p_aload_n 22 dX12_find_21 rfl rfl (by decide) ?_
      refine p_getR 124 25 dX12_find_22 fX12_23 rfl (hB.1 (124, 16, 128) (by decide)) ?_
      refine p_sipush 28 dX12_find_25 rfl ?_
      refine p_iload_n 29 dX12_find_28 rfl rfl ?_
      refine p_iadd 30 dX12_find_29 ?_
      refine p_ialdn 128 31 (268 + i) dX12_find_30 rfl (by omega) (by omega) ?_
      rw [hr _ (by omega)]
      refine p_aload_n 32 dX12_find_31 rfl rfl (by decide) ?_
      refine p_getI 124 35 dX12_find_32 fX12_75 rfl ?_
      rw [(t8 hk2).1]
      refine p_icmp_ne 42 38 dX12_find_35 (by omega) (by omega) (by omega) (by omega) (fun h35 => ?_) (fun h35 => ?_)
      · have h94Z : zP l X 0 tX12_find 94 [some (zr 124), some (zi (i : Int)), some (zi 0), some (zi 0)] [] M (fun r M' => ∃ a, r = some (zi a) ∧ (a = q_mn (q_fnd t n p ρ) ∧ M' = M)) := by
          have hm0 : (fun m => decide (0 < ρ (268 + m)) && decide (q_nmp ρ m = q_wd t n p)) i = false := by
            show (decide (0 < ρ (268 + i)) && decide (q_nmp ρ i = q_wd t n p)) = false
            rw [Bool.and_eq_false_iff, decide_eq_false_iff_not, decide_eq_false_iff_not]
            exact Or.inr (fun g => by have := ((q_nm_eq hp hP hk2 (m := i) (by omega)).mp g).1; omega)
          refine p_iload_n 95 dX12_find_94 rfl rfl ?_
          refine p_if_eq 100 98 dX12_find_95 (by decide) (by decide) (fun h95 => ?_) (fun h95 => absurd (h95 rfl) (fun h9 : False => h9))
          refine p_iinc 103 dX12_find_100 rfl rfl rfl ?_
          dsimp only [List.set]
          refine p_goto 2 dX12_find_103 ?_
          exact ih (i + 1) (by omega) _ _ (fun v hv9 => by by_cases e9 : v = i; subst e9; exact hm0; exact hv v (by omega))
        refine p_iconst 43 dX12_find_42 ?_
        refine p_istore_n 44 dX12_find_43 rfl (Nat.le_of_ble_eq_true rfl) rfl rfl ?_
        dsimp only [List.set]
        refine p_iconst 45 dX12_find_44 ?_
        refine p_istore_n 46 dX12_find_45 rfl (Nat.le_of_ble_eq_true rfl) rfl rfl ?_
        dsimp only [List.set]
        first
          | exact l_findZ hn ht hp hS hP hk2 (j := 0) (by omega) h94Z
          | exact l_findI hn ht hp hS hP hk2 (m := i) (by omega) (by omega) h94Y h94N (q_ln t n p) 0 (by omega) rfl
      · have h94N : ¬ q_all (fun j => decide (ρ (285 + 8 * i + j) = t (q_at t n p + j))) (q_ln t n p) = true → ∀ j : Int, zP l X 0 tX12_find 94 [some (zr 124), some (zi (i : Int)), some (zi 0), some (zi j)] [] M (fun r M' => ∃ a, r = some (zi a) ∧ (a = q_mn (q_fnd t n p ρ) ∧ M' = M)) := by
          intro hq9 j9
          have hm0 : (fun m => decide (0 < ρ (268 + m)) && decide (q_nmp ρ m = q_wd t n p)) i = false := by
            show (decide (0 < ρ (268 + i)) && decide (q_nmp ρ i = q_wd t n p)) = false
            rw [Bool.and_eq_false_iff, decide_eq_false_iff_not, decide_eq_false_iff_not]
            exact Or.inr (fun g => hq9 ((q_nm_eq hp hP hk2 (m := i) (by omega)).mp g).2)
          refine p_iload_n 95 dX12_find_94 rfl rfl ?_
          refine p_if_eq 100 98 dX12_find_95 (by decide) (by decide) (fun h95 => ?_) (fun h95 => absurd (h95 rfl) (fun h9 : False => h9))
          refine p_iinc 103 dX12_find_100 rfl rfl rfl ?_
          dsimp only [List.set]
          refine p_goto 2 dX12_find_103 ?_
          exact ih (i + 1) (by omega) _ _ (fun v hv9 => by by_cases e9 : v = i; subst e9; exact hm0; exact hv v (by omega))
        have h94Y : q_all (fun j => decide (ρ (285 + 8 * i + j) = t (q_at t n p + j))) (q_ln t n p) = true → zP l X 0 tX12_find 94 [some (zr 124), some (zi (i : Int)), some (zi 1), some (zi (q_ln t n p : Int))] [] M (fun r M' => ∃ a, r = some (zi a) ∧ (a = q_mn (q_fnd t n p ρ) ∧ M' = M)) := by
          intro hq9
          have hfi : q_fnd t n p ρ = some i := q_first_is (by omega) (by
            show (decide (0 < ρ (268 + i)) && decide (q_nmp ρ i = q_wd t n p)) = true
            rw [decide_eq_true (p := 0 < ρ (268 + i)) (by omega), decide_eq_true ((q_nm_eq hp hP hk2 (m := i) (by omega)).mpr ⟨by omega, hq9⟩)]; rfl) hv
          refine p_iload_n 95 dX12_find_94 rfl rfl ?_
          refine p_if_eq 100 98 dX12_find_95 (by decide) (by decide) (fun h95 => absurd (absurd h95 (by decide)) (fun h9 : False => h9)) (fun h95 => ?_)
          refine p_iload_n 99 dX12_find_98 rfl rfl ?_
          refine p_iret dX12_find_99 rfl ?_
          exact ⟨_, rfl, by rw [hfi]; rfl, rfl⟩
        refine p_iconst 39 dX12_find_38 ?_
        refine p_goto 43 dX12_find_39 ?_
        refine p_istore_n 44 dX12_find_43 rfl (Nat.le_of_ble_eq_true rfl) rfl rfl ?_
        dsimp only [List.set]
        refine p_iconst 45 dX12_find_44 ?_
        refine p_istore_n 46 dX12_find_45 rfl (Nat.le_of_ble_eq_true rfl) rfl rfl ?_
        dsimp only [List.set]
        first
          | exact l_findZ hn ht hp hS hP hk2 (j := 0) (by omega) h94Z
          | exact l_findI hn ht hp hS hP hk2 (m := i) (by omega) (by omega) h94Y h94N (q_ln t n p) 0 (by omega) rfl
theorem s_findS {l : Launch} {X : ZX} {M : ZM} {t : Nat → Int} {n p : Nat} {ρ : Nat → Int} {N : ZM} (hn : n ≤ 900) (ht : ∀ i, i < n → 0 ≤ t i ∧ t i < 256) (hp : p ≤ n) (hS : MS t n p ρ N M) (hP : PI ρ) (hk2 : q_tk t n p = 2) : zCi l X 0 yX12_find tX12_find [zr 124] M (fun a M' => a = q_mn (q_fnd t n p ρ) ∧ M' = M) := by
  refine zC.of [some (zr 124), none, none, none] (by decide +kernel) rfl rfl (Nat.le_of_ble_eq_true rfl) rfl ?_
  refine p_iconst 1 dX12_find_0 ?_
  refine p_istore_n 2 dX12_find_1 rfl (Nat.le_of_ble_eq_true rfl) rfl rfl ?_
  dsimp only [List.set]
  exact l_findO hn ht hp hS hP hk2 17 0 (by omega) none none (fun v hv => absurd hv (by omega))
