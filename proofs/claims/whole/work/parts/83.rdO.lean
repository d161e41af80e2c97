/-! THE READER, the model's: does the token spell it -/
theorem l_isWordM {l : Launch} {X : ZX} {M : ZM} {t : Nat → Int} {n p : Nat} {ρ : Nat → Int} {N : ZM} (hn : n ≤ 900) (ht : ∀ i, i < n → 0 ≤ t i ∧ t i < 256) (hp : p ≤ n) (hS : MS t n p ρ N M) {i : Nat} {q0 : String × Nat × String} (hq : zstr[i]? = some q0) (hi : i < 45) (hk2 : q_tk t n p = 2) (hl : q_ln t n p = (zbyt.getD i []).length) : ∀ (k j : Nat), j + k = (zbyt.getD i []).length → zP l X 4 tX12_isWord 32 [some (zr 124), some (zr (1000 + (i : Int))), some (zi (if q_all (fun j => decide (t (q_at t n p + j) = ((zbyt.getD i []).getD j 0).toInt)) j = true then 1 else 0)), some (zi (j : Int))] [] M (fun r M' => ∃ a, r = some (zi a) ∧ (a = (if q_all (fun j => decide (t (q_at t n p + j) = ((zbyt.getD i []).getD j 0).toInt)) (zbyt.getD i []).length = true then 1 else 0) ∧ M' = M)) := by
  obtain ⟨hB, hT, hf0, hr, hfa, hfk⟩ := id hS
  obtain ⟨t4, t5, t6, t8, t7⟩ := id hT
  have hal := q_at_le t hp
  have hel := q_en_le t hp
  have htk := q_tk_cases t n p
  obtain ⟨hb1, hb2⟩ := zbyt_bd i hi
  obtain ⟨w1, w2, w3, w4, w5⟩ := q_tk_word hp hk2
  intro k
  induction k with
  | zero =>
    intro j hj
    refine p_iload_n 33 dX12_isWord_32 rfl rfl ?_
    refine p_aload_n 34 dX12_isWord_33 rfl rfl (by decide) ?_
    refine p_getI 124 37 dX12_isWord_34 fX12_75 rfl ?_
    rw [(t8 hk2).1]
    refine p_icmp_ge 70 40 dX12_isWord_37 (by omega) (by omega) (by omega) (by omega) (fun h37 => ?_) (fun h37 => absurd (by omega) (fun h9 : False => h9))
    refine p_iload_n 71 dX12_isWord_70 rfl rfl ?_
    refine p_zret dX12_isWord_71 rfl (by split <;> omega) ?_
    rw [Nat.add_zero] at hj
    subst hj
    exact ⟨_, rfl, rfl, rfl⟩
  | succ k ih =>
    intro j hj
    have hb3 := hb2 j (by omega)
    have w6 := w5 j (by omega)
    refine p_iload_n 33 dX12_isWord_32 rfl rfl ?_
    refine p_aload_n 34 dX12_isWord_33 rfl rfl (by decide) ?_
    refine p_getI 124 37 dX12_isWord_34 fX12_75 rfl ?_
    rw [(t8 hk2).1]
    refine p_icmp_ge 70 40 dX12_isWord_37 (by omega) (by omega) (by omega) (by omega) (fun h37 => absurd (by omega) (fun h9 : False => h9)) (fun h37 => ?_)
    refine p_iload_n 41 dX12_isWord_40 rfl rfl ?_
    refine p_if_eq 62 44 dX12_isWord_41 (by split <;> omega) (by split <;> omega) (fun h41 => ?_) (fun h41 => ?_)
    · have hx : q_all (fun j => decide (t (q_at t n p + j) = ((zbyt.getD i []).getD j 0).toInt)) (j + 1) = false := by rw [q_all_succ, Bool.eq_false_iff.mpr (if_eq0 h41), Bool.false_and]
      refine p_iconst 63 dX12_isWord_62 ?_
      refine p_istore_n 64 dX12_isWord_63 rfl (Nat.le_of_ble_eq_true rfl) rfl rfl ?_
      dsimp only [List.set]
      refine p_iinc 67 dX12_isWord_64 rfl rfl rfl ?_
      dsimp only [List.set]
      refine p_goto 32 dX12_isWord_67 ?_
      have hI9 := ih (j + 1) (by omega)
      rw [hx] at hI9
      exact hI9
    · have hy := if_neq0 h41
      refine p_aload_n 45 dX12_isWord_44 rfl rfl (by decide) ?_
      refine p_getR 124 48 dX12_isWord_45 fX12_17 rfl (hB.1 (124, 12, 126) (by decide)) ?_
      refine p_iload_n 49 dX12_isWord_48 rfl rfl ?_
      refine p_ialdn 126 50 (j) dX12_isWord_49 rfl (by omega) (by omega) ?_
      rw [(t8 hk2).2 j (by omega)]
      refine p_aload_n 51 dX12_isWord_50 rfl rfl (by omega) ?_
      refine p_iload_n 52 dX12_isWord_51 rfl rfl ?_
      refine p_callT1i 55 hq dX12_isWord_52 (s_charAt hq hi (j := j) (by omega)) lk_X12_104 mJ0_charAt_5068e rfl (by decide) (Nat.le_of_ble_eq_true rfl) ?_
      rintro _ _ ⟨rfl, e9⟩
      have e9 := e9.symm
      subst e9
      refine p_icmp_ne 62 58 dX12_isWord_55 (by omega) (by omega) (by omega) (by omega) (fun h55 => ?_) (fun h55 => ?_)
      · have hx : q_all (fun j => decide (t (q_at t n p + j) = ((zbyt.getD i []).getD j 0).toInt)) (j + 1) = false := by rw [q_all_succ, decide_eq_false (p := t (q_at t n p + j) = ((zbyt.getD i []).getD j 0).toInt) (by omega), Bool.and_false]
        refine p_iconst 63 dX12_isWord_62 ?_
        refine p_istore_n 64 dX12_isWord_63 rfl (Nat.le_of_ble_eq_true rfl) rfl rfl ?_
        dsimp only [List.set]
        refine p_iinc 67 dX12_isWord_64 rfl rfl rfl ?_
        dsimp only [List.set]
        refine p_goto 32 dX12_isWord_67 ?_
        have hI9 := ih (j + 1) (by omega)
        rw [hx] at hI9
        exact hI9
      · have hx : q_all (fun j => decide (t (q_at t n p + j) = ((zbyt.getD i []).getD j 0).toInt)) (j + 1) = true := by rw [q_all_succ, hy, Bool.true_and]; exact decide_eq_true (by omega)
        refine p_iconst 59 dX12_isWord_58 ?_
        refine p_goto 63 dX12_isWord_59 ?_
        refine p_istore_n 64 dX12_isWord_63 rfl (Nat.le_of_ble_eq_true rfl) rfl rfl ?_
        dsimp only [List.set]
        refine p_iinc 67 dX12_isWord_64 rfl rfl rfl ?_
        dsimp only [List.set]
        refine p_goto 32 dX12_isWord_67 ?_
        have hI9 := ih (j + 1) (by omega)
        rw [hx] at hI9
        exact hI9
theorem s_isWordS {l : Launch} {X : ZX} {M : ZM} {t : Nat → Int} {n p : Nat} {ρ : Nat → Int} {N : ZM} (hn : n ≤ 900) (ht : ∀ i, i < n → 0 ≤ t i ∧ t i < 256) (hp : p ≤ n) (hS : MS t n p ρ N M) {i : Nat} {q0 : String × Nat × String} (hq : zstr[i]? = some q0) (hi : i < 45) : zCi l X 4 yX12_isWord tX12_isWord [zr 124, zr (1000 + (i : Int))] M (fun a M' => a = (if q_is t n p i = true then 1 else 0) ∧ M' = M) := by
  obtain ⟨hB, hT, hf0, hr, hfa, hfk⟩ := id hS
  obtain ⟨t4, t5, t6, t8, t7⟩ := id hT
  have hal := q_at_le t hp
  have hel := q_en_le t hp
  have htk := q_tk_cases t n p
  obtain ⟨hb1, hb2⟩ := zbyt_bd i hi
  refine zC.of [some (zr 124), some (zr (1000 + (i : Int))), none, none] (by decide +kernel) rfl rfl (Nat.le_of_ble_eq_true rfl) rfl ?_
  refine p_aload_n 1 dX12_isWord_0 rfl rfl (by decide) ?_
  refine p_getI 124 4 dX12_isWord_1 fX12_91 rfl ?_
  rw [hf0]
  refine p_if_ne 26 7 dX12_isWord_4 (by decide) (by decide) (fun h4 => absurd (absurd rfl h4) (fun h9 : False => h9)) (fun h4 => ?_)
  refine p_aload_n 8 dX12_isWord_7 rfl rfl (by decide) ?_
  refine p_getI 124 11 dX12_isWord_8 fX12_81 rfl ?_
  rw [t6]
  refine p_iconst 12 dX12_isWord_11 ?_
  refine p_icmp_ne 26 15 dX12_isWord_12 (by omega) (by omega) (by decide) (by decide) (fun h12 => ?_) (fun h12 => ?_)
  · have hno : ¬ q_is t n p i = true := by
      unfold q_is
      rw [decide_eq_false (p := q_tk t n p = 2) (by omega)]
      simp
    refine p_iconst 27 dX12_isWord_26 ?_
    refine p_zret dX12_isWord_27 rfl (by decide) ?_
    exact ⟨_, rfl, by rw [if_neg hno], rfl⟩
  · have hk2 : q_tk t n p = 2 := by omega
    obtain ⟨w1, w2, w3, w4, w5⟩ := q_tk_word hp hk2
    refine p_aload_n 16 dX12_isWord_15 rfl rfl (by decide) ?_
    refine p_getI 124 19 dX12_isWord_16 fX12_75 rfl ?_
    rw [(t8 hk2).1]
    refine p_aload_n 20 dX12_isWord_19 rfl rfl (by omega) ?_
    refine p_callT0i 23 hq dX12_isWord_20 (s_length hq hb1) lk_X12_98 mJ0_length_8abf5 rfl (by decide) (Nat.le_of_ble_eq_true rfl) ?_
    rintro _ _ ⟨rfl, e9⟩
    have e9 := e9.symm
    subst e9
    refine p_icmp_eq 28 26 dX12_isWord_23 (by omega) (by omega) (by omega) (by omega) (fun h23 => ?_) (fun h23 => ?_)
    · have hl : q_ln t n p = (zbyt.getD i []).length := by omega
      refine p_iconst 29 dX12_isWord_28 ?_
      refine p_istore_n 30 dX12_isWord_29 rfl (Nat.le_of_ble_eq_true rfl) rfl rfl ?_
      dsimp only [List.set]
      refine p_iconst 31 dX12_isWord_30 ?_
      refine p_istore_n 32 dX12_isWord_31 rfl (Nat.le_of_ble_eq_true rfl) rfl rfl ?_
      dsimp only [List.set]
      refine (l_isWordM hn ht hp hS hq hi hk2 hl (zbyt.getD i []).length 0 (Nat.zero_add _)).mono (fun r M9 h9 => ?_)
      obtain ⟨a9, ea, eb, ec⟩ := h9
      refine ⟨a9, ea, ?_, ec⟩
      rw [eb]
      unfold q_is
      rw [decide_eq_true hk2, decide_eq_true hl]
      rfl
    · have hno : ¬ q_is t n p i = true := by
        unfold q_is
        rw [decide_eq_false (p := q_ln t n p = (zbyt.getD i []).length) (by omega)]
        simp
      refine p_iconst 27 dX12_isWord_26 ?_
      refine p_zret dX12_isWord_27 rfl (by decide) ?_
      exact ⟨_, rfl, by rw [if_neg hno], rfl⟩
theorem s_isWordF {l : Launch} {X : ZX} {M : ZM} {e : Int × Int} {N : ZM} (hS : MF e N M) {z : Int} : zCi l X 4 yX12_isWord tX12_isWord [zr 124, zr z] M (fun a M' => a = 0 ∧ M' = M) := by
  refine zC.of [some (zr 124), some (zr z), none, none] (by decide +kernel) rfl rfl (Nat.le_of_ble_eq_true rfl) rfl ?_
  refine p_aload_n 1 dX12_isWord_0 rfl rfl (by decide) ?_
  refine p_getI 124 4 dX12_isWord_1 fX12_91 rfl ?_
  rw [hS.2.1]
  refine p_if_ne 26 7 dX12_isWord_4 (by decide) (by decide) (fun h4 => ?_) (fun h4 => absurd (h4 (by decide)) (fun h9 : False => h9))
  refine p_iconst 27 dX12_isWord_26 ?_
  refine p_zret dX12_isWord_27 rfl (by decide) ?_
  exact ⟨_, rfl, rfl, rfl⟩
