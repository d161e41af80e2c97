/-! THE READER, the model's: lines -/
theorem w32_bd (n : Int) : -2147483648 ≤ w32 n ∧ w32 n < 2147483648 := ⟨Int32.le_toInt _, Int32.toInt_lt _⟩
theorem p_w32 {l : Launch} {X : ZX} {d : Nat} {mt : ZT} {pc : Nat} {L : List (Option ZV)} {S : List ZV} {M : ZM} {Q : Option ZV → ZM → Prop} {a : Int} (kk : zP l X d mt pc L (zi (w32 a) :: S) M Q) : zP l X d mt pc L (zi a :: S) M Q := by
  obtain ⟨r, M', hQ, hg⟩ := kk
  refine ⟨r, M', hQ, ?_⟩
  have e : pz_val X (zi (w32 a)) = pz_val X (zi a) := by
    show Value.int (Int32.ofInt (w32 a)) = Value.int (Int32.ofInt a)
    rw [pz_ofw32]
  unfold zGo at hg ⊢
  rw [List.map_cons] at hg ⊢
  rw [e] at hg
  exact hg
theorem MX.cases {t : Nat → Int} {n : Nat} {r : PR} {N M : ZM} (h : MX t n r N M) : (∃ e, r = .inl e ∧ MF e N M) ∨ ∃ p ρ, r = .inr (p, ρ) ∧ MS t n p ρ N M := by
  cases r with
  | inl e => exact Or.inl ⟨e, rfl, h⟩
  | inr q => exact Or.inr ⟨q.1, q.2, rfl, h⟩
theorem q_aft_m {t : Nat → Int} {n p i : Nat} {lo hi : Int} (h : i < 22) : q_aft t n p (i + 23) lo hi = q_aft t n p i lo hi := by
  unfold q_aft
  rw [q_is_eq h]
theorem q_n_i {ρ : Nat → Int} (h : nn ρ) {i : Nat} (hi : i < 421) : ρ i = (q_n ρ i : Int) := (Int.toNat_of_nonneg (h i hi)).symm
theorem s_isWordM {l : Launch} {X : ZX} {M : ZM} {t : Nat → Int} {n p : Nat} {ρ : Nat → Int} {N : ZM} (hn : n ≤ 900) (ht : ∀ i, i < n → 0 ≤ t i ∧ t i < 256) (hp : p ≤ n) (hS : MS t n p ρ N M) {i k : Nat} (hk : k = i + 23) (hi22 : i < 22) {q0 : String × Nat × String} (hq : zstr[k]? = some q0) : zCi l X 4 yX12_isWord tX12_isWord [zr 124, zr (1000 + (k : Int))] M (fun a M' => a = (if q_is t n p i = true then 1 else 0) ∧ M' = M) := by
  subst hk
  rw [← q_is_eq (t := t) (n := n) (p := p) hi22]
  exact s_isWordS hn ht hp hS hq (by omega)
theorem s_takesWordM {l : Launch} {X : ZX} {M : ZM} {t : Nat → Int} {n p : Nat} {ρ : Nat → Int} {N : ZM} (hn : n ≤ 900) (ht : ∀ i, i < n → 0 ≤ t i ∧ t i < 256) (hp : p ≤ n) (hS : MS t n p ρ N M) {i k : Nat} (hk : k = i + 23) (hi22 : i < 22) {q0 : String × Nat × String} (hq : zstr[k]? = some q0) : zCi l X 6 yX12_takesWord tX12_takesWord [zr 124, zr (1000 + (k : Int))] M (fun a M' => (q_is t n p i = true ∧ a = 1 ∧ MS t n (q_en t n p) ρ N M') ∨ (¬ q_is t n p i = true ∧ a = 0 ∧ M' = M)) := by
  subst hk
  rw [← q_is_eq (t := t) (n := n) (p := p) hi22]
  exact s_takesWordS hn ht hp hS hq (by omega)
theorem s_mustM {l : Launch} {X : ZX} {M : ZM} {t : Nat → Int} {n p : Nat} {ρ : Nat → Int} {N : ZM} (hn : n ≤ 900) (ht : ∀ i, i < n → 0 ≤ t i ∧ t i < 256) (hp : p ≤ n) (hS : MS t n p ρ N M) {i k : Nat} (hk : k = i + 23) (hi22 : i < 22) {q0 : String × Nat × String} (hq : zstr[k]? = some q0) : zCv l X 7 yX12_must tX12_must [zr 124, zr (1000 + (k : Int))] M (fun M' => (q_is t n p i = true ∧ MS t n (q_en t n p) ρ N M') ∨ (¬ q_is t n p i = true ∧ MF (1, (q_at t n p : Int)) N M')) := by
  subst hk
  rw [← q_is_eq (t := t) (n := n) (p := p) hi22]
  exact s_mustS hn ht hp hS hq (by omega)
theorem s_afterM {l : Launch} {X : ZX} {M : ZM} {t : Nat → Int} {n p : Nat} {ρ : Nat → Int} {N : ZM} (hn : n ≤ 900) (ht : ∀ i, i < n → 0 ≤ t i ∧ t i < 256) (hp : p ≤ n) (hS : MS t n p ρ N M) {i k : Nat} (hk : k = i + 23) (hi22 : i < 22) {q0 : String × Nat × String} (hq : zstr[k]? = some q0) {lo hi : Int} (hlo : 0 ≤ lo ∧ lo ≤ 1000) (hhi : 0 ≤ hi ∧ hi ≤ 1000) : zCi l X 8 yX12_after tX12_after [zr 124, zr (1000 + (k : Int)), zi lo, zi hi] M (fun a M' => (∃ e, q_aft t n p i lo hi = .inl e ∧ a = lo ∧ MF e N M') ∨ (∃ p1, p1 ≤ n ∧ lo ≤ a ∧ a ≤ hi ∧ q_aft t n p i lo hi = .inr (p1, a) ∧ MS t n p1 ρ N M')) := by
  subst hk
  rw [← q_aft_m (t := t) (n := n) (p := p) (lo := lo) (hi := hi) hi22]
  exact s_afterS hn ht hp hS hq (by omega) hlo hhi
theorem s_beginsM {l : Launch} {X : ZX} {M : ZM} {t : Nat → Int} {n p : Nat} {ρ : Nat → Int} {N : ZM} (hn : n ≤ 900) (ht : ∀ i, i < n → 0 ≤ t i ∧ t i < 256) (hp : p ≤ n) (hS : MS t n p ρ N M) {i k : Nat} (hk : k = i + 23) (hi22 : i < 22) {q0 : String × Nat × String} (hq : zstr[k]? = some q0) (hr0 : 0 ≤ ρ 0 ∧ ρ 0 ≤ 9) {b : Int} (hb : b = 0 ∨ b = 1) : zCi l X 5 yX12_begins tX12_begins [zr 124, zr (1000 + (k : Int)), zi b] M (fun a M' => (¬ q_is t n p i = true ∧ a = 0 ∧ M' = M) ∨ (q_is t n p i = true ∧ a = 1 ∧ MX t n (if b = 0 then .inl (5, (q_at t n p : Int)) else if ρ 0 = 0 then .inl (6, (q_at t n p : Int)) else .inr (q_en t n p, ρ)) N M')) := by
  obtain ⟨hB, hT, hf0, hr, hfa, hfk⟩ := id hS
  obtain ⟨t4, t5, t6, t8, t7⟩ := id hT
  have hal := q_at_le t hp
  have hel := q_en_le t hp
  have htk := q_tk_cases t n p
  refine zC.of [some (zr 124), some (zr (1000 + (k : Int))), some (zi b)] (by decide +kernel) rfl rfl (Nat.le_of_ble_eq_true rfl) rfl ?_
  refine p_aload_n 1 dX12_begins_0 rfl rfl (by decide) ?_
  refine p_aload_n 2 dX12_begins_1 rfl rfl (by omega) ?_
  refine p_callV1i 124 5 dX12_begins_2 (s_isWordM hn ht hp hS hk hi22 hq) lk_X12_108 mX12_isWord rfl rfl (by decide) (Nat.le_of_ble_eq_true rfl) ?_
  rintro _ _ ⟨rfl, e9⟩
  have e9 := e9.symm
  subst e9
  refine p_if_ne 10 8 dX12_begins_5 (by split <;> omega) (by split <;> omega) (fun h5 => ?_) (fun h5 => ?_)
  · have hy := if_ne0 h5
    refine p_iload_n 11 dX12_begins_10 rfl rfl ?_
    refine p_if_ne 23 14 dX12_begins_11 (by omega) (by omega) (fun h11 => ?_) (fun h11 => ?_)
    · refine p_aload_n 24 dX12_begins_23 rfl rfl (by decide) ?_
      refine p_getR 124 27 dX12_begins_24 fX12_23 rfl (hB.1 (124, 16, 128) (by decide)) ?_
      refine p_iconst 28 dX12_begins_27 ?_
      refine p_ialdn 128 29 (0) dX12_begins_28 rfl (by omega) (by omega) ?_
      rw [hr 0 (by decide)]
      refine p_if_ne 42 32 dX12_begins_29 (by omega) (by omega) (fun h29 => ?_) (fun h29 => ?_)
      · refine p_aload_n 43 dX12_begins_42 rfl rfl (by decide) ?_
        refine p_getI 124 46 dX12_begins_43 fX12_91 rfl ?_
        rw [hf0]
        refine p_if_ne 53 49 dX12_begins_46 (by decide) (by decide) (fun h46 => absurd (absurd rfl h46) (fun h9 : False => h9)) (fun h46 => ?_)
        refine p_aload_n 50 dX12_begins_49 rfl rfl (by decide) ?_
        refine p_callV0v 124 53 dX12_begins_50 (s_goOn hn ht hS.1 (p := q_en t n p) (q_en_n t hp) hS.2.1.2.1) lk_X12_112 mX12_goOn rfl rfl (by decide) (Nat.le_of_ble_eq_true rfl) ?_
        rintro M9 ⟨kk9, hT9⟩
        have hS9 := hS.adv kk9 hT9
        refine p_iconst 54 dX12_begins_53 ?_
        refine p_zret dX12_begins_54 rfl (by decide) ?_
        exact ⟨_, rfl, Or.inr ⟨hy, rfl, MX.r (by rw [if_neg h11, if_neg h29]) hS9⟩⟩
      · refine p_aload_n 33 dX12_begins_32 rfl rfl (by decide) ?_
        refine p_bipush 35 dX12_begins_33 rfl ?_
        refine p_aload_n 36 dX12_begins_35 rfl rfl (by decide) ?_
        refine p_getI 124 39 dX12_begins_36 fX12_72 rfl ?_
        rw [t4]
        refine p_callV2v 124 42 dX12_begins_39 (s_wrongS hn hp hS) lk_X12_118 mX12_wrong rfl rfl (by decide) (Nat.le_of_ble_eq_true rfl) ?_
        intro M9 hF9
        refine p_aload_n 43 dX12_begins_42 rfl rfl (by decide) ?_
        refine p_getI 124 46 dX12_begins_43 fX12_91 rfl ?_
        rw [hF9.2.1]
        refine p_if_ne 53 49 dX12_begins_46 (by decide) (by decide) (fun h46 => ?_) (fun h46 => absurd (h46 (by decide)) (fun h9 : False => h9))
        refine p_iconst 54 dX12_begins_53 ?_
        refine p_zret dX12_begins_54 rfl (by decide) ?_
        exact ⟨_, rfl, Or.inr ⟨hy, rfl, MX.l (by rw [if_neg h11, if_pos (by omega)]) hF9⟩⟩
    · refine p_aload_n 15 dX12_begins_14 rfl rfl (by decide) ?_
      refine p_iconst 16 dX12_begins_15 ?_
      refine p_aload_n 17 dX12_begins_16 rfl rfl (by decide) ?_
      refine p_getI 124 20 dX12_begins_17 fX12_72 rfl ?_
      rw [t4]
      refine p_callV2v 124 23 dX12_begins_20 (s_wrongS hn hp hS) lk_X12_118 mX12_wrong rfl rfl (by decide) (Nat.le_of_ble_eq_true rfl) ?_
      intro M9 hF9
      refine p_aload_n 24 dX12_begins_23 rfl rfl (by decide) ?_
      refine p_getR 124 27 dX12_begins_24 fX12_23 rfl (hF9.1 (124, 16, 128) (by decide)) ?_
      refine p_iconst 28 dX12_begins_27 ?_
      refine p_ialdn 128 29 (0) dX12_begins_28 rfl (by omega) (by omega) ?_
      refine p_w32 ?_
      have hw9 := w32_bd (M9 128 0)
      refine p_if_ne 42 32 dX12_begins_29 (by omega) (by omega) (fun h29 => ?_) (fun h29 => ?_)
      · refine p_aload_n 43 dX12_begins_42 rfl rfl (by decide) ?_
        refine p_getI 124 46 dX12_begins_43 fX12_91 rfl ?_
        rw [hF9.2.1]
        refine p_if_ne 53 49 dX12_begins_46 (by decide) (by decide) (fun h46 => ?_) (fun h46 => absurd (h46 (by decide)) (fun h9 : False => h9))
        refine p_iconst 54 dX12_begins_53 ?_
        refine p_zret dX12_begins_54 rfl (by decide) ?_
        exact ⟨_, rfl, Or.inr ⟨hy, rfl, MX.l (by rw [if_pos (by omega)]) hF9⟩⟩
      · refine p_aload_n 33 dX12_begins_32 rfl rfl (by decide) ?_
        refine p_bipush 35 dX12_begins_33 rfl ?_
        refine p_aload_n 36 dX12_begins_35 rfl rfl (by decide) ?_
        refine p_getI 124 39 dX12_begins_36 fX12_72 rfl ?_
        refine p_callV2v 124 42 dX12_begins_39 (s_wrongF hF9) lk_X12_118 mX12_wrong rfl rfl (by decide) (Nat.le_of_ble_eq_true rfl) ?_
        intro M8 e8
        have e8 := e8.symm
        subst e8
        refine p_aload_n 43 dX12_begins_42 rfl rfl (by decide) ?_
        refine p_getI 124 46 dX12_begins_43 fX12_91 rfl ?_
        rw [hF9.2.1]
        refine p_if_ne 53 49 dX12_begins_46 (by decide) (by decide) (fun h46 => ?_) (fun h46 => absurd (h46 (by decide)) (fun h9 : False => h9))
        refine p_iconst 54 dX12_begins_53 ?_
        refine p_zret dX12_begins_54 rfl (by decide) ?_
        exact ⟨_, rfl, Or.inr ⟨hy, rfl, MX.l (by rw [if_pos (by omega)]) hF9⟩⟩
  · have hno := if_nne0 h5
    refine p_iconst 9 dX12_begins_8 ?_
    refine p_zret dX12_begins_9 rfl (by decide) ?_
    exact ⟨_, rfl, Or.inl ⟨hno, rfl, rfl⟩⟩
theorem s_countyLineS {l : Launch} {X : ZX} {M : ZM} {t : Nat → Int} {n p : Nat} {ρ : Nat → Int} {N : ZM} (hn : n ≤ 900) (ht : ∀ i, i < n → 0 ≤ t i ∧ t i < 256) (hp : p ≤ n) (hS : MS t n p ρ N M) (hP : PI ρ) : zCv l X 9 yX12_countyLine tX12_countyLine [zr 124] M (fun M' => MX t n (q_lcounty t n p ρ) N M') := by
  obtain ⟨hB, hT, hf0, hr, hfa, hfk⟩ := id hS
  obtain ⟨t4, t5, t6, t8, t7⟩ := id hT
  have hal := q_at_le t hp
  have hel := q_en_le t hp
  have htk := q_tk_cases t n p
  have hp0 := hp
  have hS0 := hS
  have hnn : nn ρ := hP.1.1
  refine zC.of [some (zr 124), none] (by decide +kernel) rfl rfl (Nat.le_of_ble_eq_true rfl) rfl ?_
  refine p_aload_n 1 dX12_countyLine_0 rfl rfl (by decide) ?_
  refine p_getR 124 4 dX12_countyLine_1 fX12_23 rfl (hB.1 (124, 16, 128) (by decide)) ?_
  refine p_iconst 5 dX12_countyLine_4 ?_
  refine p_ialdn 128 6 (0) dX12_countyLine_5 rfl (by omega) (by omega) ?_
  rw [hr 0 (by decide)]
  have hr0 := hnn 0 (by decide)
  have hr9 := hP.1.2.1.1
  refine p_if_le 18 9 dX12_countyLine_6 (by omega) (by omega) (fun h6 => ?_) (fun h6 => ?_)
  · have hc0 : ¬ 0 < ρ 0 := by omega
    refine p_aload_n 19 dX12_countyLine_18 rfl rfl (by decide) ?_
    refine p_getI 124 22 dX12_countyLine_19 fX12_91 rfl ?_
    rw [hf0]
    refine p_if_eq 26 25 dX12_countyLine_22 (by decide) (by decide) (fun h22 => ?_) (fun h22 => absurd (h22 rfl) (fun h9 : False => h9))
    refine p_aload_n 27 dX12_countyLine_26 rfl rfl (by decide) ?_
    refine p_callV0v 124 30 dX12_countyLine_27 (s_goOn hn ht hS.1 (p := q_en t n p) (q_en_n t hp) hS.2.1.2.1) lk_X12_112 mX12_goOn rfl rfl (by decide) (Nat.le_of_ble_eq_true rfl) ?_
    rintro M9 ⟨kk9, hT9⟩
    have hS := hS.adv kk9 hT9
    have hp := q_en_n t hp
    refine p_aload_n 31 dX12_countyLine_30 rfl rfl (by decide) ?_
    refine p_ldcS 24 33 dX12_countyLine_31 rfl ?_
    refine p_iconst 34 dX12_countyLine_33 ?_
    refine p_bipush 36 dX12_countyLine_34 rfl ?_
    refine p_callV3i 124 39 dX12_countyLine_36 (s_afterM hn ht hp hS (i := 1) (k := 24) rfl (by decide) rfl (by omega : (0 : Int) ≤ 1 ∧ (1 : Int) ≤ 1000) (by omega : (0 : Int) ≤ 9 ∧ (9 : Int) ≤ 1000)) lk_X12_214 mX12_after rfl rfl (by decide) (Nat.le_of_ble_eq_true rfl) ?_
    intro a1 M1 hd
    rcases hd with ⟨e1, hz1, ea1, hF⟩ | ⟨p1, hp, la1, lb1, hz1, hS⟩
    · refine p_istore_n 40 dX12_countyLine_39 rfl (Nat.le_of_ble_eq_true rfl) rfl rfl ?_
      dsimp only [List.set]
      refine p_aload_n 41 dX12_countyLine_40 rfl rfl (by decide) ?_
      refine p_getR 124 44 dX12_countyLine_41 fX12_23 rfl (hF.1 (124, 16, 128) (by decide)) ?_
      refine p_iconst 45 dX12_countyLine_44 ?_
      refine p_aload_n 46 dX12_countyLine_45 rfl rfl (by decide) ?_
      refine p_ldcS 25 48 dX12_countyLine_46 rfl ?_
      refine p_iconst 49 dX12_countyLine_48 ?_
      refine p_bipush 51 dX12_countyLine_49 rfl ?_
      refine p_callV3i 124 54 dX12_countyLine_51 (s_afterF hF (by decide)) lk_X12_214 mX12_after rfl rfl (by decide) (Nat.le_of_ble_eq_true rfl) ?_
      rintro _ _ ⟨rfl, e9⟩
      have e9 := e9.symm
      subst e9
      refine p_iastn 128 55 (1) dX12_countyLine_54 rfl (by omega) (by omega) ?_
      have hF := hF.put (k := 1) (v := 0)
      refine p_aload_n 56 dX12_countyLine_55 rfl rfl (by decide) ?_
      refine p_getI 124 59 dX12_countyLine_56 fX12_91 rfl ?_
      rw [hF.2.1]
      refine p_if_ne 69 62 dX12_countyLine_59 (by decide) (by decide) (fun h59 => ?_) (fun h59 => absurd (h59 (by decide)) (fun h9 : False => h9))
      refine p_vret dX12_countyLine_69 rfl ?_
      exact ⟨rfl, MX.l (by simp only [q_lcounty, q_bindN, if_neg hc0, hz1]) hF⟩
    · refine p_istore_n 40 dX12_countyLine_39 rfl (Nat.le_of_ble_eq_true rfl) rfl rfl ?_
      dsimp only [List.set]
      refine p_aload_n 41 dX12_countyLine_40 rfl rfl (by decide) ?_
      refine p_getR 124 44 dX12_countyLine_41 fX12_23 rfl (hS.1.1 (124, 16, 128) (by decide)) ?_
      refine p_iconst 45 dX12_countyLine_44 ?_
      refine p_aload_n 46 dX12_countyLine_45 rfl rfl (by decide) ?_
      refine p_ldcS 25 48 dX12_countyLine_46 rfl ?_
      refine p_iconst 49 dX12_countyLine_48 ?_
      refine p_bipush 51 dX12_countyLine_49 rfl ?_
      refine p_callV3i 124 54 dX12_countyLine_51 (s_afterM hn ht hp hS (i := 2) (k := 25) rfl (by decide) rfl (by omega : (0 : Int) ≤ 0 ∧ (0 : Int) ≤ 1000) (by omega : (0 : Int) ≤ 100 ∧ (100 : Int) ≤ 1000)) lk_X12_214 mX12_after rfl rfl (by decide) (Nat.le_of_ble_eq_true rfl) ?_
      intro a2 M2 hd
      rcases hd with ⟨e2, hz2, ea2, hF⟩ | ⟨p2, hp, la2, lb2, hz2, hS⟩
      · refine p_iastn 128 55 (1) dX12_countyLine_54 rfl (by omega) (by omega) ?_
        have hF := hF.put (k := 1) (v := a2)
        refine p_aload_n 56 dX12_countyLine_55 rfl rfl (by decide) ?_
        refine p_getI 124 59 dX12_countyLine_56 fX12_91 rfl ?_
        rw [hF.2.1]
        refine p_if_ne 69 62 dX12_countyLine_59 (by decide) (by decide) (fun h59 => ?_) (fun h59 => absurd (h59 (by decide)) (fun h9 : False => h9))
        refine p_vret dX12_countyLine_69 rfl ?_
        exact ⟨rfl, MX.l (by simp only [q_lcounty, q_bindN, if_neg hc0, hz1, hz2]) hF⟩
      · refine p_iastn 128 55 (1) dX12_countyLine_54 rfl (by omega) (by omega) ?_
        have hS := hS.put (k := 1) (v := a2)
        refine p_aload_n 56 dX12_countyLine_55 rfl rfl (by decide) ?_
        refine p_getI 124 59 dX12_countyLine_56 fX12_91 rfl ?_
        rw [hS.2.2.1]
        refine p_if_ne 69 62 dX12_countyLine_59 (by decide) (by decide) (fun h59 => absurd (absurd rfl h59) (fun h9 : False => h9)) (fun h59 => ?_)
        refine p_aload_n 63 dX12_countyLine_62 rfl rfl (by decide) ?_
        refine p_getR 124 66 dX12_countyLine_63 fX12_23 rfl (hS.1.1 (124, 16, 128) (by decide)) ?_
        refine p_iconst 67 dX12_countyLine_66 ?_
        refine p_iload_n 68 dX12_countyLine_67 rfl rfl ?_
        refine p_iastn 128 69 (0) dX12_countyLine_68 rfl (by omega) (by omega) ?_
        have hS := hS.put (k := 0) (v := a1)
        refine p_vret dX12_countyLine_69 rfl ?_
        exact ⟨rfl, MX.r (by simp only [q_lcounty, q_bindN, if_neg hc0, hz1, hz2]) hS⟩
  · have hc0 : 0 < ρ 0 := by omega
    refine p_aload_n 10 dX12_countyLine_9 rfl rfl (by decide) ?_
    refine p_iconst 11 dX12_countyLine_10 ?_
    refine p_aload_n 12 dX12_countyLine_11 rfl rfl (by decide) ?_
    refine p_getI 124 15 dX12_countyLine_12 fX12_72 rfl ?_
    rw [t4]
    refine p_callV2v 124 18 dX12_countyLine_15 (s_wrongS hn hp hS) lk_X12_118 mX12_wrong rfl rfl (by decide) (Nat.le_of_ble_eq_true rfl) ?_
    intro M9 hF9
    refine p_aload_n 19 dX12_countyLine_18 rfl rfl (by decide) ?_
    refine p_getI 124 22 dX12_countyLine_19 fX12_91 rfl ?_
    rw [hF9.2.1]
    refine p_if_eq 26 25 dX12_countyLine_22 (by decide) (by decide) (fun h22 => absurd (absurd h22 (by decide)) (fun h9 : False => h9)) (fun h22 => ?_)
    refine p_vret dX12_countyLine_25 rfl ?_
    exact ⟨rfl, MX.l (by simp only [q_lcounty, if_pos hc0]) hF9⟩
theorem s_awakeLineS {l : Launch} {X : ZX} {M : ZM} {t : Nat → Int} {n p : Nat} {ρ : Nat → Int} {N : ZM} (hn : n ≤ 900) (ht : ∀ i, i < n → 0 ≤ t i ∧ t i < 256) (hp : p ≤ n) (hS : MS t n p ρ N M) (hP : PI ρ) (hro : ρ 3 < 3) : zCv l X 9 yX12_awakeLine tX12_awakeLine [zr 124] M (fun M' => MX t n (q_lawake t n p ρ) N M') := by
  obtain ⟨hB, hT, hf0, hr, hfa, hfk⟩ := id hS
  obtain ⟨t4, t5, t6, t8, t7⟩ := id hT
  have hal := q_at_le t hp
  have hel := q_en_le t hp
  have htk := q_tk_cases t n p
  have hp0 := hp
  have hS0 := hS
  have hnn : nn ρ := hP.1.1
  have e9c := q_n_i hnn (i := 3) (by decide)
  refine zC.of [some (zr 124), none] (by decide +kernel) rfl rfl (Nat.le_of_ble_eq_true rfl) rfl ?_
  refine p_aload_n 1 dX12_awakeLine_0 rfl rfl (by decide) ?_
  refine p_getI 124 4 dX12_awakeLine_1 fX12_91 rfl ?_
  rw [hf0]
  refine p_if_eq 8 7 dX12_awakeLine_4 (by decide) (by decide) (fun h4 => ?_) (fun h4 => absurd (h4 rfl) (fun h9 : False => h9))
  refine p_bipush 10 dX12_awakeLine_8 rfl ?_
  refine p_iconst 11 dX12_awakeLine_10 ?_
  refine p_aload_n 12 dX12_awakeLine_11 rfl rfl (by decide) ?_
  refine p_getR 124 15 dX12_awakeLine_12 fX12_23 rfl (hB.1 (124, 16, 128) (by decide)) ?_
  refine p_iconst 16 dX12_awakeLine_15 ?_
  refine p_ialdn 128 17 (3) dX12_awakeLine_16 rfl (by omega) (by omega) ?_
  rw [hr 3 (by decide), e9c]
  refine p_imul 18 dX12_awakeLine_17 ?_
  refine p_iadd 19 dX12_awakeLine_18 ?_
  refine p_istore_n 20 dX12_awakeLine_19 rfl (Nat.le_of_ble_eq_true rfl) rfl rfl ?_
  dsimp only [List.set]
  refine p_aload_n 21 dX12_awakeLine_20 rfl rfl (by decide) ?_
  refine p_bipush 23 dX12_awakeLine_21 rfl ?_
  refine p_aload_n 24 dX12_awakeLine_23 rfl rfl (by decide) ?_
  refine p_getR 124 27 dX12_awakeLine_24 fX12_23 rfl (hB.1 (124, 16, 128) (by decide)) ?_
  refine p_iconst 28 dX12_awakeLine_27 ?_
  refine p_ialdn 128 29 (3) dX12_awakeLine_28 rfl (by omega) (by omega) ?_
  rw [hr 3 (by decide), e9c]
  refine p_iadd 30 dX12_awakeLine_29 ?_
  rw [show (7 : Int) + (q_n ρ 3 : Int) = ((7 + q_n ρ 3 : Nat) : Int) by omega]
  refine p_callV1v 124 33 dX12_awakeLine_30 (s_newNameS hn ht hp hS hP (m := (7 + q_n ρ 3)) (by omega)) lk_X12_220 mX12_newName rfl rfl (by decide) (Nat.le_of_ble_eq_true rfl) ?_
  intro M0 hX0
  rcases hX0.cases with ⟨e0, hz0, hF⟩ | ⟨p1, ρ1, hz0, hS⟩
  · refine p_aload_n 34 dX12_awakeLine_33 rfl rfl (by decide) ?_
    refine p_getR 124 37 dX12_awakeLine_34 fX12_23 rfl (hF.1 (124, 16, 128) (by decide)) ?_
    refine p_iload_n 38 dX12_awakeLine_37 rfl rfl ?_
    refine p_aload_n 39 dX12_awakeLine_38 rfl rfl (by decide) ?_
    refine p_ldcS 38 41 dX12_awakeLine_39 rfl ?_
    refine p_iconst 42 dX12_awakeLine_41 ?_
    refine p_bipush 44 dX12_awakeLine_42 rfl ?_
    refine p_callV3i 124 47 dX12_awakeLine_44 (s_afterF hF (by decide)) lk_X12_214 mX12_after rfl rfl (by decide) (Nat.le_of_ble_eq_true rfl) ?_
    rintro _ _ ⟨rfl, e9⟩
    have e9 := e9.symm
    subst e9
    refine p_iastn 128 48 (29 + 3 * q_n ρ 3) dX12_awakeLine_47 rfl (by omega) (by omega) ?_
    have hF := hF.put (k := 29 + 3 * q_n ρ 3) (v := 0)
    refine p_aload_n 49 dX12_awakeLine_48 rfl rfl (by decide) ?_
    refine p_getR 124 52 dX12_awakeLine_49 fX12_23 rfl (hF.1 (124, 16, 128) (by decide)) ?_
    refine p_iload_n 53 dX12_awakeLine_52 rfl rfl ?_
    refine p_iconst 54 dX12_awakeLine_53 ?_
    refine p_iadd 55 dX12_awakeLine_54 ?_
    refine p_aload_n 56 dX12_awakeLine_55 rfl rfl (by decide) ?_
    refine p_ldcS 40 58 dX12_awakeLine_56 rfl ?_
    refine p_iconst 59 dX12_awakeLine_58 ?_
    refine p_iconst 60 dX12_awakeLine_59 ?_
    refine p_callV3i 124 63 dX12_awakeLine_60 (s_afterF hF (by decide)) lk_X12_214 mX12_after rfl rfl (by decide) (Nat.le_of_ble_eq_true rfl) ?_
    rintro _ _ ⟨rfl, e9⟩
    have e9 := e9.symm
    subst e9
    refine p_iastn 128 64 (29 + 3 * q_n ρ 3 + 1) dX12_awakeLine_63 rfl (by omega) (by omega) ?_
    have hF := hF.put (k := 29 + 3 * q_n ρ 3 + 1) (v := 1)
    refine p_aload_n 65 dX12_awakeLine_64 rfl rfl (by decide) ?_
    refine p_getR 124 68 dX12_awakeLine_65 fX12_23 rfl (hF.1 (124, 16, 128) (by decide)) ?_
    refine p_iload_n 69 dX12_awakeLine_68 rfl rfl ?_
    refine p_iconst 70 dX12_awakeLine_69 ?_
    refine p_iadd 71 dX12_awakeLine_70 ?_
    refine p_aload_n 72 dX12_awakeLine_71 rfl rfl (by decide) ?_
    refine p_ldcS 41 74 dX12_awakeLine_72 rfl ?_
    refine p_iconst 75 dX12_awakeLine_74 ?_
    refine p_bipush 77 dX12_awakeLine_75 rfl ?_
    refine p_callV3i 124 80 dX12_awakeLine_77 (s_afterF hF (by decide)) lk_X12_214 mX12_after rfl rfl (by decide) (Nat.le_of_ble_eq_true rfl) ?_
    rintro _ _ ⟨rfl, e9⟩
    have e9 := e9.symm
    subst e9
    refine p_iastn 128 81 (29 + 3 * q_n ρ 3 + 2) dX12_awakeLine_80 rfl (by omega) (by omega) ?_
    have hF := hF.put (k := 29 + 3 * q_n ρ 3 + 2) (v := 0)
    refine p_aload_n 82 dX12_awakeLine_81 rfl rfl (by decide) ?_
    refine p_getI 124 85 dX12_awakeLine_82 fX12_91 rfl ?_
    rw [hF.2.1]
    refine p_if_ne 98 88 dX12_awakeLine_85 (by decide) (by decide) (fun h85 => ?_) (fun h85 => absurd (h85 (by decide)) (fun h9 : False => h9))
    refine p_vret dX12_awakeLine_98 rfl ?_
    exact ⟨rfl, MX.l (by simp only [q_lawake, q_bindR, hz0]) hF⟩
  · have hp := newn_le hp hz0
    have hk2 := (q_newn_inv hz0).1
    obtain ⟨-, -, hw3, -, -⟩ := q_tk_word hp0 hk2
    have hro := (q_newn_inv hz0).2.2.2
    refine p_aload_n 34 dX12_awakeLine_33 rfl rfl (by decide) ?_
    refine p_getR 124 37 dX12_awakeLine_34 fX12_23 rfl (hS.1.1 (124, 16, 128) (by decide)) ?_
    refine p_iload_n 38 dX12_awakeLine_37 rfl rfl ?_
    refine p_aload_n 39 dX12_awakeLine_38 rfl rfl (by decide) ?_
    refine p_ldcS 38 41 dX12_awakeLine_39 rfl ?_
    refine p_iconst 42 dX12_awakeLine_41 ?_
    refine p_bipush 44 dX12_awakeLine_42 rfl ?_
    refine p_callV3i 124 47 dX12_awakeLine_44 (s_afterM hn ht hp hS (i := 15) (k := 38) rfl (by decide) rfl (by omega : (0 : Int) ≤ 0 ∧ (0 : Int) ≤ 1000) (by omega : (0 : Int) ≤ 9 ∧ (9 : Int) ≤ 1000)) lk_X12_214 mX12_after rfl rfl (by decide) (Nat.le_of_ble_eq_true rfl) ?_
    intro a1 M1 hd
    rcases hd with ⟨e1, hz1, ea1, hF⟩ | ⟨p1, hp, la1, lb1, hz1, hS⟩
    · refine p_iastn 128 48 (29 + 3 * q_n ρ 3) dX12_awakeLine_47 rfl (by omega) (by omega) ?_
      have hF := hF.put (k := 29 + 3 * q_n ρ 3) (v := a1)
      refine p_aload_n 49 dX12_awakeLine_48 rfl rfl (by decide) ?_
      refine p_getR 124 52 dX12_awakeLine_49 fX12_23 rfl (hF.1 (124, 16, 128) (by decide)) ?_
      refine p_iload_n 53 dX12_awakeLine_52 rfl rfl ?_
      refine p_iconst 54 dX12_awakeLine_53 ?_
      refine p_iadd 55 dX12_awakeLine_54 ?_
      refine p_aload_n 56 dX12_awakeLine_55 rfl rfl (by decide) ?_
      refine p_ldcS 40 58 dX12_awakeLine_56 rfl ?_
      refine p_iconst 59 dX12_awakeLine_58 ?_
      refine p_iconst 60 dX12_awakeLine_59 ?_
      refine p_callV3i 124 63 dX12_awakeLine_60 (s_afterF hF (by decide)) lk_X12_214 mX12_after rfl rfl (by decide) (Nat.le_of_ble_eq_true rfl) ?_
      rintro _ _ ⟨rfl, e9⟩
      have e9 := e9.symm
      subst e9
      refine p_iastn 128 64 (29 + 3 * q_n ρ 3 + 1) dX12_awakeLine_63 rfl (by omega) (by omega) ?_
      have hF := hF.put (k := 29 + 3 * q_n ρ 3 + 1) (v := 1)
      refine p_aload_n 65 dX12_awakeLine_64 rfl rfl (by decide) ?_
      refine p_getR 124 68 dX12_awakeLine_65 fX12_23 rfl (hF.1 (124, 16, 128) (by decide)) ?_
      refine p_iload_n 69 dX12_awakeLine_68 rfl rfl ?_
      refine p_iconst 70 dX12_awakeLine_69 ?_
      refine p_iadd 71 dX12_awakeLine_70 ?_
      refine p_aload_n 72 dX12_awakeLine_71 rfl rfl (by decide) ?_
      refine p_ldcS 41 74 dX12_awakeLine_72 rfl ?_
      refine p_iconst 75 dX12_awakeLine_74 ?_
      refine p_bipush 77 dX12_awakeLine_75 rfl ?_
      refine p_callV3i 124 80 dX12_awakeLine_77 (s_afterF hF (by decide)) lk_X12_214 mX12_after rfl rfl (by decide) (Nat.le_of_ble_eq_true rfl) ?_
      rintro _ _ ⟨rfl, e9⟩
      have e9 := e9.symm
      subst e9
      refine p_iastn 128 81 (29 + 3 * q_n ρ 3 + 2) dX12_awakeLine_80 rfl (by omega) (by omega) ?_
      have hF := hF.put (k := 29 + 3 * q_n ρ 3 + 2) (v := 0)
      refine p_aload_n 82 dX12_awakeLine_81 rfl rfl (by decide) ?_
      refine p_getI 124 85 dX12_awakeLine_82 fX12_91 rfl ?_
      rw [hF.2.1]
      refine p_if_ne 98 88 dX12_awakeLine_85 (by decide) (by decide) (fun h85 => ?_) (fun h85 => absurd (h85 (by decide)) (fun h9 : False => h9))
      refine p_vret dX12_awakeLine_98 rfl ?_
      exact ⟨rfl, MX.l (by simp only [q_lawake, q_bindR, q_bindN, hz0, hz1]) hF⟩
    · refine p_iastn 128 48 (29 + 3 * q_n ρ 3) dX12_awakeLine_47 rfl (by omega) (by omega) ?_
      have hS := hS.put (k := 29 + 3 * q_n ρ 3) (v := a1)
      refine p_aload_n 49 dX12_awakeLine_48 rfl rfl (by decide) ?_
      refine p_getR 124 52 dX12_awakeLine_49 fX12_23 rfl (hS.1.1 (124, 16, 128) (by decide)) ?_
      refine p_iload_n 53 dX12_awakeLine_52 rfl rfl ?_
      refine p_iconst 54 dX12_awakeLine_53 ?_
      refine p_iadd 55 dX12_awakeLine_54 ?_
      refine p_aload_n 56 dX12_awakeLine_55 rfl rfl (by decide) ?_
      refine p_ldcS 40 58 dX12_awakeLine_56 rfl ?_
      refine p_iconst 59 dX12_awakeLine_58 ?_
      refine p_iconst 60 dX12_awakeLine_59 ?_
      refine p_callV3i 124 63 dX12_awakeLine_60 (s_afterM hn ht hp hS (i := 17) (k := 40) rfl (by decide) rfl (by omega : (0 : Int) ≤ 1 ∧ (1 : Int) ≤ 1000) (by omega : (0 : Int) ≤ 4 ∧ (4 : Int) ≤ 1000)) lk_X12_214 mX12_after rfl rfl (by decide) (Nat.le_of_ble_eq_true rfl) ?_
      intro a2 M2 hd
      rcases hd with ⟨e2, hz2, ea2, hF⟩ | ⟨p2, hp, la2, lb2, hz2, hS⟩
      · refine p_iastn 128 64 (29 + 3 * q_n ρ 3 + 1) dX12_awakeLine_63 rfl (by omega) (by omega) ?_
        have hF := hF.put (k := 29 + 3 * q_n ρ 3 + 1) (v := a2)
        refine p_aload_n 65 dX12_awakeLine_64 rfl rfl (by decide) ?_
        refine p_getR 124 68 dX12_awakeLine_65 fX12_23 rfl (hF.1 (124, 16, 128) (by decide)) ?_
        refine p_iload_n 69 dX12_awakeLine_68 rfl rfl ?_
        refine p_iconst 70 dX12_awakeLine_69 ?_
        refine p_iadd 71 dX12_awakeLine_70 ?_
        refine p_aload_n 72 dX12_awakeLine_71 rfl rfl (by decide) ?_
        refine p_ldcS 41 74 dX12_awakeLine_72 rfl ?_
        refine p_iconst 75 dX12_awakeLine_74 ?_
        refine p_bipush 77 dX12_awakeLine_75 rfl ?_
        refine p_callV3i 124 80 dX12_awakeLine_77 (s_afterF hF (by decide)) lk_X12_214 mX12_after rfl rfl (by decide) (Nat.le_of_ble_eq_true rfl) ?_
        rintro _ _ ⟨rfl, e9⟩
        have e9 := e9.symm
        subst e9
        refine p_iastn 128 81 (29 + 3 * q_n ρ 3 + 2) dX12_awakeLine_80 rfl (by omega) (by omega) ?_
        have hF := hF.put (k := 29 + 3 * q_n ρ 3 + 2) (v := 0)
        refine p_aload_n 82 dX12_awakeLine_81 rfl rfl (by decide) ?_
        refine p_getI 124 85 dX12_awakeLine_82 fX12_91 rfl ?_
        rw [hF.2.1]
        refine p_if_ne 98 88 dX12_awakeLine_85 (by decide) (by decide) (fun h85 => ?_) (fun h85 => absurd (h85 (by decide)) (fun h9 : False => h9))
        refine p_vret dX12_awakeLine_98 rfl ?_
        exact ⟨rfl, MX.l (by simp only [q_lawake, q_bindR, q_bindN, hz0, hz1, hz2]) hF⟩
      · refine p_iastn 128 64 (29 + 3 * q_n ρ 3 + 1) dX12_awakeLine_63 rfl (by omega) (by omega) ?_
        have hS := hS.put (k := 29 + 3 * q_n ρ 3 + 1) (v := a2)
        refine p_aload_n 65 dX12_awakeLine_64 rfl rfl (by decide) ?_
        refine p_getR 124 68 dX12_awakeLine_65 fX12_23 rfl (hS.1.1 (124, 16, 128) (by decide)) ?_
        refine p_iload_n 69 dX12_awakeLine_68 rfl rfl ?_
        refine p_iconst 70 dX12_awakeLine_69 ?_
        refine p_iadd 71 dX12_awakeLine_70 ?_
        refine p_aload_n 72 dX12_awakeLine_71 rfl rfl (by decide) ?_
        refine p_ldcS 41 74 dX12_awakeLine_72 rfl ?_
        refine p_iconst 75 dX12_awakeLine_74 ?_
        refine p_bipush 77 dX12_awakeLine_75 rfl ?_
        refine p_callV3i 124 80 dX12_awakeLine_77 (s_afterM hn ht hp hS (i := 18) (k := 41) rfl (by decide) rfl (by omega : (0 : Int) ≤ 0 ∧ (0 : Int) ≤ 1000) (by omega : (0 : Int) ≤ 9 ∧ (9 : Int) ≤ 1000)) lk_X12_214 mX12_after rfl rfl (by decide) (Nat.le_of_ble_eq_true rfl) ?_
        intro a3 M3 hd
        rcases hd with ⟨e3, hz3, ea3, hF⟩ | ⟨p3, hp, la3, lb3, hz3, hS⟩
        · refine p_iastn 128 81 (29 + 3 * q_n ρ 3 + 2) dX12_awakeLine_80 rfl (by omega) (by omega) ?_
          have hF := hF.put (k := 29 + 3 * q_n ρ 3 + 2) (v := a3)
          refine p_aload_n 82 dX12_awakeLine_81 rfl rfl (by decide) ?_
          refine p_getI 124 85 dX12_awakeLine_82 fX12_91 rfl ?_
          rw [hF.2.1]
          refine p_if_ne 98 88 dX12_awakeLine_85 (by decide) (by decide) (fun h85 => ?_) (fun h85 => absurd (h85 (by decide)) (fun h9 : False => h9))
          refine p_vret dX12_awakeLine_98 rfl ?_
          exact ⟨rfl, MX.l (by simp only [q_lawake, q_bindR, q_bindN, hz0, hz1, hz2, hz3]) hF⟩
        · refine p_iastn 128 81 (29 + 3 * q_n ρ 3 + 2) dX12_awakeLine_80 rfl (by omega) (by omega) ?_
          have hS := hS.put (k := 29 + 3 * q_n ρ 3 + 2) (v := a3)
          refine p_aload_n 82 dX12_awakeLine_81 rfl rfl (by decide) ?_
          refine p_getI 124 85 dX12_awakeLine_82 fX12_91 rfl ?_
          rw [hS.2.2.1]
          refine p_if_ne 98 88 dX12_awakeLine_85 (by decide) (by decide) (fun h85 => absurd (absurd rfl h85) (fun h9 : False => h9)) (fun h85 => ?_)
          refine p_aload_n 89 dX12_awakeLine_88 rfl rfl (by decide) ?_
          refine p_getR 124 92 dX12_awakeLine_89 fX12_23 rfl (hS.1.1 (124, 16, 128) (by decide)) ?_
          refine p_iconst 93 dX12_awakeLine_92 ?_
          refine p_dup2 94 dX12_awakeLine_93 ?_
          refine p_ialdn 128 95 (3) dX12_awakeLine_94 rfl (by omega) (by omega) ?_
          rw [hS.2.2.2.1 3 (by decide)]
          rw [show (q_up (q_up (q_up (ρ1) (29 + 3 * q_n ρ 3) a1) (29 + 3 * q_n ρ 3 + 1) a2) (29 + 3 * q_n ρ 3 + 2) a3) 3 = ρ 3 by rw [q_up_ne (by omega), q_up_ne (by omega), q_up_ne (by omega), hro, q_nm_ne hw3 (by omega) (by omega)]]
          refine p_iconst 96 dX12_awakeLine_95 ?_
          refine p_iadd 97 dX12_awakeLine_96 ?_
          refine p_iastn 128 98 (3) dX12_awakeLine_97 rfl (by omega) (by omega) ?_
          have hS := hS.put (k := 3) (v := ρ 3 + 1)
          refine p_vret dX12_awakeLine_98 rfl ?_
          exact ⟨rfl, MX.r (by simp only [q_lawake, q_bindR, q_bindN, hz0, hz1, hz2, hz3]) hS⟩
theorem s_awakeLineF {l : Launch} {X : ZX} {M : ZM} {e : Int × Int} {N : ZM} (hS : MF e N M) : zCv l X 9 yX12_awakeLine tX12_awakeLine [zr 124] M (fun M' => M' = M) := by
  refine zC.of [some (zr 124), none] (by decide +kernel) rfl rfl (Nat.le_of_ble_eq_true rfl) rfl ?_
  refine p_aload_n 1 dX12_awakeLine_0 rfl rfl (by decide) ?_
  refine p_getI 124 4 dX12_awakeLine_1 fX12_91 rfl ?_
  rw [hS.2.1]
  refine p_if_eq 8 7 dX12_awakeLine_4 (by decide) (by decide) (fun h4 => absurd (absurd h4 (by decide)) (fun h9 : False => h9)) (fun h4 => ?_)
  refine p_vret dX12_awakeLine_7 rfl ?_
  exact ⟨rfl, rfl⟩
theorem s_wordLineS {l : Launch} {X : ZX} {M : ZM} {t : Nat → Int} {n p : Nat} {ρ : Nat → Int} {N : ZM} (hn : n ≤ 900) (ht : ∀ i, i < n → 0 ≤ t i ∧ t i < 256) (hp : p ≤ n) (hS : MS t n p ρ N M) (hP : PI ρ) (hro : ρ 4 < 7) : zCv l X 9 yX12_wordLine tX12_wordLine [zr 124] M (fun M' => MX t n (q_lword t n p ρ) N M') := by
  obtain ⟨hB, hT, hf0, hr, hfa, hfk⟩ := id hS
  obtain ⟨t4, t5, t6, t8, t7⟩ := id hT
  have hal := q_at_le t hp
  have hel := q_en_le t hp
  have htk := q_tk_cases t n p
  have hp0 := hp
  have hS0 := hS
  have hnn : nn ρ := hP.1.1
  have e9c := q_n_i hnn (i := 4) (by decide)
  refine zC.of [some (zr 124), none] (by decide +kernel) rfl rfl (Nat.le_of_ble_eq_true rfl) rfl ?_
  refine p_aload_n 1 dX12_wordLine_0 rfl rfl (by decide) ?_
  refine p_getI 124 4 dX12_wordLine_1 fX12_91 rfl ?_
  rw [hf0]
  refine p_if_eq 8 7 dX12_wordLine_4 (by decide) (by decide) (fun h4 => ?_) (fun h4 => absurd (h4 rfl) (fun h9 : False => h9))
  refine p_bipush 10 dX12_wordLine_8 rfl ?_
  refine p_iconst 11 dX12_wordLine_10 ?_
  refine p_aload_n 12 dX12_wordLine_11 rfl rfl (by decide) ?_
  refine p_getR 124 15 dX12_wordLine_12 fX12_23 rfl (hB.1 (124, 16, 128) (by decide)) ?_
  refine p_iconst 16 dX12_wordLine_15 ?_
  refine p_ialdn 128 17 (4) dX12_wordLine_16 rfl (by omega) (by omega) ?_
  rw [hr 4 (by decide), e9c]
  refine p_imul 18 dX12_wordLine_17 ?_
  refine p_iadd 19 dX12_wordLine_18 ?_
  refine p_istore_n 20 dX12_wordLine_19 rfl (Nat.le_of_ble_eq_true rfl) rfl rfl ?_
  dsimp only [List.set]
  refine p_aload_n 21 dX12_wordLine_20 rfl rfl (by decide) ?_
  refine p_bipush 23 dX12_wordLine_21 rfl ?_
  refine p_aload_n 24 dX12_wordLine_23 rfl rfl (by decide) ?_
  refine p_getR 124 27 dX12_wordLine_24 fX12_23 rfl (hB.1 (124, 16, 128) (by decide)) ?_
  refine p_iconst 28 dX12_wordLine_27 ?_
  refine p_ialdn 128 29 (4) dX12_wordLine_28 rfl (by omega) (by omega) ?_
  rw [hr 4 (by decide), e9c]
  refine p_iadd 30 dX12_wordLine_29 ?_
  rw [show (10 : Int) + (q_n ρ 4 : Int) = ((10 + q_n ρ 4 : Nat) : Int) by omega]
  refine p_callV1v 124 33 dX12_wordLine_30 (s_newNameS hn ht hp hS hP (m := (10 + q_n ρ 4)) (by omega)) lk_X12_220 mX12_newName rfl rfl (by decide) (Nat.le_of_ble_eq_true rfl) ?_
  intro M0 hX0
  rcases hX0.cases with ⟨e0, hz0, hF⟩ | ⟨p1, ρ1, hz0, hS⟩
  · refine p_aload_n 34 dX12_wordLine_33 rfl rfl (by decide) ?_
    refine p_getR 124 37 dX12_wordLine_34 fX12_23 rfl (hF.1 (124, 16, 128) (by decide)) ?_
    refine p_iload_n 38 dX12_wordLine_37 rfl rfl ?_
    refine p_aload_n 39 dX12_wordLine_38 rfl rfl (by decide) ?_
    refine p_ldcS 42 41 dX12_wordLine_39 rfl ?_
    refine p_iconst 42 dX12_wordLine_41 ?_
    refine p_bipush 44 dX12_wordLine_42 rfl ?_
    refine p_callV3i 124 47 dX12_wordLine_44 (s_afterF hF (by decide)) lk_X12_214 mX12_after rfl rfl (by decide) (Nat.le_of_ble_eq_true rfl) ?_
    rintro _ _ ⟨rfl, e9⟩
    have e9 := e9.symm
    subst e9
    refine p_iastn 128 48 (38 + 3 * q_n ρ 4) dX12_wordLine_47 rfl (by omega) (by omega) ?_
    have hF := hF.put (k := 38 + 3 * q_n ρ 4) (v := 1)
    refine p_aload_n 49 dX12_wordLine_48 rfl rfl (by decide) ?_
    refine p_getR 124 52 dX12_wordLine_49 fX12_23 rfl (hF.1 (124, 16, 128) (by decide)) ?_
    refine p_iload_n 53 dX12_wordLine_52 rfl rfl ?_
    refine p_iconst 54 dX12_wordLine_53 ?_
    refine p_iadd 55 dX12_wordLine_54 ?_
    refine p_aload_n 56 dX12_wordLine_55 rfl rfl (by decide) ?_
    refine p_ldcS 43 58 dX12_wordLine_56 rfl ?_
    refine p_iconst 59 dX12_wordLine_58 ?_
    refine p_bipush 61 dX12_wordLine_59 rfl ?_
    refine p_callV3i 124 64 dX12_wordLine_61 (s_afterF hF (by decide)) lk_X12_214 mX12_after rfl rfl (by decide) (Nat.le_of_ble_eq_true rfl) ?_
    rintro _ _ ⟨rfl, e9⟩
    have e9 := e9.symm
    subst e9
    refine p_iastn 128 65 (38 + 3 * q_n ρ 4 + 1) dX12_wordLine_64 rfl (by omega) (by omega) ?_
    have hF := hF.put (k := 38 + 3 * q_n ρ 4 + 1) (v := 1)
    refine p_aload_n 66 dX12_wordLine_65 rfl rfl (by decide) ?_
    refine p_getI 124 69 dX12_wordLine_66 fX12_91 rfl ?_
    rw [hF.2.1]
    refine p_if_ne 82 72 dX12_wordLine_69 (by decide) (by decide) (fun h69 => ?_) (fun h69 => absurd (h69 (by decide)) (fun h9 : False => h9))
    refine p_vret dX12_wordLine_82 rfl ?_
    exact ⟨rfl, MX.l (by simp only [q_lword, q_bindR, hz0]) hF⟩
  · have hp := newn_le hp hz0
    have hk2 := (q_newn_inv hz0).1
    obtain ⟨-, -, hw3, -, -⟩ := q_tk_word hp0 hk2
    have hro := (q_newn_inv hz0).2.2.2
    refine p_aload_n 34 dX12_wordLine_33 rfl rfl (by decide) ?_
    refine p_getR 124 37 dX12_wordLine_34 fX12_23 rfl (hS.1.1 (124, 16, 128) (by decide)) ?_
    refine p_iload_n 38 dX12_wordLine_37 rfl rfl ?_
    refine p_aload_n 39 dX12_wordLine_38 rfl rfl (by decide) ?_
    refine p_ldcS 42 41 dX12_wordLine_39 rfl ?_
    refine p_iconst 42 dX12_wordLine_41 ?_
    refine p_bipush 44 dX12_wordLine_42 rfl ?_
    refine p_callV3i 124 47 dX12_wordLine_44 (s_afterM hn ht hp hS (i := 19) (k := 42) rfl (by decide) rfl (by omega : (0 : Int) ≤ 1 ∧ (1 : Int) ≤ 1000) (by omega : (0 : Int) ≤ 99 ∧ (99 : Int) ≤ 1000)) lk_X12_214 mX12_after rfl rfl (by decide) (Nat.le_of_ble_eq_true rfl) ?_
    intro a1 M1 hd
    rcases hd with ⟨e1, hz1, ea1, hF⟩ | ⟨p1, hp, la1, lb1, hz1, hS⟩
    · refine p_iastn 128 48 (38 + 3 * q_n ρ 4) dX12_wordLine_47 rfl (by omega) (by omega) ?_
      have hF := hF.put (k := 38 + 3 * q_n ρ 4) (v := a1)
      refine p_aload_n 49 dX12_wordLine_48 rfl rfl (by decide) ?_
      refine p_getR 124 52 dX12_wordLine_49 fX12_23 rfl (hF.1 (124, 16, 128) (by decide)) ?_
      refine p_iload_n 53 dX12_wordLine_52 rfl rfl ?_
      refine p_iconst 54 dX12_wordLine_53 ?_
      refine p_iadd 55 dX12_wordLine_54 ?_
      refine p_aload_n 56 dX12_wordLine_55 rfl rfl (by decide) ?_
      refine p_ldcS 43 58 dX12_wordLine_56 rfl ?_
      refine p_iconst 59 dX12_wordLine_58 ?_
      refine p_bipush 61 dX12_wordLine_59 rfl ?_
      refine p_callV3i 124 64 dX12_wordLine_61 (s_afterF hF (by decide)) lk_X12_214 mX12_after rfl rfl (by decide) (Nat.le_of_ble_eq_true rfl) ?_
      rintro _ _ ⟨rfl, e9⟩
      have e9 := e9.symm
      subst e9
      refine p_iastn 128 65 (38 + 3 * q_n ρ 4 + 1) dX12_wordLine_64 rfl (by omega) (by omega) ?_
      have hF := hF.put (k := 38 + 3 * q_n ρ 4 + 1) (v := 1)
      refine p_aload_n 66 dX12_wordLine_65 rfl rfl (by decide) ?_
      refine p_getI 124 69 dX12_wordLine_66 fX12_91 rfl ?_
      rw [hF.2.1]
      refine p_if_ne 82 72 dX12_wordLine_69 (by decide) (by decide) (fun h69 => ?_) (fun h69 => absurd (h69 (by decide)) (fun h9 : False => h9))
      refine p_vret dX12_wordLine_82 rfl ?_
      exact ⟨rfl, MX.l (by simp only [q_lword, q_bindR, q_bindN, hz0, hz1]) hF⟩
    · refine p_iastn 128 48 (38 + 3 * q_n ρ 4) dX12_wordLine_47 rfl (by omega) (by omega) ?_
      have hS := hS.put (k := 38 + 3 * q_n ρ 4) (v := a1)
      refine p_aload_n 49 dX12_wordLine_48 rfl rfl (by decide) ?_
      refine p_getR 124 52 dX12_wordLine_49 fX12_23 rfl (hS.1.1 (124, 16, 128) (by decide)) ?_
      refine p_iload_n 53 dX12_wordLine_52 rfl rfl ?_
      refine p_iconst 54 dX12_wordLine_53 ?_
      refine p_iadd 55 dX12_wordLine_54 ?_
      refine p_aload_n 56 dX12_wordLine_55 rfl rfl (by decide) ?_
      refine p_ldcS 43 58 dX12_wordLine_56 rfl ?_
      refine p_iconst 59 dX12_wordLine_58 ?_
      refine p_bipush 61 dX12_wordLine_59 rfl ?_
      refine p_callV3i 124 64 dX12_wordLine_61 (s_afterM hn ht hp hS (i := 20) (k := 43) rfl (by decide) rfl (by omega : (0 : Int) ≤ 1 ∧ (1 : Int) ≤ 1000) (by omega : (0 : Int) ≤ 30 ∧ (30 : Int) ≤ 1000)) lk_X12_214 mX12_after rfl rfl (by decide) (Nat.le_of_ble_eq_true rfl) ?_
      intro a2 M2 hd
      rcases hd with ⟨e2, hz2, ea2, hF⟩ | ⟨p2, hp, la2, lb2, hz2, hS⟩
      · refine p_iastn 128 65 (38 + 3 * q_n ρ 4 + 1) dX12_wordLine_64 rfl (by omega) (by omega) ?_
        have hF := hF.put (k := 38 + 3 * q_n ρ 4 + 1) (v := a2)
        refine p_aload_n 66 dX12_wordLine_65 rfl rfl (by decide) ?_
        refine p_getI 124 69 dX12_wordLine_66 fX12_91 rfl ?_
        rw [hF.2.1]
        refine p_if_ne 82 72 dX12_wordLine_69 (by decide) (by decide) (fun h69 => ?_) (fun h69 => absurd (h69 (by decide)) (fun h9 : False => h9))
        refine p_vret dX12_wordLine_82 rfl ?_
        exact ⟨rfl, MX.l (by simp only [q_lword, q_bindR, q_bindN, hz0, hz1, hz2]) hF⟩
      · refine p_iastn 128 65 (38 + 3 * q_n ρ 4 + 1) dX12_wordLine_64 rfl (by omega) (by omega) ?_
        have hS := hS.put (k := 38 + 3 * q_n ρ 4 + 1) (v := a2)
        refine p_aload_n 66 dX12_wordLine_65 rfl rfl (by decide) ?_
        refine p_getI 124 69 dX12_wordLine_66 fX12_91 rfl ?_
        rw [hS.2.2.1]
        refine p_if_ne 82 72 dX12_wordLine_69 (by decide) (by decide) (fun h69 => absurd (absurd rfl h69) (fun h9 : False => h9)) (fun h69 => ?_)
        refine p_aload_n 73 dX12_wordLine_72 rfl rfl (by decide) ?_
        refine p_getR 124 76 dX12_wordLine_73 fX12_23 rfl (hS.1.1 (124, 16, 128) (by decide)) ?_
        refine p_iconst 77 dX12_wordLine_76 ?_
        refine p_dup2 78 dX12_wordLine_77 ?_
        refine p_ialdn 128 79 (4) dX12_wordLine_78 rfl (by omega) (by omega) ?_
        rw [hS.2.2.2.1 4 (by decide)]
        rw [show (q_up (q_up (ρ1) (38 + 3 * q_n ρ 4) a1) (38 + 3 * q_n ρ 4 + 1) a2) 4 = ρ 4 by rw [q_up_ne (by omega), q_up_ne (by omega), hro, q_nm_ne hw3 (by omega) (by omega)]]
        refine p_iconst 80 dX12_wordLine_79 ?_
        refine p_iadd 81 dX12_wordLine_80 ?_
        refine p_iastn 128 82 (4) dX12_wordLine_81 rfl (by omega) (by omega) ?_
        have hS := hS.put (k := 4) (v := ρ 4 + 1)
        refine p_vret dX12_wordLine_82 rfl ?_
        exact ⟨rfl, MX.r (by simp only [q_lword, q_bindR, q_bindN, hz0, hz1, hz2]) hS⟩
theorem s_wordLineF {l : Launch} {X : ZX} {M : ZM} {e : Int × Int} {N : ZM} (hS : MF e N M) : zCv l X 9 yX12_wordLine tX12_wordLine [zr 124] M (fun M' => M' = M) := by
  refine zC.of [some (zr 124), none] (by decide +kernel) rfl rfl (Nat.le_of_ble_eq_true rfl) rfl ?_
  refine p_aload_n 1 dX12_wordLine_0 rfl rfl (by decide) ?_
  refine p_getI 124 4 dX12_wordLine_1 fX12_91 rfl ?_
  rw [hS.2.1]
  refine p_if_eq 8 7 dX12_wordLine_4 (by decide) (by decide) (fun h4 => absurd (absurd h4 (by decide)) (fun h9 : False => h9)) (fun h4 => ?_)
  refine p_vret dX12_wordLine_7 rfl ?_
  exact ⟨rfl, rfl⟩
