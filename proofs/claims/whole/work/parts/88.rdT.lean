/-! THE READER, the model's: numbers, letters laid, names -/
/-- reading or failed, as a result says -/
def MX (t : Nat → Int) (n : Nat) (r : PR) (N M : ZM) : Prop := match r with
  | .inl e => MF e N M
  | .inr q => MS t n q.1 q.2 N M
theorem MX.l {t : Nat → Int} {n : Nat} {r : PR} {N M : ZM} {e : Int × Int} (hz : r = .inl e) (h : MF e N M) : MX t n r N M := by
  rw [hz]; exact h
theorem MX.r {t : Nat → Int} {n p : Nat} {ρ : Nat → Int} {r : PR} {N M : ZM} (hz : r = .inr (p, ρ)) (h : MS t n p ρ N M) : MX t n r N M := by
  rw [hz]; exact h
theorem zwm128 : ∀ q ∈ zwM, q.1 ≠ 128 := by decide +kernel
theorem zWm.put {M : ZM} {k : Nat} {v : Int} (h : zWm M) : zWm (zset M 128 k v) := by
  intro q hq
  rw [zset_ne _ (zwm128 q hq)]
  exact h q hq
/-- a number is laid into the row -/
theorem MS.put {t : Nat → Int} {n p : Nat} {ρ : Nat → Int} {N M : ZM} (h : MS t n p ρ N M) {k : Nat} {v : Int} : MS t n p (q_up ρ k v) N (zset M 128 k v) := by
  obtain ⟨⟨b1, b2, b3⟩, hT, h0, hr, h1, h2⟩ := h
  have e : ∀ a, a ≠ 128 → zset M 128 k v a = M a := fun a ha => zset_ne M ha
  refine ⟨⟨b1.put, by rw [e 124 (by decide)]; exact b2, by rw [e 125 (by decide)]; exact b3⟩, ?_, by rw [e 124 (by decide)]; exact h0, fun i hi => ?_, fun a g1 g2 g3 => (e a g3).trans (h1 a g1 g2 g3), by rw [e 124 (by decide)]; exact h2⟩
  · unfold TM
    rw [e 124 (by decide), e 126 (by decide)]
    exact hT
  · rw [zset_row]
    show (if i = k then v else M 128 i) = (if i = k then v else ρ i)
    rw [hr i hi]
theorem MF.put {e : Int × Int} {N M : ZM} (h : MF e N M) {k : Nat} {v : Int} : MF e N (zset M 128 k v) := by
  obtain ⟨h1, h2, h3, h4, h5, h6, h7⟩ := h
  have e9 : zset M 128 k v 124 = M 124 := zset_ne M (by decide)
  unfold MF
  rw [e9]
  exact ⟨h1.put, h2, h3, h4, h5, fun a g1 g2 g3 => (zset_ne M g3).trans (h6 a g1 g2 g3), h7⟩
theorem MS.row {t : Nat → Int} {n p : Nat} {ρ ρ' : Nat → Int} {N M : ZM} (h : MS t n p ρ N M) (e : ∀ i, i < 421 → ρ' i = ρ i) : MS t n p ρ' N M :=
  ⟨h.1, h.2.1, h.2.2.1, fun i hi => (h.2.2.2.1 i hi).trans (e i hi).symm, h.2.2.2.2⟩
theorem q_num_w {t : Nat → Int} {n p : Nat} {lo hi : Int} (h : q_tk t n p ≠ 3) : q_num t n p lo hi = .inl (1, (q_at t n p : Int)) := if_pos h
theorem q_num_y {t : Nat → Int} {n p : Nat} {lo hi : Int} (h : q_tk t n p = 3) (g : lo ≤ q_nb t n p ∧ q_nb t n p ≤ hi) : q_num t n p lo hi = .inr (q_en t n p, q_nb t n p) := by
  unfold q_num
  rw [if_neg (fun k => k h), if_pos g]
theorem q_num_n {t : Nat → Int} {n p : Nat} {lo hi : Int} (h : q_tk t n p = 3) (g : ¬ (lo ≤ q_nb t n p ∧ q_nb t n p ≤ hi)) : q_num t n p lo hi = .inl (4, (q_at t n p : Int)) := by
  unfold q_num
  rw [if_neg (fun k => k h), if_neg g]
theorem s_numberHereS {l : Launch} {X : ZX} {M : ZM} {t : Nat → Int} {n p : Nat} {ρ : Nat → Int} {N : ZM} (hn : n ≤ 900) (ht : ∀ i, i < n → 0 ≤ t i ∧ t i < 256) (hp : p ≤ n) (hS : MS t n p ρ N M) {lo hi : Int} (hlo : 0 ≤ lo ∧ lo ≤ 1000) (hhi : 0 ≤ hi ∧ hi ≤ 1000) : zCi l X 1 yX12_numberHere tX12_numberHere [zr 124, zi lo, zi hi] M (fun a M' => (∃ e, q_num t n p lo hi = .inl e ∧ a = lo ∧ MF e N M') ∨ (q_num t n p lo hi = .inr (q_en t n p, q_nb t n p) ∧ a = q_nb t n p ∧ M' = M)) := by
  obtain ⟨hB, hT, hf0, hr, hfa, hfk⟩ := id hS
  obtain ⟨t4, t5, t6, t8, t7⟩ := id hT
  have hal := q_at_le t hp
  have hel := q_en_le t hp
  have htk := q_tk_cases t n p
  refine zC.of [some (zr 124), some (zi lo), some (zi hi)] (by decide +kernel) rfl rfl (Nat.le_of_ble_eq_true rfl) rfl ?_
  refine p_aload_n 1 dX12_numberHere_0 rfl rfl (by decide) ?_
  refine p_getI 124 4 dX12_numberHere_1 fX12_91 rfl ?_
  rw [hf0]
  refine p_if_eq 9 7 dX12_numberHere_4 (by decide) (by decide) (fun h4 => ?_) (fun h4 => absurd (h4 rfl) (fun h9 : False => h9))
  refine p_aload_n 10 dX12_numberHere_9 rfl rfl (by decide) ?_
  refine p_getI 124 13 dX12_numberHere_10 fX12_81 rfl ?_
  rw [t6]
  refine p_iconst 14 dX12_numberHere_13 ?_
  refine p_icmp_eq 29 17 dX12_numberHere_14 (by omega) (by omega) (by decide) (by decide) (fun h14 => ?_) (fun h14 => ?_)
  · have hk3 : q_tk t n p = 3 := by omega
    have hnb := q_nb_bd hp hk3
    refine p_aload_n 30 dX12_numberHere_29 rfl rfl (by decide) ?_
    refine p_getI 124 33 dX12_numberHere_30 fX12_78 rfl ?_
    rw [t7 hk3]
    refine p_iload_n 34 dX12_numberHere_33 rfl rfl ?_
    refine p_iload_n 35 dX12_numberHere_34 rfl rfl ?_
    refine p_callS3i 38 dX12_numberHere_35 (s_in (by omega) (by omega) (by omega) (by omega) (by omega) (by omega)) lk_X12_146 mX12_in (by decide) (Nat.le_of_ble_eq_true rfl) ?_
    rintro _ _ ⟨rfl, e9⟩
    have e9 := e9.symm
    subst e9
    refine p_if_ne 50 41 dX12_numberHere_38 (by split <;> omega) (by split <;> omega) (fun h38 => ?_) (fun h38 => ?_)
    · have hz := q_num_y hk3 (if_ne0 h38)
      refine p_aload_n 51 dX12_numberHere_50 rfl rfl (by decide) ?_
      refine p_getI 124 54 dX12_numberHere_51 fX12_91 rfl ?_
      rw [hf0]
      refine p_if_eq 61 57 dX12_numberHere_54 (by decide) (by decide) (fun h54 => ?_) (fun h54 => absurd (h54 rfl) (fun h9 : False => h9))
      refine p_aload_n 62 dX12_numberHere_61 rfl rfl (by decide) ?_
      refine p_getI 124 65 dX12_numberHere_62 fX12_78 rfl ?_
      rw [t7 hk3]
      refine p_iret dX12_numberHere_65 rfl ?_
      exact ⟨_, rfl, Or.inr ⟨hz, rfl, rfl⟩⟩
    · have hz := q_num_n hk3 (if_nne0 h38)
      refine p_aload_n 42 dX12_numberHere_41 rfl rfl (by decide) ?_
      refine p_iconst 43 dX12_numberHere_42 ?_
      refine p_aload_n 44 dX12_numberHere_43 rfl rfl (by decide) ?_
      refine p_getI 124 47 dX12_numberHere_44 fX12_72 rfl ?_
      rw [t4]
      refine p_callV2v 124 50 dX12_numberHere_47 (s_wrongS hn hp hS) lk_X12_118 mX12_wrong rfl rfl (by decide) (Nat.le_of_ble_eq_true rfl) ?_
      intro M9 hF9
      refine p_aload_n 51 dX12_numberHere_50 rfl rfl (by decide) ?_
      refine p_getI 124 54 dX12_numberHere_51 fX12_91 rfl ?_
      rw [hF9.2.1]
      refine p_if_eq 61 57 dX12_numberHere_54 (by decide) (by decide) (fun h54 => absurd (absurd h54 (by decide)) (fun h9 : False => h9)) (fun h54 => ?_)
      refine p_iload_n 58 dX12_numberHere_57 rfl rfl ?_
      refine p_goto 65 dX12_numberHere_58 ?_
      refine p_iret dX12_numberHere_65 rfl ?_
      exact ⟨_, rfl, Or.inl ⟨_, hz, rfl, hF9⟩⟩
  · have hz := q_num_w (t := t) (n := n) (p := p) (lo := lo) (hi := hi) (by omega)
    refine p_aload_n 18 dX12_numberHere_17 rfl rfl (by decide) ?_
    refine p_iconst 19 dX12_numberHere_18 ?_
    refine p_aload_n 20 dX12_numberHere_19 rfl rfl (by decide) ?_
    refine p_getI 124 23 dX12_numberHere_20 fX12_72 rfl ?_
    rw [t4]
    refine p_callV2v 124 26 dX12_numberHere_23 (s_wrongS hn hp hS) lk_X12_118 mX12_wrong rfl rfl (by decide) (Nat.le_of_ble_eq_true rfl) ?_
    intro M9 hF9
    refine p_goto 50 dX12_numberHere_26 ?_
    refine p_aload_n 51 dX12_numberHere_50 rfl rfl (by decide) ?_
    refine p_getI 124 54 dX12_numberHere_51 fX12_91 rfl ?_
    rw [hF9.2.1]
    refine p_if_eq 61 57 dX12_numberHere_54 (by decide) (by decide) (fun h54 => absurd (absurd h54 (by decide)) (fun h9 : False => h9)) (fun h54 => ?_)
    refine p_iload_n 58 dX12_numberHere_57 rfl rfl ?_
    refine p_goto 65 dX12_numberHere_58 ?_
    refine p_iret dX12_numberHere_65 rfl ?_
    exact ⟨_, rfl, Or.inl ⟨_, hz, rfl, hF9⟩⟩
theorem s_numberHereF {l : Launch} {X : ZX} {M : ZM} {e : Int × Int} {N : ZM} (hS : MF e N M) {lo hi : Int} : zCi l X 1 yX12_numberHere tX12_numberHere [zr 124, zi lo, zi hi] M (fun a M' => a = lo ∧ M' = M) := by
  refine zC.of [some (zr 124), some (zi lo), some (zi hi)] (by decide +kernel) rfl rfl (Nat.le_of_ble_eq_true rfl) rfl ?_
  refine p_aload_n 1 dX12_numberHere_0 rfl rfl (by decide) ?_
  refine p_getI 124 4 dX12_numberHere_1 fX12_91 rfl ?_
  rw [hS.2.1]
  refine p_if_eq 9 7 dX12_numberHere_4 (by decide) (by decide) (fun h4 => absurd (absurd h4 (by decide)) (fun h9 : False => h9)) (fun h4 => ?_)
  refine p_iload_n 8 dX12_numberHere_7 rfl rfl ?_
  refine p_iret dX12_numberHere_8 rfl ?_
  exact ⟨_, rfl, rfl, rfl⟩
theorem s_numberS {l : Launch} {X : ZX} {M : ZM} {t : Nat → Int} {n p : Nat} {ρ : Nat → Int} {N : ZM} (hn : n ≤ 900) (ht : ∀ i, i < n → 0 ≤ t i ∧ t i < 256) (hp : p ≤ n) (hS : MS t n p ρ N M) {lo hi : Int} (hlo : 0 ≤ lo ∧ lo ≤ 1000) (hhi : 0 ≤ hi ∧ hi ≤ 1000) : zCi l X 2 yX12_number tX12_number [zr 124, zi lo, zi hi] M (fun a M' => (∃ e, q_num t n p lo hi = .inl e ∧ a = lo ∧ MF e N M') ∨ (q_num t n p lo hi = .inr (q_en t n p, q_nb t n p) ∧ a = q_nb t n p ∧ MS t n (q_en t n p) ρ N M')) := by
  refine zC.of [some (zr 124), some (zi lo), some (zi hi), none] (by decide +kernel) rfl rfl (Nat.le_of_ble_eq_true rfl) rfl ?_
  refine p_aload_n 1 dX12_number_0 rfl rfl (by decide) ?_
  refine p_iload_n 2 dX12_number_1 rfl rfl ?_
  refine p_iload_n 3 dX12_number_2 rfl rfl ?_
  refine p_callV2i 124 6 dX12_number_3 (s_numberHereS hn ht hp hS hlo hhi) lk_X12_150 mX12_numberHere rfl rfl (by decide) (Nat.le_of_ble_eq_true rfl) ?_
  intro a1 M1 hd
  rcases hd with ⟨e9, hz, ea, hF9⟩ | ⟨hz, ea, em⟩
  · refine p_istore_n 7 dX12_number_6 rfl (Nat.le_of_ble_eq_true rfl) rfl rfl ?_
    dsimp only [List.set]
    refine p_aload_n 8 dX12_number_7 rfl rfl (by decide) ?_
    refine p_getI 124 11 dX12_number_8 fX12_91 rfl ?_
    rw [hF9.2.1]
    refine p_if_ne 18 14 dX12_number_11 (by decide) (by decide) (fun h11 => ?_) (fun h11 => absurd (h11 (by decide)) (fun h9 : False => h9))
    refine p_iload_n 19 dX12_number_18 rfl rfl ?_
    refine p_iret dX12_number_19 rfl ?_
    exact ⟨_, rfl, Or.inl ⟨_, hz, ea, hF9⟩⟩
  · have em := em.symm
    subst em
    refine p_istore_n 7 dX12_number_6 rfl (Nat.le_of_ble_eq_true rfl) rfl rfl ?_
    dsimp only [List.set]
    refine p_aload_n 8 dX12_number_7 rfl rfl (by decide) ?_
    refine p_getI 124 11 dX12_number_8 fX12_91 rfl ?_
    rw [hS.2.2.1]
    refine p_if_ne 18 14 dX12_number_11 (by decide) (by decide) (fun h11 => absurd (absurd rfl h11) (fun h9 : False => h9)) (fun h11 => ?_)
    refine p_aload_n 15 dX12_number_14 rfl rfl (by decide) ?_
    refine p_callV0v 124 18 dX12_number_15 (s_goOn hn ht hS.1 (p := q_en t n p) (q_en_n t hp) hS.2.1.2.1) lk_X12_112 mX12_goOn rfl rfl (by decide) (Nat.le_of_ble_eq_true rfl) ?_
    rintro M9 ⟨kk9, hT9⟩
    have hS9 := hS.adv kk9 hT9
    refine p_iload_n 19 dX12_number_18 rfl rfl ?_
    refine p_iret dX12_number_19 rfl ?_
    exact ⟨_, rfl, Or.inr ⟨hz, ea, hS9⟩⟩
theorem s_numberF {l : Launch} {X : ZX} {M : ZM} {e : Int × Int} {N : ZM} (hS : MF e N M) {lo hi : Int} : zCi l X 2 yX12_number tX12_number [zr 124, zi lo, zi hi] M (fun a M' => a = lo ∧ M' = M) := by
  refine zC.of [some (zr 124), some (zi lo), some (zi hi), none] (by decide +kernel) rfl rfl (Nat.le_of_ble_eq_true rfl) rfl ?_
  refine p_aload_n 1 dX12_number_0 rfl rfl (by decide) ?_
  refine p_iload_n 2 dX12_number_1 rfl rfl ?_
  refine p_iload_n 3 dX12_number_2 rfl rfl ?_
  refine p_callV2i 124 6 dX12_number_3 (s_numberHereF hS) lk_X12_150 mX12_numberHere rfl rfl (by decide) (Nat.le_of_ble_eq_true rfl) ?_
  rintro _ _ ⟨rfl, e9⟩
  have e9 := e9.symm
  subst e9
  refine p_istore_n 7 dX12_number_6 rfl (Nat.le_of_ble_eq_true rfl) rfl rfl ?_
  dsimp only [List.set]
  refine p_aload_n 8 dX12_number_7 rfl rfl (by decide) ?_
  refine p_getI 124 11 dX12_number_8 fX12_91 rfl ?_
  rw [hS.2.1]
  refine p_if_ne 18 14 dX12_number_11 (by decide) (by decide) (fun h11 => ?_) (fun h11 => absurd (h11 (by decide)) (fun h9 : False => h9))
  refine p_iload_n 19 dX12_number_18 rfl rfl ?_
  refine p_iret dX12_number_19 rfl ?_
  exact ⟨_, rfl, rfl, rfl⟩
theorem q_aft_y {t : Nat → Int} {n p i : Nat} {lo hi : Int} (h : q_is t n p i = true) : q_aft t n p i lo hi = q_num t n (q_en t n p) lo hi := if_pos h
theorem q_aft_n {t : Nat → Int} {n p i : Nat} {lo hi : Int} (h : ¬ q_is t n p i = true) : q_aft t n p i lo hi = .inl (1, (q_at t n p : Int)) := if_neg h
theorem s_afterS {l : Launch} {X : ZX} {M : ZM} {t : Nat → Int} {n p : Nat} {ρ : Nat → Int} {N : ZM} (hn : n ≤ 900) (ht : ∀ i, i < n → 0 ≤ t i ∧ t i < 256) (hp : p ≤ n) (hS : MS t n p ρ N M) {i : Nat} {q0 : String × Nat × String} (hq : zstr[i]? = some q0) (hi45 : i < 45) {lo hi : Int} (hlo : 0 ≤ lo ∧ lo ≤ 1000) (hhi : 0 ≤ hi ∧ hi ≤ 1000) : zCi l X 8 yX12_after tX12_after [zr 124, zr (1000 + (i : Int)), zi lo, zi hi] M (fun a M' => (∃ e, q_aft t n p i lo hi = .inl e ∧ a = lo ∧ MF e N M') ∨ (∃ p1, p1 ≤ n ∧ lo ≤ a ∧ a ≤ hi ∧ q_aft t n p i lo hi = .inr (p1, a) ∧ MS t n p1 ρ N M')) := by
  refine zC.of [some (zr 124), some (zr (1000 + (i : Int))), some (zi lo), some (zi hi)] (by decide +kernel) rfl rfl (Nat.le_of_ble_eq_true rfl) rfl ?_
  refine p_aload_n 1 dX12_after_0 rfl rfl (by decide) ?_
  refine p_aload_n 2 dX12_after_1 rfl rfl (by omega) ?_
  refine p_callV1v 124 5 dX12_after_2 (s_mustS hn ht hp hS hq hi45) lk_X12_154 mX12_must rfl rfl (by decide) (Nat.le_of_ble_eq_true rfl) ?_
  intro M1 hd
  rcases hd with ⟨hy, hS1⟩ | ⟨hno, hF1⟩
  · refine p_aload_n 6 dX12_after_5 rfl rfl (by decide) ?_
    refine p_iload_n 7 dX12_after_6 rfl rfl ?_
    refine p_iload_n 8 dX12_after_7 rfl rfl ?_
    refine p_callV2i 124 11 dX12_after_8 (s_numberS hn ht (q_en_n t hp) hS1 hlo hhi) lk_X12_158 mX12_number rfl rfl (by decide) (Nat.le_of_ble_eq_true rfl) ?_
    intro a2 M2 hd
    have hX : (∃ e, q_aft t n p i lo hi = .inl e ∧ a2 = lo ∧ MF e N M2) ∨ (∃ p1, p1 ≤ n ∧ lo ≤ a2 ∧ a2 ≤ hi ∧ q_aft t n p i lo hi = .inr (p1, a2) ∧ MS t n p1 ρ N M2) := by
      rw [q_aft_y hy]
      rcases hd with hd | ⟨hz, ea, hS2⟩
      · exact Or.inl hd
      · refine Or.inr ⟨_, q_en_n t (q_en_n t hp), ?_, ?_, by rw [hz, ea], hS2⟩
        · rw [ea]; exact (q_num_inv hz).2.2.1
        · rw [ea]; exact (q_num_inv hz).2.2.2
    refine p_iret dX12_after_11 rfl ?_
    exact ⟨_, rfl, hX⟩
  · refine p_aload_n 6 dX12_after_5 rfl rfl (by decide) ?_
    refine p_iload_n 7 dX12_after_6 rfl rfl ?_
    refine p_iload_n 8 dX12_after_7 rfl rfl ?_
    refine p_callV2i 124 11 dX12_after_8 (s_numberF hF1) lk_X12_158 mX12_number rfl rfl (by decide) (Nat.le_of_ble_eq_true rfl) ?_
    rintro _ _ ⟨rfl, e9⟩
    have e9 := e9.symm
    subst e9
    refine p_iret dX12_after_11 rfl ?_
    exact ⟨_, rfl, Or.inl ⟨_, q_aft_n hno, rfl, hF1⟩⟩
theorem s_afterF {l : Launch} {X : ZX} {M : ZM} {e : Int × Int} {N : ZM} (hS : MF e N M) {z lo hi : Int} (hz : 0 ≤ z) : zCi l X 8 yX12_after tX12_after [zr 124, zr z, zi lo, zi hi] M (fun a M' => a = lo ∧ M' = M) := by
  refine zC.of [some (zr 124), some (zr z), some (zi lo), some (zi hi)] (by decide +kernel) rfl rfl (Nat.le_of_ble_eq_true rfl) rfl ?_
  refine p_aload_n 1 dX12_after_0 rfl rfl (by decide) ?_
  refine p_aload_n 2 dX12_after_1 rfl rfl (by omega) ?_
  refine p_callV1v 124 5 dX12_after_2 (s_mustF hS) lk_X12_154 mX12_must rfl rfl (by decide) (Nat.le_of_ble_eq_true rfl) ?_
  intro M9 e9
  have e9 := e9.symm
  subst e9
  refine p_aload_n 6 dX12_after_5 rfl rfl (by decide) ?_
  refine p_iload_n 7 dX12_after_6 rfl rfl ?_
  refine p_iload_n 8 dX12_after_7 rfl rfl ?_
  refine p_callV2i 124 11 dX12_after_8 (s_numberF hS) lk_X12_158 mX12_number rfl rfl (by decide) (Nat.le_of_ble_eq_true rfl) ?_
  rintro _ _ ⟨rfl, e9⟩
  have e9 := e9.symm
  subst e9
  refine p_iret dX12_after_11 rfl ?_
  exact ⟨_, rfl, rfl, rfl⟩
