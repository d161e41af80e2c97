/-! THE READER, the model's: a token is taken -/
theorem MS.adv {t : Nat → Int} {n p p' : Nat} {ρ : Nat → Int} {N M M' : ZM} (h : MS t n p ρ N M) (hk : MK M M') (hT : TM t n p' M') : MS t n p' ρ N M' := by
  obtain ⟨hB, -, h0, hr, h1, h2⟩ := h
  exact ⟨hB.of hk, hT, (hk.2 13 (by omega)).trans h0, fun i hi => by rw [hk.1 128 (by decide) (by decide)]; exact hr i hi, fun a g1 g2 g3 => (hk.1 a g1 g2).trans (h1 a g1 g2 g3), fun k k0 k3 => (hk.2 k k0).trans (h2 k k0 k3)⟩
theorem s_takesWordS {l : Launch} {X : ZX} {M : ZM} {t : Nat → Int} {n p : Nat} {ρ : Nat → Int} {N : ZM} (hn : n ≤ 900) (ht : ∀ i, i < n → 0 ≤ t i ∧ t i < 256) (hp : p ≤ n) (hS : MS t n p ρ N M) {i : Nat} {q0 : String × Nat × String} (hq : zstr[i]? = some q0) (hi : i < 45) : zCi l X 6 yX12_takesWord tX12_takesWord [zr 124, zr (1000 + (i : Int))] M (fun a M' => (q_is t n p i = true ∧ a = 1 ∧ MS t n (q_en t n p) ρ N M') ∨ (¬ q_is t n p i = true ∧ a = 0 ∧ M' = M)) := by
  refine zC.of [some (zr 124), some (zr (1000 + (i : Int)))] (by decide +kernel) rfl rfl (Nat.le_of_ble_eq_true rfl) rfl ?_
  refine p_aload_n 1 dX12_takesWord_0 rfl rfl (by decide) ?_
  refine p_aload_n 2 dX12_takesWord_1 rfl rfl (by omega) ?_
  refine p_callV1i 124 5 dX12_takesWord_2 (s_isWordS hn ht hp hS hq hi) lk_X12_108 mX12_isWord rfl rfl (by decide) (Nat.le_of_ble_eq_true rfl) ?_
  rintro _ _ ⟨rfl, e9⟩
  have e9 := e9.symm
  subst e9
  refine p_if_ne 10 8 dX12_takesWord_5 (by split <;> omega) (by split <;> omega) (fun h5 => ?_) (fun h5 => ?_)
  · have hy := if_ne0 h5
    refine p_aload_n 11 dX12_takesWord_10 rfl rfl (by decide) ?_
    refine p_callV0v 124 14 dX12_takesWord_11 (s_goOn hn ht hS.1 (p := q_en t n p) (q_en_n t hp) hS.2.1.2.1) lk_X12_112 mX12_goOn rfl rfl (by decide) (Nat.le_of_ble_eq_true rfl) ?_
    rintro M9 ⟨kk, hT9⟩
    refine p_iconst 15 dX12_takesWord_14 ?_
    refine p_zret dX12_takesWord_15 rfl (by decide) ?_
    exact ⟨_, rfl, Or.inl ⟨hy, rfl, hS.adv kk hT9⟩⟩
  · have hno := if_nne0 h5
    refine p_iconst 9 dX12_takesWord_8 ?_
    refine p_zret dX12_takesWord_9 rfl (by decide) ?_
    exact ⟨_, rfl, Or.inr ⟨hno, rfl, rfl⟩⟩
