/-! THE READER, the model's: a word that must be there; a name -/
theorem s_mustS {l : Launch} {X : ZX} {M : ZM} {t : Nat → Int} {n p : Nat} {ρ : Nat → Int} {N : ZM} (hn : n ≤ 900) (ht : ∀ i, i < n → 0 ≤ t i ∧ t i < 256) (hp : p ≤ n) (hS : MS t n p ρ N M) {i : Nat} {q0 : String × Nat × String} (hq : zstr[i]? = some q0) (hi : i < 45) : zCv l X 7 yX12_must tX12_must [zr 124, zr (1000 + (i : Int))] M (fun M' => (q_is t n p i = true ∧ MS t n (q_en t n p) ρ N M') ∨ (¬ q_is t n p i = true ∧ MF (1, (q_at t n p : Int)) N M')) := by
  refine zC.of [some (zr 124), some (zr (1000 + (i : Int)))] (by decide +kernel) rfl rfl (Nat.le_of_ble_eq_true rfl) rfl ?_
  refine p_aload_n 1 dX12_must_0 rfl rfl (by decide) ?_
  refine p_getI 124 4 dX12_must_1 fX12_91 rfl ?_
  rw [hS.2.2.1]
  refine p_if_ne 24 7 dX12_must_4 (by decide) (by decide) (fun h4 => absurd (absurd rfl h4) (fun h9 : False => h9)) (fun h4 => ?_)
  refine p_aload_n 8 dX12_must_7 rfl rfl (by decide) ?_
  refine p_aload_n 9 dX12_must_8 rfl rfl (by omega) ?_
  refine p_callV1i 124 12 dX12_must_9 (s_takesWordS hn ht hp hS hq hi) lk_X12_115 mX12_takesWord rfl rfl (by decide) (Nat.le_of_ble_eq_true rfl) ?_
  intro a1 M1 hd
  have ha1 : 0 ≤ a1 ∧ a1 ≤ 1 := by
    rcases hd with ⟨-, h, -⟩ | ⟨-, h, -⟩ <;> omega
  refine p_if_ne 24 15 dX12_must_12 (by omega) (by omega) (fun h12 => ?_) (fun h12 => ?_)
  · obtain ⟨hy, -, hS9⟩ := hd.resolve_right (fun g => h12 g.2.1)
    have hX : (q_is t n p i = true ∧ MS t n (q_en t n p) ρ N M1) ∨ (¬ q_is t n p i = true ∧ MF (1, (q_at t n p : Int)) N M1) := Or.inl ⟨hy, hS9⟩
    refine p_vret dX12_must_24 rfl ?_
    exact ⟨rfl, hX⟩
  · obtain ⟨hno, -, e9⟩ := hd.resolve_left (fun g => by have := g.2.1; omega)
    have e9 := e9.symm
    subst e9
    refine p_aload_n 16 dX12_must_15 rfl rfl (by decide) ?_
    refine p_iconst 17 dX12_must_16 ?_
    refine p_aload_n 18 dX12_must_17 rfl rfl (by decide) ?_
    refine p_getI 124 21 dX12_must_18 fX12_72 rfl ?_
    rw [hS.2.1.1]
    refine p_callV2v 124 24 dX12_must_21 (s_wrongS hn hp hS) lk_X12_118 mX12_wrong rfl rfl (by decide) (Nat.le_of_ble_eq_true rfl) ?_
    intro M9 hF
    have hX : (q_is t n p i = true ∧ MS t n (q_en t n p) ρ N M9) ∨ (¬ q_is t n p i = true ∧ MF (1, (q_at t n p : Int)) N M9) := Or.inr ⟨hno, hF⟩
    refine p_vret dX12_must_24 rfl ?_
    exact ⟨rfl, hX⟩
theorem s_mustF {l : Launch} {X : ZX} {M : ZM} {e : Int × Int} {N : ZM} (hS : MF e N M) {z : Int} : zCv l X 7 yX12_must tX12_must [zr 124, zr z] M (fun M' => M' = M) := by
  refine zC.of [some (zr 124), some (zr z)] (by decide +kernel) rfl rfl (Nat.le_of_ble_eq_true rfl) rfl ?_
  refine p_aload_n 1 dX12_must_0 rfl rfl (by decide) ?_
  refine p_getI 124 4 dX12_must_1 fX12_91 rfl ?_
  rw [hS.2.1]
  refine p_if_ne 24 7 dX12_must_4 (by decide) (by decide) (fun h4 => ?_) (fun h4 => absurd (h4 (by decide)) (fun h9 : False => h9))
  refine p_vret dX12_must_24 rfl ?_
  exact ⟨rfl, rfl⟩
theorem zbyt_m : ∀ i, i < 22 → zbyt.getD (i + 23) [] = zbyt.getD i [] := by decide +kernel
theorem q_is_eq {t : Nat → Int} {n p i : Nat} (hi : i < 22) : q_is t n p (i + 23) = q_is t n p i := by
  unfold q_is
  rw [zbyt_m i hi]
theorem q_is_m {t : Nat → Int} {n p i : Nat} (hi : i < 22) (h : q_is t n p (i + 23) = true) : q_is t n p i = true := (q_is_eq hi).symm.trans h
theorem q_is_mf {t : Nat → Int} {n p i : Nat} (hi : i < 22) (h : ¬ q_is t n p (i + 23) = true) : q_is t n p i = false := Bool.eq_false_iff.mpr (fun g => h ((q_is_eq hi).trans g))
