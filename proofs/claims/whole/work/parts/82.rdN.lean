/-! THE READER, the model's: its states -/
/-- reading: the token from p on, the row so far; else as it was (N) -/
def MS (t : Nat → Int) (n p : Nat) (ρ : Nat → Int) (N M : ZM) : Prop := MB t n M ∧ TM t n p M ∧ M 124 13 = 0 ∧ (∀ i, i < 421 → M 128 i = ρ i) ∧ (∀ a, a ≠ 124 → a ≠ 126 → a ≠ 128 → M a = N a) ∧ ∀ k, k < 4 ∨ 8 < k → k ≠ 13 → M 124 k = N 124 k
/-- it failed -/
def MF (e : Int × Int) (N M : ZM) : Prop := zWm M ∧ M 124 13 = 1 ∧ M 124 9 = e.1 ∧ M 124 10 = e.2 ∧ (0 ≤ M 124 4 ∧ M 124 4 ≤ 900 ∧ 0 ≤ M 124 6 ∧ M 124 6 ≤ 59) ∧ (∀ a, a ≠ 124 → a ≠ 126 → a ≠ 128 → M a = N a) ∧ ∀ k, k < 4 ∨ 8 < k → k ≠ 9 → k ≠ 10 → k ≠ 13 → M 124 k = N 124 k
theorem MS.bd {t : Nat → Int} {n p : Nat} {ρ : Nat → Int} {N M : ZM} (hn : n ≤ 900) (hp : p ≤ n) (h : MS t n p ρ N M) : 0 ≤ M 124 4 ∧ M 124 4 ≤ 900 ∧ 0 ≤ M 124 6 ∧ M 124 6 ≤ 59 := by
  obtain ⟨-, ⟨t4, t5, t6, -, -⟩, -⟩ := h
  have h1 := q_at_le t hp
  have h2 := q_tk_cases t n p
  rw [t4, t6]
  omega
theorem MS.fail {t : Nat → Int} {n p : Nat} {ρ : Nat → Int} {N M : ZM} (hn : n ≤ 900) (hp : p ≤ n) (h : MS t n p ρ N M) {f g : Int} : MF (f, g) N (zset (zset (zset M 124 13 1) 124 9 f) 124 10 g) := by
  have hb := h.bd hn hp
  obtain ⟨hB, hT, -, -, h1, h2⟩ := h
  refine ⟨((hB.1.set (by decide +kernel)).set (by decide +kernel)).set (by decide +kernel), by rw [zset_k (by decide), zset_k (by decide), zset_at], by rw [zset_k (by decide), zset_at], zset_at _ _ _ _, ?_, fun a g1 g2 g3 => by rw [zset_ne _ g1, zset_ne _ g1, zset_ne _ g1]; exact h1 a g1 g2 g3, fun k k0 k1 k2 k3 => by rw [zset_k k2, zset_k k1, zset_k k3]; exact h2 k k0 k3⟩
  rw [zset_k (by decide), zset_k (by decide), zset_k (by decide), zset_k (by decide), zset_k (by decide), zset_k (by decide)]
  exact hb
theorem s_wrongS {l : Launch} {X : ZX} {M : ZM} {t : Nat → Int} {n p : Nat} {ρ : Nat → Int} {N : ZM} (hn : n ≤ 900) (hp : p ≤ n) (hS : MS t n p ρ N M) {f g : Int} : zCv l X 0 yX12_wrong tX12_wrong [zr 124, zi f, zi g] M (fun M' => MF (f, g) N M') := by
  refine zC.of [some (zr 124), some (zi f), some (zi g)] (by decide +kernel) rfl rfl (Nat.le_of_ble_eq_true rfl) rfl ?_
  refine p_aload_n 1 dX12_wrong_0 rfl rfl (by decide) ?_
  refine p_getI 124 4 dX12_wrong_1 fX12_91 rfl ?_
  rw [hS.2.2.1]
  refine p_if_eq 8 7 dX12_wrong_4 (by decide) (by decide) (fun h4 => ?_) (fun h4 => absurd (h4 rfl) (fun h9 : False => h9))
  refine p_aload_n 9 dX12_wrong_8 rfl rfl (by decide) ?_
  refine p_iconst 10 dX12_wrong_9 ?_
  refine p_putZ 124 13 dX12_wrong_10 wX12_91 rfl (by decide) ?_
  refine p_aload_n 14 dX12_wrong_13 rfl rfl (by decide) ?_
  refine p_iload_n 15 dX12_wrong_14 rfl rfl ?_
  refine p_putI 124 18 dX12_wrong_15 wX12_95 rfl ?_
  refine p_aload_n 19 dX12_wrong_18 rfl rfl (by decide) ?_
  refine p_iload_n 20 dX12_wrong_19 rfl rfl ?_
  refine p_putI 124 23 dX12_wrong_20 wX12_13 rfl ?_
  refine p_vret dX12_wrong_23 rfl ?_
  exact ⟨rfl, hS.fail hn hp⟩
theorem s_wrongF {l : Launch} {X : ZX} {M : ZM} {e : Int × Int} {N : ZM} (hS : MF e N M) {f g : Int} : zCv l X 0 yX12_wrong tX12_wrong [zr 124, zi f, zi g] M (fun M' => M' = M) := by
  refine zC.of [some (zr 124), some (zi f), some (zi g)] (by decide +kernel) rfl rfl (Nat.le_of_ble_eq_true rfl) rfl ?_
  refine p_aload_n 1 dX12_wrong_0 rfl rfl (by decide) ?_
  refine p_getI 124 4 dX12_wrong_1 fX12_91 rfl ?_
  rw [hS.2.1]
  refine p_if_eq 8 7 dX12_wrong_4 (by decide) (by decide) (fun h4 => absurd (absurd h4 (by decide)) (fun h9 : False => h9)) (fun h4 => ?_)
  refine p_vret dX12_wrong_7 rfl ?_
  exact ⟨rfl, rfl⟩
