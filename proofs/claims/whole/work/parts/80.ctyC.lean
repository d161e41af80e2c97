/-! THE ACT: a county is told, the class's cells -/
theorem IC.bad {M M' : ZM} (h : IC M M) {c c' : Nat} (hcc : c = 2 ∧ c' = 25 ∨ c = 25 ∧ c' = 2) (hC : ICc (M 127) (M 124 14) c M) {e : Int × Int} (hw : zWc M') (hM : ∀ a, a ≠ 0 → a ≠ 48 → a < c' ∨ c' + 22 < a → M' a = M a) (h5 : M' 0 5 = (c : Int)) (h6 : M' 0 6 = (c' : Int)) (h1 : M' 0 1 = 0) (h2 : M' 0 2 = 4) (h3 : M' 0 3 = e.1) (h4 : M' 0 4 = e.2) : IC (q_bad M e) M' := by
  obtain ⟨i1, -, ⟨j1, j2, j3, j4, j5⟩, i4, ⟨p1, p2, top, htp, p3, p4, p5⟩, i6, ⟨⟨z1, z2, z3, z4⟩, i7⟩, i8⟩ := id h
  have k : ∀ x, x ≠ 124 → q_bad M e x = M x := fun x hx => by unfold q_bad; rw [zset_ne _ hx, zset_ne _ hx, zset_ne _ hx, zset_ne _ hx]
  have j : ∀ y, y ≠ 2 → y ≠ 9 → y ≠ 10 → y ≠ 11 → q_bad M e 124 y = M 124 y := fun y h1 h2 h3 h4 => by unfold q_bad; rw [zset_k h4, zset_k h3, zset_k h2, zset_k h1]
  have j2' : q_bad M e 124 2 = 0 := by unfold q_bad; rw [zset_k (by decide), zset_k (by decide), zset_k (by decide), zset_at]
  have j9 : q_bad M e 124 9 = e.1 := by unfold q_bad; rw [zset_k (by decide), zset_k (by decide), zset_at]
  have j10 : q_bad M e 124 10 = e.2 := by unfold q_bad; rw [zset_k (by decide), zset_at]
  have j11 : q_bad M e 124 11 = 4 := by unfold q_bad; rw [zset_at]
  have hn : ∀ x, 49 ≤ x → M' x = M x := fun x hx => hM x (by omega) (by omega) (by omega)
  unfold IC
  rw [k 125 (by decide), k 127 (by decide), k 129 (by decide), k 130 (by decide), k 131 (by decide), j2', j9, j10, j11, j 14 (by decide) (by decide) (by decide) (by decide), j 20 (by decide) (by decide) (by decide) (by decide), j 21 (by decide) (by decide) (by decide) (by decide)]
  refine ⟨hw, ⟨c, c', hcc, h5, h6, hC.congr (fun a g1 g2 => hM a (by omega) (by omega) (by omega))⟩, ⟨h1, fun i hi => absurd hi (by omega), h2, h3, fun _ => h4⟩, i4.congr (hn _ (by omega)) (hn _ (by omega)) (hn _ (by omega)), ⟨?_, ?_, top, htp, ?_, fun j hj => ?_, fun j hj => ?_⟩, ?_, ⟨⟨?_, ?_, ?_, ?_⟩, ?_⟩, ?_⟩
  · rw [hn 52 (by omega)]; exact p1
  · rw [hn 52 (by omega)]; exact p2
  · rw [hn 52 (by omega)]; exact p3
  · exact (p4 j hj).congr (hn _ (by omega)) (hn _ (by omega)) (hn _ (by omega))
  · exact (p5 j hj).congr (hn _ (by omega)) (hn _ (by omega)) (hn _ (by omega))
  · rw [hn 112 (by omega)]
    exact i6.imp id (fun g => ⟨g.1, g.2.congr (hn _ (by omega)) (hn _ (by omega)) (hn _ (by omega))⟩)
  · rw [hn 116 (by omega)]; exact z1
  · rw [hn 117 (by omega)]; exact z2
  · rw [hn 118 (by omega)]; exact z3
  · rw [hn 119 (by omega)]; exact z4
  · rw [hn 115 (by omega)]
    exact i7.imp id (fun g => ⟨g.1, g.2.congr (hn _ (by omega)) (hn _ (by omega)) (hn _ (by omega)) (hn _ (by omega)) (hn _ (by omega))⟩)
  · rw [hn 121 (by omega)]
    exact i8.imp id (fun g => ⟨g.1, g.2.congr (hn _ (by omega))⟩)
theorem IC.cty {M M' : ZM} (h : IC M M) {c c' : Nat} (hcc : c = 2 ∧ c' = 25 ∨ c = 25 ∧ c' = 2) {ρ : Nat → Int} (hP : PI ρ) (hr0 : ρ 0 ≠ 0) (hw : zWc M') (hI : ICr ρ c' M') (h5 : M' 0 5 = (c' : Int)) (h6 : M' 0 6 = (c : Int)) (h1 : M' 0 1 = 0) (h2 : M' 0 2 = 0) (h3 : M' 0 3 = 0) (n0 : ∀ k, k < 4 → M' 49 k = 0) (n1 : ∀ s, s < 7 → M' 50 s = 0) (n2 : ∀ s, s < 7 → M' 51 s = -2) (p2 : M' 52 2 = 0) (p4 : M' 52 4 = 0) (p1 : M' 52 1 = M 52 1) (t0 : M' 112 0 = 0) (s0 : M' 115 0 = 0) (f0 : M' 121 0 = 0) (z : ∀ x, 116 ≤ x → x ≤ 119 → M' x = M x) : IC (q_cty M ρ) M' := by
  obtain ⟨-, -, -, -, ⟨-, -, top, htp, p3, -, -⟩, -, ⟨⟨z1, z2, z3, z4⟩, -⟩, -⟩ := id h
  have eo : ∀ i, i < 421 → q_cty M ρ 127 i = ρ i := fun i hi => by unfold q_cty; rw [if_pos rfl, if_pos hi]
  have e9 : ∀ i, i < 18 → q_cty M ρ 129 i = 0 := fun i hi => by unfold q_cty; rw [if_neg (by decide), if_pos rfl, if_pos hi]
  have hI2 := (ICr.row hP hI eo).1
  have et : q_tld (q_cty M ρ 127) = 1 := by
    unfold q_tld
    rw [eo 0 (by omega), if_neg hr0]
  rw [et] at hI2
  have e14 : q_cty M ρ 124 14 = 1 := rfl
  have e20 : q_cty M ρ 124 20 = 0 := rfl
  have e21 : q_cty M ρ 124 21 = 0 := rfl
  have e2 : q_cty M ρ 124 2 = 0 := rfl
  have e11 : q_cty M ρ 124 11 = 0 := rfl
  have e9' : q_cty M ρ 124 9 = 0 := rfl
  unfold IC
  rw [e14, e20, e21, e2, e11, e9']
  refine ⟨hw, ⟨c', c, by omega, h5, h6, hI2⟩, ⟨h1, fun i hi => absurd hi (by omega), h2, h3, fun g => by cases g⟩, ⟨?_, ?_, ?_, ?_, fun s hs => ?_, fun _ s hs => ?_⟩, ⟨p2, p4, top, htp, p1.trans p3, fun j hj => absurd hj (by omega), fun j hj => absurd hj (by omega)⟩, Or.inl t0, ⟨⟨?_, ?_, ?_, ?_⟩, Or.inl s0⟩, Or.inl f0⟩
  · rw [n0 0 (by omega), e9 15 (by omega)]
  · rw [n0 1 (by omega), e9 17 (by omega)]
  · rw [n0 2 (by omega), e9 14 (by omega)]
  · rw [n0 3 (by omega), e9 16 (by omega)]
  · rw [n1 s hs, e9 s (by omega)]
  · show M' 51 s = q_tnd (q_cty M ρ 129 (7 + s))
    rw [n2 s hs, e9 (7 + s) (by omega)]
    rfl
  · rw [z 116 (by omega) (by omega)]; exact z1
  · rw [z 117 (by omega) (by omega)]; exact z2
  · rw [z 118 (by omega) (by omega)]; exact z3
  · rw [z 119 (by omega) (by omega)]; exact z4
