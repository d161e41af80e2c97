/-! THE READER: the county grows -/
theorem q_tld_of {ρ ρ' : Nat → Int} (h : ρ' 0 = ρ 0) : q_tld ρ' = q_tld ρ := by
  unfold q_tld
  rw [h]
theorem E2.mem {ρ : Nat → Int} {c : Nat} {M M' : ZM} {s : Nat} (h : E2 ρ c M s) (hm : ∀ k, 2 ≤ k → k ≤ 5 → M' (c + k) s = M (c + k) s) : E2 ρ c M' s := by
  obtain ⟨h1, h2, h3, h4⟩ := h
  exact ⟨(hm 2 (by omega) (by omega)).trans h1, (hm 3 (by omega) (by omega)).trans h2, (hm 4 (by omega) (by omega)).trans h3, (hm 5 (by omega) (by omega)).trans h4⟩
theorem E3.mem {ρ : Nat → Int} {c : Nat} {M M' : ZM} {s : Nat} (h : E3 ρ c M s) (hm : ∀ k, 7 ≤ k → k ≤ 10 → M' (c + k) s = M (c + k) s) : E3 ρ c M' s := by
  obtain ⟨h1, h2, h3, h4⟩ := h
  exact ⟨(hm 7 (by omega) (by omega)).trans h1, (hm 8 (by omega) (by omega)).trans h2, (hm 9 (by omega) (by omega)).trans h3, (hm 10 (by omega) (by omega)).trans h4⟩
theorem E4.mem {ρ : Nat → Int} {c : Nat} {M M' : ZM} {s : Nat} (h : E4 ρ c M s) (hm : ∀ k, 12 ≤ k → k ≤ 16 → M' (c + k) s = M (c + k) s) : E4 ρ c M' s := by
  obtain ⟨h1, h2, h3, h4, h5⟩ := h
  exact ⟨(hm 12 (by omega) (by omega)).trans h1, (hm 13 (by omega) (by omega)).trans h2, (hm 14 (by omega) (by omega)).trans h3, (hm 15 (by omega) (by omega)).trans h4, (hm 16 (by omega) (by omega)).trans h5⟩
theorem E6.mem {ρ : Nat → Int} {c : Nat} {M M' : ZM} {s : Nat} (h : E6 ρ c M s) (hm : ∀ k, 18 ≤ k → k ≤ 20 → M' (c + k) s = M (c + k) s) : E6 ρ c M' s := by
  obtain ⟨h1, h2, h3⟩ := h
  exact ⟨(hm 18 (by omega) (by omega)).trans h1, (hm 19 (by omega) (by omega)).trans h2, (hm 20 (by omega) (by omega)).trans h3⟩
theorem E7.mem {ρ : Nat → Int} {c : Nat} {M M' : ZM} {s : Nat} (h : E7 ρ c M s) (hm : ∀ k, 21 ≤ k → k ≤ 22 → M' (c + k) s = M (c + k) s) : E7 ρ c M' s := by
  obtain ⟨h1, h2⟩ := h
  exact ⟨(hm 21 (by omega) (by omega)).trans h1, (hm 22 (by omega) (by omega)).trans h2⟩
theorem RS.grow2 {t : Nat → Int} {n c p : Nat} {ρ ρ' : Nat → Int} {N M : ZM} (hc : isC c) (hS : RS t n c p ρ N M) (hP : PI ρ) (hs0 : ρ 2 < 7) (ec : ρ' 2 = ρ 2 + 1) (eo : ∀ i, ¬ (i = 2 ∨ (8 + 3 * q_n ρ 2 ≤ i ∧ i < 8 + 3 * q_n ρ 2 + 3) ∨ i = 268 + q_n ρ 2 ∨ (285 + 8 * q_n ρ 2 ≤ i ∧ i < 285 + 8 * q_n ρ 2 + 8)) → ρ' i = ρ i) (f : E2 ρ' c M (q_n ρ 2)) : RS t n c p ρ' N (zset M (c + 1) 0 (ρ 2 + 1)) := by
  have hR := hP.1
  have b := hR.2.1
  have e2 : ρ 2 = (q_n ρ 2 : Int) := hR.n (by decide)
  have e3 : ρ 3 = (q_n ρ 3 : Int) := hR.n (by decide)
  have e4 : ρ 4 = (q_n ρ 4 : Int) := hR.n (by decide)
  have e6 : ρ 6 = (q_n ρ 6 : Int) := hR.n (by decide)
  have e7 : ρ 7 = (q_n ρ 7 : Int) := hR.n (by decide)
  refine RS.of (hS.w.any hc (by omega) (hS.1.1.cnt hc (by decide))) (ICr_iff.mpr ?_)
  obtain ⟨⟨a0, a1, a2, a3, a4, a5, a6, a7, a8⟩, h2, h3, h4, h6, h7⟩ := ICr_iff.mp hS.2.2.1
  refine ⟨⟨?_, ?_, ?_, ?_, ?_, ?_, ?_, ?_, ?_⟩, fun s hs => ?_, fun s hs => ?_, fun s hs => ?_, fun s hs => ?_, fun s hs => ?_⟩
  · rw [q_tld_of (eo 0 (by omega)), zset_o (by omega)]; exact a0
  · rw [zset_o (by omega), eo 0 (by omega)]; exact a1
  · rw [zset_o (by omega), eo 1 (by omega)]; exact a2
  · rw [zset_at, ec]
  · rw [zset_o (by omega), eo 3 (by omega)]; exact a4
  · rw [zset_o (by omega), eo 4 (by omega)]; exact a5
  · rw [zset_o (by omega), eo 5 (by omega)]; exact a6
  · rw [zset_o (by omega), eo 6 (by omega)]; exact a7
  · rw [zset_o (by omega), eo 7 (by omega)]; exact a8
  · rw [ec] at hs
    by_cases e : s = q_n ρ 2
    · rw [e]
      exact f.mem (fun k k1 k2 => zset_o (by omega))
    · exact (h2 s (by omega)).congr (hP.2.2.1 s (by omega)).1 (fun k k1 k2 => zset_o (by omega)) (fun i hi => eo i (by omega))
  · rw [eo 3 (by omega)] at hs
    exact (h3 s hs).congr (hP.2.2.1 (7 + s) (by omega)).1 (fun k k1 k2 => zset_o (by omega)) (fun i hi => eo i (by omega))
  · rw [eo 4 (by omega)] at hs
    exact (h4 s hs).congr (by omega) (hP.2.2.1 (10 + s) (by omega)).1 (fun k k1 k2 => zset_o (by omega)) (fun i hi => eo i (by omega)) (fun k hk => eo _ (by omega))
  · rw [eo 6 (by omega)] at hs
    exact (h6 s hs).congr (hR.2.2.2.2.2.1 s (by omega)).2.1.1 (hR.2.2.2.2.2.1 s (by omega)).2.2.1 (fun k k1 k2 => zset_o (by omega)) (fun i hi => eo i (by omega))
  · rw [eo 7 (by omega)] at hs
    exact (h7 s hs).congr (hR.2.2.2.2.2.2 s (by omega)).2.1.1 (hR.2.2.2.2.2.2 s (by omega)).2.2.1 (fun k k1 k2 => zset_o (by omega)) (fun i hi => eo i (by omega))
theorem RS.grow3 {t : Nat → Int} {n c p : Nat} {ρ ρ' : Nat → Int} {N M : ZM} (hc : isC c) (hS : RS t n c p ρ N M) (hP : PI ρ) (hs0 : ρ 3 < 3) (ec : ρ' 3 = ρ 3 + 1) (eo : ∀ i, ¬ (i = 3 ∨ (29 + 3 * q_n ρ 3 ≤ i ∧ i < 29 + 3 * q_n ρ 3 + 3) ∨ i = 268 + (7 + q_n ρ 3) ∨ (285 + 8 * (7 + q_n ρ 3) ≤ i ∧ i < 285 + 8 * (7 + q_n ρ 3) + 8)) → ρ' i = ρ i) (f : E3 ρ' c M (q_n ρ 3)) : RS t n c p ρ' N (zset M (c + 6) 0 (ρ 3 + 1)) := by
  have hR := hP.1
  have b := hR.2.1
  have e2 : ρ 2 = (q_n ρ 2 : Int) := hR.n (by decide)
  have e3 : ρ 3 = (q_n ρ 3 : Int) := hR.n (by decide)
  have e4 : ρ 4 = (q_n ρ 4 : Int) := hR.n (by decide)
  have e6 : ρ 6 = (q_n ρ 6 : Int) := hR.n (by decide)
  have e7 : ρ 7 = (q_n ρ 7 : Int) := hR.n (by decide)
  refine RS.of (hS.w.any hc (by omega) (hS.1.1.cnt hc (by decide))) (ICr_iff.mpr ?_)
  obtain ⟨⟨a0, a1, a2, a3, a4, a5, a6, a7, a8⟩, h2, h3, h4, h6, h7⟩ := ICr_iff.mp hS.2.2.1
  refine ⟨⟨?_, ?_, ?_, ?_, ?_, ?_, ?_, ?_, ?_⟩, fun s hs => ?_, fun s hs => ?_, fun s hs => ?_, fun s hs => ?_, fun s hs => ?_⟩
  · rw [q_tld_of (eo 0 (by omega)), zset_o (by omega)]; exact a0
  · rw [zset_o (by omega), eo 0 (by omega)]; exact a1
  · rw [zset_o (by omega), eo 1 (by omega)]; exact a2
  · rw [zset_o (by omega), eo 2 (by omega)]; exact a3
  · rw [zset_at, ec]
  · rw [zset_o (by omega), eo 4 (by omega)]; exact a5
  · rw [zset_o (by omega), eo 5 (by omega)]; exact a6
  · rw [zset_o (by omega), eo 6 (by omega)]; exact a7
  · rw [zset_o (by omega), eo 7 (by omega)]; exact a8
  · rw [eo 2 (by omega)] at hs
    exact (h2 s hs).congr (hP.2.2.1 s (by omega)).1 (fun k k1 k2 => zset_o (by omega)) (fun i hi => eo i (by omega))
  · rw [ec] at hs
    by_cases e : s = q_n ρ 3
    · rw [e]
      exact f.mem (fun k k1 k2 => zset_o (by omega))
    · exact (h3 s (by omega)).congr (hP.2.2.1 (7 + s) (by omega)).1 (fun k k1 k2 => zset_o (by omega)) (fun i hi => eo i (by omega))
  · rw [eo 4 (by omega)] at hs
    exact (h4 s hs).congr (by omega) (hP.2.2.1 (10 + s) (by omega)).1 (fun k k1 k2 => zset_o (by omega)) (fun i hi => eo i (by omega)) (fun k hk => eo _ (by omega))
  · rw [eo 6 (by omega)] at hs
    exact (h6 s hs).congr (hR.2.2.2.2.2.1 s (by omega)).2.1.1 (hR.2.2.2.2.2.1 s (by omega)).2.2.1 (fun k k1 k2 => zset_o (by omega)) (fun i hi => eo i (by omega))
  · rw [eo 7 (by omega)] at hs
    exact (h7 s hs).congr (hR.2.2.2.2.2.2 s (by omega)).2.1.1 (hR.2.2.2.2.2.2 s (by omega)).2.2.1 (fun k k1 k2 => zset_o (by omega)) (fun i hi => eo i (by omega))
theorem RS.grow4 {t : Nat → Int} {n c p : Nat} {ρ ρ' : Nat → Int} {N M : ZM} (hc : isC c) (hS : RS t n c p ρ N M) (hP : PI ρ) (hs0 : ρ 4 < 7) (ec : ρ' 4 = ρ 4 + 1) (eo : ∀ i, ¬ (i = 4 ∨ (38 + 3 * q_n ρ 4 ≤ i ∧ i < 38 + 3 * q_n ρ 4 + 2) ∨ i = 268 + (10 + q_n ρ 4) ∨ (285 + 8 * (10 + q_n ρ 4) ≤ i ∧ i < 285 + 8 * (10 + q_n ρ 4) + 8)) → ρ' i = ρ i) (f : E4 ρ' c M (q_n ρ 4)) : RS t n c p ρ' N (zset M (c + 11) 0 (ρ 4 + 1)) := by
  have hR := hP.1
  have b := hR.2.1
  have e2 : ρ 2 = (q_n ρ 2 : Int) := hR.n (by decide)
  have e3 : ρ 3 = (q_n ρ 3 : Int) := hR.n (by decide)
  have e4 : ρ 4 = (q_n ρ 4 : Int) := hR.n (by decide)
  have e6 : ρ 6 = (q_n ρ 6 : Int) := hR.n (by decide)
  have e7 : ρ 7 = (q_n ρ 7 : Int) := hR.n (by decide)
  refine RS.of (hS.w.any hc (by omega) (hS.1.1.cnt hc (by decide))) (ICr_iff.mpr ?_)
  obtain ⟨⟨a0, a1, a2, a3, a4, a5, a6, a7, a8⟩, h2, h3, h4, h6, h7⟩ := ICr_iff.mp hS.2.2.1
  refine ⟨⟨?_, ?_, ?_, ?_, ?_, ?_, ?_, ?_, ?_⟩, fun s hs => ?_, fun s hs => ?_, fun s hs => ?_, fun s hs => ?_, fun s hs => ?_⟩
  · rw [q_tld_of (eo 0 (by omega)), zset_o (by omega)]; exact a0
  · rw [zset_o (by omega), eo 0 (by omega)]; exact a1
  · rw [zset_o (by omega), eo 1 (by omega)]; exact a2
  · rw [zset_o (by omega), eo 2 (by omega)]; exact a3
  · rw [zset_o (by omega), eo 3 (by omega)]; exact a4
  · rw [zset_at, ec]
  · rw [zset_o (by omega), eo 5 (by omega)]; exact a6
  · rw [zset_o (by omega), eo 6 (by omega)]; exact a7
  · rw [zset_o (by omega), eo 7 (by omega)]; exact a8
  · rw [eo 2 (by omega)] at hs
    exact (h2 s hs).congr (hP.2.2.1 s (by omega)).1 (fun k k1 k2 => zset_o (by omega)) (fun i hi => eo i (by omega))
  · rw [eo 3 (by omega)] at hs
    exact (h3 s hs).congr (hP.2.2.1 (7 + s) (by omega)).1 (fun k k1 k2 => zset_o (by omega)) (fun i hi => eo i (by omega))
  · rw [ec] at hs
    by_cases e : s = q_n ρ 4
    · rw [e]
      exact f.mem (fun k k1 k2 => zset_o (by omega))
    · exact (h4 s (by omega)).congr (by omega) (hP.2.2.1 (10 + s) (by omega)).1 (fun k k1 k2 => zset_o (by omega)) (fun i hi => eo i (by omega)) (fun k hk => eo _ (by omega))
  · rw [eo 6 (by omega)] at hs
    exact (h6 s hs).congr (hR.2.2.2.2.2.1 s (by omega)).2.1.1 (hR.2.2.2.2.2.1 s (by omega)).2.2.1 (fun k k1 k2 => zset_o (by omega)) (fun i hi => eo i (by omega))
  · rw [eo 7 (by omega)] at hs
    exact (h7 s hs).congr (hR.2.2.2.2.2.2 s (by omega)).2.1.1 (hR.2.2.2.2.2.2 s (by omega)).2.2.1 (fun k k1 k2 => zset_o (by omega)) (fun i hi => eo i (by omega))
theorem RS.grow6 {t : Nat → Int} {n c p : Nat} {ρ ρ' : Nat → Int} {N M : ZM} (hc : isC c) (hS : RS t n c p ρ N M) (hP : PI ρ) (hs0 : ρ 6 < 6) (ec : ρ' 6 = ρ 6 + 1) (eo : ∀ i, ¬ (i = 6 ∨ (59 + 19 * q_n ρ 6 ≤ i ∧ i < 59 + 19 * q_n ρ 6 + 19)) → ρ' i = ρ i) (f : E6 ρ' c M (q_n ρ 6)) : RS t n c p ρ' N (zset M (c + 17) 0 (ρ 6 + 1)) := by
  have hR := hP.1
  have b := hR.2.1
  have e2 : ρ 2 = (q_n ρ 2 : Int) := hR.n (by decide)
  have e3 : ρ 3 = (q_n ρ 3 : Int) := hR.n (by decide)
  have e4 : ρ 4 = (q_n ρ 4 : Int) := hR.n (by decide)
  have e6 : ρ 6 = (q_n ρ 6 : Int) := hR.n (by decide)
  have e7 : ρ 7 = (q_n ρ 7 : Int) := hR.n (by decide)
  refine RS.of (hS.w.any hc (by omega) (hS.1.1.cnt hc (by decide))) (ICr_iff.mpr ?_)
  obtain ⟨⟨a0, a1, a2, a3, a4, a5, a6, a7, a8⟩, h2, h3, h4, h6, h7⟩ := ICr_iff.mp hS.2.2.1
  refine ⟨⟨?_, ?_, ?_, ?_, ?_, ?_, ?_, ?_, ?_⟩, fun s hs => ?_, fun s hs => ?_, fun s hs => ?_, fun s hs => ?_, fun s hs => ?_⟩
  · rw [q_tld_of (eo 0 (by omega)), zset_o (by omega)]; exact a0
  · rw [zset_o (by omega), eo 0 (by omega)]; exact a1
  · rw [zset_o (by omega), eo 1 (by omega)]; exact a2
  · rw [zset_o (by omega), eo 2 (by omega)]; exact a3
  · rw [zset_o (by omega), eo 3 (by omega)]; exact a4
  · rw [zset_o (by omega), eo 4 (by omega)]; exact a5
  · rw [zset_o (by omega), eo 5 (by omega)]; exact a6
  · rw [zset_at, ec]
  · rw [zset_o (by omega), eo 7 (by omega)]; exact a8
  · rw [eo 2 (by omega)] at hs
    exact (h2 s hs).congr (hP.2.2.1 s (by omega)).1 (fun k k1 k2 => zset_o (by omega)) (fun i hi => eo i (by omega))
  · rw [eo 3 (by omega)] at hs
    exact (h3 s hs).congr (hP.2.2.1 (7 + s) (by omega)).1 (fun k k1 k2 => zset_o (by omega)) (fun i hi => eo i (by omega))
  · rw [eo 4 (by omega)] at hs
    exact (h4 s hs).congr (by omega) (hP.2.2.1 (10 + s) (by omega)).1 (fun k k1 k2 => zset_o (by omega)) (fun i hi => eo i (by omega)) (fun k hk => eo _ (by omega))
  · rw [ec] at hs
    by_cases e : s = q_n ρ 6
    · rw [e]
      exact f.mem (fun k k1 k2 => zset_o (by omega))
    · exact (h6 s (by omega)).congr (hR.2.2.2.2.2.1 s (by omega)).2.1.1 (hR.2.2.2.2.2.1 s (by omega)).2.2.1 (fun k k1 k2 => zset_o (by omega)) (fun i hi => eo i (by omega))
  · rw [eo 7 (by omega)] at hs
    exact (h7 s hs).congr (hR.2.2.2.2.2.2 s (by omega)).2.1.1 (hR.2.2.2.2.2.2 s (by omega)).2.2.1 (fun k k1 k2 => zset_o (by omega)) (fun i hi => eo i (by omega))
theorem RS.grow7 {t : Nat → Int} {n c p : Nat} {ρ ρ' : Nat → Int} {N M : ZM} (hc : isC c) (hS : RS t n c p ρ N M) (hP : PI ρ) (hs0 : ρ 7 < 5) (ec : ρ' 7 = ρ 7 + 1) (eo : ∀ i, ¬ (i = 7 ∨ (173 + 19 * q_n ρ 7 ≤ i ∧ i < 173 + 19 * q_n ρ 7 + 19)) → ρ' i = ρ i) (f : E7 ρ' c M (q_n ρ 7)) : RS t n c p ρ' N (zset M (c + 17) 4 (ρ 7 + 1)) := by
  have hR := hP.1
  have b := hR.2.1
  have e2 : ρ 2 = (q_n ρ 2 : Int) := hR.n (by decide)
  have e3 : ρ 3 = (q_n ρ 3 : Int) := hR.n (by decide)
  have e4 : ρ 4 = (q_n ρ 4 : Int) := hR.n (by decide)
  have e6 : ρ 6 = (q_n ρ 6 : Int) := hR.n (by decide)
  have e7 : ρ 7 = (q_n ρ 7 : Int) := hR.n (by decide)
  refine RS.of (hS.w.any hc (by omega) (hS.1.1.cnt hc (by decide))) (ICr_iff.mpr ?_)
  obtain ⟨⟨a0, a1, a2, a3, a4, a5, a6, a7, a8⟩, h2, h3, h4, h6, h7⟩ := ICr_iff.mp hS.2.2.1
  refine ⟨⟨?_, ?_, ?_, ?_, ?_, ?_, ?_, ?_, ?_⟩, fun s hs => ?_, fun s hs => ?_, fun s hs => ?_, fun s hs => ?_, fun s hs => ?_⟩
  · rw [q_tld_of (eo 0 (by omega)), zset_o (by omega)]; exact a0
  · rw [zset_o (by omega), eo 0 (by omega)]; exact a1
  · rw [zset_o (by omega), eo 1 (by omega)]; exact a2
  · rw [zset_o (by omega), eo 2 (by omega)]; exact a3
  · rw [zset_o (by omega), eo 3 (by omega)]; exact a4
  · rw [zset_o (by omega), eo 4 (by omega)]; exact a5
  · rw [zset_o (by omega), eo 5 (by omega)]; exact a6
  · rw [zset_o (by omega), eo 6 (by omega)]; exact a7
  · rw [zset_at, ec]
  · rw [eo 2 (by omega)] at hs
    exact (h2 s hs).congr (hP.2.2.1 s (by omega)).1 (fun k k1 k2 => zset_o (by omega)) (fun i hi => eo i (by omega))
  · rw [eo 3 (by omega)] at hs
    exact (h3 s hs).congr (hP.2.2.1 (7 + s) (by omega)).1 (fun k k1 k2 => zset_o (by omega)) (fun i hi => eo i (by omega))
  · rw [eo 4 (by omega)] at hs
    exact (h4 s hs).congr (by omega) (hP.2.2.1 (10 + s) (by omega)).1 (fun k k1 k2 => zset_o (by omega)) (fun i hi => eo i (by omega)) (fun k hk => eo _ (by omega))
  · rw [eo 6 (by omega)] at hs
    exact (h6 s hs).congr (hR.2.2.2.2.2.1 s (by omega)).2.1.1 (hR.2.2.2.2.2.1 s (by omega)).2.2.1 (fun k k1 k2 => zset_o (by omega)) (fun i hi => eo i (by omega))
  · rw [ec] at hs
    by_cases e : s = q_n ρ 7
    · rw [e]
      exact f.mem (fun k k1 k2 => zset_o (by omega))
    · exact (h7 s (by omega)).congr (hR.2.2.2.2.2.2 s (by omega)).2.1.1 (hR.2.2.2.2.2.2 s (by omega)).2.2.1 (fun k k1 k2 => zset_o (by omega)) (fun i hi => eo i (by omega))
