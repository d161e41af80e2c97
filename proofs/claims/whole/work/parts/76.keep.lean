/-! THE TEXT: what holds of a row that is being told is kept -/
theorem q_wordOk_congr {ρ ρ' : Nat → Int} {f : Nat} (h : q_wordOk ρ f) (hr : ∀ i, f ≤ i ∧ i < f + 9 → ρ' i = ρ i) : q_wordOk ρ' f := by
  obtain ⟨h1, h2⟩ := h
  refine ⟨by rw [hr f (by omega)]; exact h1, fun j hj => ?_⟩
  rw [hr f (by omega)] at hj
  rw [hr _ (by omega)]
  exact h2 j hj
theorem PI.grow2 {ρ ρ' : Nat → Int} (hP : PI ρ) (h0 : ρ 0 ≠ 0) (hs0 : ρ 2 < 7) (ec : ρ' 2 = ρ 2 + 1) (eo : ∀ i, ¬ (i = 2 ∨ (8 + 3 * q_n ρ 2 ≤ i ∧ i < 8 + 3 * q_n ρ 2 + 3) ∨ i = 268 + (q_n ρ 2) ∨ (285 + 8 * (q_n ρ 2) ≤ i ∧ i < 285 + 8 * (q_n ρ 2) + 8)) → ρ' i = ρ i) (hv : ∀ i, (i = 2 ∨ (8 + 3 * q_n ρ 2 ≤ i ∧ i < 8 + 3 * q_n ρ 2 + 3) ∨ i = 268 + (q_n ρ 2) ∨ (285 + 8 * (q_n ρ 2) ≤ i ∧ i < 285 + 8 * (q_n ρ 2) + 8)) → 0 ≤ ρ' i) (v : ρ' (8 + 3 * q_n ρ 2) ≤ 3 ∧ ρ' (8 + 3 * q_n ρ 2 + 1) ≤ 9 ∧ 1 ≤ ρ' (8 + 3 * q_n ρ 2 + 2) ∧ ρ' (8 + 3 * q_n ρ 2 + 2) ≤ 20) (nm : 1 ≤ ρ' (268 + (q_n ρ 2)) ∧ ρ' (268 + (q_n ρ 2)) ≤ 8 ∧ ∀ j : Nat, (j : Int) < ρ' (268 + (q_n ρ 2)) → 97 ≤ ρ' (285 + 8 * (q_n ρ 2) + j) ∧ ρ' (285 + 8 * (q_n ρ 2) + j) ≤ 122) (fr : ∀ m, m < 17 → 0 < ρ (268 + m) → q_nmp ρ m ≠ q_nmp ρ' (q_n ρ 2)) : PI ρ' := by
  obtain ⟨hR, hB, hC, hD, hE, hF, hG⟩ := hP
  have b := hR.2.1
  have e2 : ρ 2 = (q_n ρ 2 : Int) := hR.n (by decide)
  have e3 : ρ 3 = (q_n ρ 3 : Int) := hR.n (by decide)
  have e4 : ρ 4 = (q_n ρ 4 : Int) := hR.n (by decide)
  have e5 : ρ 5 = (q_n ρ 5 : Int) := hR.n (by decide)
  have e6 : ρ 6 = (q_n ρ 6 : Int) := hR.n (by decide)
  have e7 : ρ 7 = (q_n ρ 7 : Int) := hR.n (by decide)
  refine ⟨⟨fun i hi => ?_, ?_, fun s hs => ?_, fun s hs => ?_, fun s hs => ?_, fun s hs => ?_, fun s hs => ?_⟩, ⟨fun m hm => ?_, fun m hm => ?_, fun m hm => ?_⟩, fun m hm => ?_, fun m m2 hm hm2 g1 g2 g3 => ?_, ⟨fun s hs => ?_, fun s hs => ?_, fun s hs => ?_, fun s hs => ?_, fun s hs => ?_⟩, ?_, ⟨fun w hw => ?_, fun w hw hw2 => ?_⟩⟩
  · by_cases h : i = 2 ∨ (8 + 3 * q_n ρ 2 ≤ i ∧ i < 8 + 3 * q_n ρ 2 + 3) ∨ i = 268 + (q_n ρ 2) ∨ (285 + 8 * (q_n ρ 2) ≤ i ∧ i < 285 + 8 * (q_n ρ 2) + 8)
    · exact hv i h
    · rw [eo i h]; exact hR.1 i hi
  · rw [eo 0 (by omega), eo 1 (by omega), ec, eo 3 (by omega), eo 4 (by omega), eo 5 (by omega), eo 6 (by omega), eo 7 (by omega)]; omega
  · by_cases e : s = q_n ρ 2
    · rw [e]
      omega
    · rw [eo _ (by omega), eo _ (by omega), eo _ (by omega)]; exact hR.2.2.1 s hs
  · rw [eo _ (by omega), eo _ (by omega), eo _ (by omega)]; exact hR.2.2.2.1 s hs
  · rw [eo _ (by omega), eo _ (by omega), eo _ (by omega)]; exact hR.2.2.2.2.1 s hs
  · obtain ⟨k1, k2, k3⟩ := hR.2.2.2.2.2.1 s hs
    exact ⟨by rw [eo _ (by omega)]; exact k1, q_wordOk_congr k2 (fun i hi => eo i (by omega)), q_wordOk_congr k3 (fun i hi => eo i (by omega))⟩
  · obtain ⟨k1, k2, k3⟩ := hR.2.2.2.2.2.2 s hs
    exact ⟨by rw [eo _ (by omega)]; exact k1, q_wordOk_congr k2 (fun i hi => eo i (by omega)), q_wordOk_congr k3 (fun i hi => eo i (by omega))⟩
  · have k1 := hB.1 m hm
    by_cases e : m = q_n ρ 2
    · rw [e, ec]
      omega
    · rw [eo (268 + m) (by omega), ec]
      omega
  · rw [eo _ (by omega), eo 3 (by omega)]; exact hB.2.1 m hm
  · rw [eo _ (by omega), eo 4 (by omega)]; exact hB.2.2 m hm
  · obtain ⟨k1, k2⟩ := hC m hm
    by_cases e : m = (q_n ρ 2)
    · rw [e]
      exact ⟨nm.2.1, nm.2.2⟩
    · rw [eo (268 + m) (by omega)]
      refine ⟨k1, fun j hj => ?_⟩
      rw [eo _ (by omega)]
      exact k2 j hj
  · by_cases e : m = (q_n ρ 2)
    · by_cases e2 : m2 = (q_n ρ 2)
      · omega
      · rw [eo _ (by omega)] at g2
        rw [q_nmp_congr (hC m2 hm2).1 (fun i hi => eo i (by omega)), e] at g3
        exact absurd g3.symm (fr m2 hm2 g2)
    · by_cases e2 : m2 = (q_n ρ 2)
      · rw [eo _ (by omega)] at g1
        rw [q_nmp_congr (hC m hm).1 (fun i hi => eo i (by omega)), e2] at g3
        exact absurd g3 (fr m hm g1)
      · rw [eo _ (by omega)] at g1
        rw [eo _ (by omega)] at g2
        rw [q_nmp_congr (hC m hm).1 (fun i hi => eo i (by omega)), q_nmp_congr (hC m2 hm2).1 (fun i hi => eo i (by omega))] at g3
        exact hD m m2 hm hm2 g1 g2 g3
  · rw [ec] at hs
    by_cases e : s = q_n ρ 2
    · rw [e]; omega
    · rw [eo _ (by omega)]; exact hE.1 s (by omega)
  · rw [eo 3 (by omega)] at hs
    rw [eo _ (by omega)]; exact hE.2.1 s (by omega)
  · rw [eo 4 (by omega)] at hs
    rw [eo (38 + 3 * s) (by omega), eo (38 + 3 * s + 1) (by omega), eo (38 + 3 * s + 2) (by omega), eo 4 (by omega)]; exact hE.2.2.1 s (by omega)
  · rw [eo 6 (by omega)] at hs
    rw [eo (59 + 19 * s) (by omega), eo (59 + 19 * s + 1) (by omega), eo (59 + 19 * s + 10) (by omega)]; exact hE.2.2.2.1 s (by omega)
  · rw [eo 7 (by omega)] at hs
    rw [eo (173 + 19 * s) (by omega), eo (173 + 19 * s + 1) (by omega), eo (173 + 19 * s + 10) (by omega)]; exact hE.2.2.2.2 s (by omega)
  · intro h
    rw [eo 0 (by omega)] at h
    exact absurd h h0
  · rw [eo 4 (by omega)] at hw
    rw [ab_congr (r := q_n ρ') (r' := q_n ρ) (fun k hk => by unfold q_row q_n; rw [eo _ (by omega)]) (by omega)]
    exact hG.1 w hw
  · rw [eo 4 (by omega)] at hw2
    rw [eo _ (by omega)]
    exact hG.2 w hw hw2
theorem PI.grow3 {ρ ρ' : Nat → Int} (hP : PI ρ) (h0 : ρ 0 ≠ 0) (hs0 : ρ 3 < 3) (ec : ρ' 3 = ρ 3 + 1) (eo : ∀ i, ¬ (i = 3 ∨ (29 + 3 * q_n ρ 3 ≤ i ∧ i < 29 + 3 * q_n ρ 3 + 3) ∨ i = 268 + (7 + q_n ρ 3) ∨ (285 + 8 * (7 + q_n ρ 3) ≤ i ∧ i < 285 + 8 * (7 + q_n ρ 3) + 8)) → ρ' i = ρ i) (hv : ∀ i, (i = 3 ∨ (29 + 3 * q_n ρ 3 ≤ i ∧ i < 29 + 3 * q_n ρ 3 + 3) ∨ i = 268 + (7 + q_n ρ 3) ∨ (285 + 8 * (7 + q_n ρ 3) ≤ i ∧ i < 285 + 8 * (7 + q_n ρ 3) + 8)) → 0 ≤ ρ' i) (v : ρ' (29 + 3 * q_n ρ 3) ≤ 9 ∧ 1 ≤ ρ' (29 + 3 * q_n ρ 3 + 1) ∧ ρ' (29 + 3 * q_n ρ 3 + 1) ≤ 4 ∧ ρ' (29 + 3 * q_n ρ 3 + 2) ≤ 9) (nm : 1 ≤ ρ' (268 + (7 + q_n ρ 3)) ∧ ρ' (268 + (7 + q_n ρ 3)) ≤ 8 ∧ ∀ j : Nat, (j : Int) < ρ' (268 + (7 + q_n ρ 3)) → 97 ≤ ρ' (285 + 8 * (7 + q_n ρ 3) + j) ∧ ρ' (285 + 8 * (7 + q_n ρ 3) + j) ≤ 122) (fr : ∀ m, m < 17 → 0 < ρ (268 + m) → q_nmp ρ m ≠ q_nmp ρ' (7 + q_n ρ 3)) : PI ρ' := by
  obtain ⟨hR, hB, hC, hD, hE, hF, hG⟩ := hP
  have b := hR.2.1
  have e2 : ρ 2 = (q_n ρ 2 : Int) := hR.n (by decide)
  have e3 : ρ 3 = (q_n ρ 3 : Int) := hR.n (by decide)
  have e4 : ρ 4 = (q_n ρ 4 : Int) := hR.n (by decide)
  have e5 : ρ 5 = (q_n ρ 5 : Int) := hR.n (by decide)
  have e6 : ρ 6 = (q_n ρ 6 : Int) := hR.n (by decide)
  have e7 : ρ 7 = (q_n ρ 7 : Int) := hR.n (by decide)
  refine ⟨⟨fun i hi => ?_, ?_, fun s hs => ?_, fun s hs => ?_, fun s hs => ?_, fun s hs => ?_, fun s hs => ?_⟩, ⟨fun m hm => ?_, fun m hm => ?_, fun m hm => ?_⟩, fun m hm => ?_, fun m m2 hm hm2 g1 g2 g3 => ?_, ⟨fun s hs => ?_, fun s hs => ?_, fun s hs => ?_, fun s hs => ?_, fun s hs => ?_⟩, ?_, ⟨fun w hw => ?_, fun w hw hw2 => ?_⟩⟩
  · by_cases h : i = 3 ∨ (29 + 3 * q_n ρ 3 ≤ i ∧ i < 29 + 3 * q_n ρ 3 + 3) ∨ i = 268 + (7 + q_n ρ 3) ∨ (285 + 8 * (7 + q_n ρ 3) ≤ i ∧ i < 285 + 8 * (7 + q_n ρ 3) + 8)
    · exact hv i h
    · rw [eo i h]; exact hR.1 i hi
  · rw [eo 0 (by omega), eo 1 (by omega), eo 2 (by omega), ec, eo 4 (by omega), eo 5 (by omega), eo 6 (by omega), eo 7 (by omega)]; omega
  · rw [eo _ (by omega), eo _ (by omega), eo _ (by omega)]; exact hR.2.2.1 s hs
  · by_cases e : s = q_n ρ 3
    · rw [e]
      omega
    · rw [eo _ (by omega), eo _ (by omega), eo _ (by omega)]; exact hR.2.2.2.1 s hs
  · rw [eo _ (by omega), eo _ (by omega), eo _ (by omega)]; exact hR.2.2.2.2.1 s hs
  · obtain ⟨k1, k2, k3⟩ := hR.2.2.2.2.2.1 s hs
    exact ⟨by rw [eo _ (by omega)]; exact k1, q_wordOk_congr k2 (fun i hi => eo i (by omega)), q_wordOk_congr k3 (fun i hi => eo i (by omega))⟩
  · obtain ⟨k1, k2, k3⟩ := hR.2.2.2.2.2.2 s hs
    exact ⟨by rw [eo _ (by omega)]; exact k1, q_wordOk_congr k2 (fun i hi => eo i (by omega)), q_wordOk_congr k3 (fun i hi => eo i (by omega))⟩
  · rw [eo _ (by omega), eo 2 (by omega)]; exact hB.1 m hm
  · have k1 := hB.2.1 m hm
    by_cases e : m = q_n ρ 3
    · rw [e, ec]
      omega
    · rw [eo (268 + (7 + m)) (by omega), ec]
      omega
  · rw [eo _ (by omega), eo 4 (by omega)]; exact hB.2.2 m hm
  · obtain ⟨k1, k2⟩ := hC m hm
    by_cases e : m = (7 + q_n ρ 3)
    · rw [e]
      exact ⟨nm.2.1, nm.2.2⟩
    · rw [eo (268 + m) (by omega)]
      refine ⟨k1, fun j hj => ?_⟩
      rw [eo _ (by omega)]
      exact k2 j hj
  · by_cases e : m = (7 + q_n ρ 3)
    · by_cases e2 : m2 = (7 + q_n ρ 3)
      · omega
      · rw [eo _ (by omega)] at g2
        rw [q_nmp_congr (hC m2 hm2).1 (fun i hi => eo i (by omega)), e] at g3
        exact absurd g3.symm (fr m2 hm2 g2)
    · by_cases e2 : m2 = (7 + q_n ρ 3)
      · rw [eo _ (by omega)] at g1
        rw [q_nmp_congr (hC m hm).1 (fun i hi => eo i (by omega)), e2] at g3
        exact absurd g3 (fr m hm g1)
      · rw [eo _ (by omega)] at g1
        rw [eo _ (by omega)] at g2
        rw [q_nmp_congr (hC m hm).1 (fun i hi => eo i (by omega)), q_nmp_congr (hC m2 hm2).1 (fun i hi => eo i (by omega))] at g3
        exact hD m m2 hm hm2 g1 g2 g3
  · rw [eo 2 (by omega)] at hs
    rw [eo _ (by omega)]; exact hE.1 s (by omega)
  · rw [ec] at hs
    by_cases e : s = q_n ρ 3
    · rw [e]; omega
    · rw [eo _ (by omega)]; exact hE.2.1 s (by omega)
  · rw [eo 4 (by omega)] at hs
    rw [eo (38 + 3 * s) (by omega), eo (38 + 3 * s + 1) (by omega), eo (38 + 3 * s + 2) (by omega), eo 4 (by omega)]; exact hE.2.2.1 s (by omega)
  · rw [eo 6 (by omega)] at hs
    rw [eo (59 + 19 * s) (by omega), eo (59 + 19 * s + 1) (by omega), eo (59 + 19 * s + 10) (by omega)]; exact hE.2.2.2.1 s (by omega)
  · rw [eo 7 (by omega)] at hs
    rw [eo (173 + 19 * s) (by omega), eo (173 + 19 * s + 1) (by omega), eo (173 + 19 * s + 10) (by omega)]; exact hE.2.2.2.2 s (by omega)
  · intro h
    rw [eo 0 (by omega)] at h
    exact absurd h h0
  · rw [eo 4 (by omega)] at hw
    rw [ab_congr (r := q_n ρ') (r' := q_n ρ) (fun k hk => by unfold q_row q_n; rw [eo _ (by omega)]) (by omega)]
    exact hG.1 w hw
  · rw [eo 4 (by omega)] at hw2
    rw [eo _ (by omega)]
    exact hG.2 w hw hw2
theorem PI.grow4 {ρ ρ' : Nat → Int} (hP : PI ρ) (h0 : ρ 0 ≠ 0) (hs0 : ρ 4 < 7) (ec : ρ' 4 = ρ 4 + 1) (eo : ∀ i, ¬ (i = 4 ∨ (38 + 3 * q_n ρ 4 ≤ i ∧ i < 38 + 3 * q_n ρ 4 + 2) ∨ i = 268 + (10 + q_n ρ 4) ∨ (285 + 8 * (10 + q_n ρ 4) ≤ i ∧ i < 285 + 8 * (10 + q_n ρ 4) + 8)) → ρ' i = ρ i) (hv : ∀ i, (i = 4 ∨ (38 + 3 * q_n ρ 4 ≤ i ∧ i < 38 + 3 * q_n ρ 4 + 2) ∨ i = 268 + (10 + q_n ρ 4) ∨ (285 + 8 * (10 + q_n ρ 4) ≤ i ∧ i < 285 + 8 * (10 + q_n ρ 4) + 8)) → 0 ≤ ρ' i) (v : 1 ≤ ρ' (38 + 3 * q_n ρ 4) ∧ ρ' (38 + 3 * q_n ρ 4) ≤ 99 ∧ 1 ≤ ρ' (38 + 3 * q_n ρ 4 + 1) ∧ ρ' (38 + 3 * q_n ρ 4 + 1) ≤ 30) (nm : 1 ≤ ρ' (268 + (10 + q_n ρ 4)) ∧ ρ' (268 + (10 + q_n ρ 4)) ≤ 8 ∧ ∀ j : Nat, (j : Int) < ρ' (268 + (10 + q_n ρ 4)) → 97 ≤ ρ' (285 + 8 * (10 + q_n ρ 4) + j) ∧ ρ' (285 + 8 * (10 + q_n ρ 4) + j) ≤ 122) (fr : ∀ m, m < 17 → 0 < ρ (268 + m) → q_nmp ρ m ≠ q_nmp ρ' (10 + q_n ρ 4)) : PI ρ' := by
  obtain ⟨hR, hB, hC, hD, hE, hF, hG⟩ := hP
  have b := hR.2.1
  have e2 : ρ 2 = (q_n ρ 2 : Int) := hR.n (by decide)
  have e3 : ρ 3 = (q_n ρ 3 : Int) := hR.n (by decide)
  have e4 : ρ 4 = (q_n ρ 4 : Int) := hR.n (by decide)
  have e5 : ρ 5 = (q_n ρ 5 : Int) := hR.n (by decide)
  have e6 : ρ 6 = (q_n ρ 6 : Int) := hR.n (by decide)
  have e7 : ρ 7 = (q_n ρ 7 : Int) := hR.n (by decide)
  refine ⟨⟨fun i hi => ?_, ?_, fun s hs => ?_, fun s hs => ?_, fun s hs => ?_, fun s hs => ?_, fun s hs => ?_⟩, ⟨fun m hm => ?_, fun m hm => ?_, fun m hm => ?_⟩, fun m hm => ?_, fun m m2 hm hm2 g1 g2 g3 => ?_, ⟨fun s hs => ?_, fun s hs => ?_, fun s hs => ?_, fun s hs => ?_, fun s hs => ?_⟩, ?_, ⟨fun w hw => ?_, fun w hw hw2 => ?_⟩⟩
  · by_cases h : i = 4 ∨ (38 + 3 * q_n ρ 4 ≤ i ∧ i < 38 + 3 * q_n ρ 4 + 2) ∨ i = 268 + (10 + q_n ρ 4) ∨ (285 + 8 * (10 + q_n ρ 4) ≤ i ∧ i < 285 + 8 * (10 + q_n ρ 4) + 8)
    · exact hv i h
    · rw [eo i h]; exact hR.1 i hi
  · rw [eo 0 (by omega), eo 1 (by omega), eo 2 (by omega), eo 3 (by omega), ec, eo 5 (by omega), eo 6 (by omega), eo 7 (by omega)]; omega
  · rw [eo _ (by omega), eo _ (by omega), eo _ (by omega)]; exact hR.2.2.1 s hs
  · rw [eo _ (by omega), eo _ (by omega), eo _ (by omega)]; exact hR.2.2.2.1 s hs
  · by_cases e : s = q_n ρ 4
    · rw [e]
      rw [eo (38 + 3 * q_n ρ 4 + 2) (by omega)]
      have := (hR.2.2.2.2.1 (q_n ρ 4) (by omega)).2.2
      omega
    · rw [eo _ (by omega), eo _ (by omega), eo _ (by omega)]; exact hR.2.2.2.2.1 s hs
  · obtain ⟨k1, k2, k3⟩ := hR.2.2.2.2.2.1 s hs
    exact ⟨by rw [eo _ (by omega)]; exact k1, q_wordOk_congr k2 (fun i hi => eo i (by omega)), q_wordOk_congr k3 (fun i hi => eo i (by omega))⟩
  · obtain ⟨k1, k2, k3⟩ := hR.2.2.2.2.2.2 s hs
    exact ⟨by rw [eo _ (by omega)]; exact k1, q_wordOk_congr k2 (fun i hi => eo i (by omega)), q_wordOk_congr k3 (fun i hi => eo i (by omega))⟩
  · rw [eo _ (by omega), eo 2 (by omega)]; exact hB.1 m hm
  · rw [eo _ (by omega), eo 3 (by omega)]; exact hB.2.1 m hm
  · have k1 := hB.2.2 m hm
    by_cases e : m = q_n ρ 4
    · rw [e, ec]
      omega
    · rw [eo (268 + (10 + m)) (by omega), ec]
      omega
  · obtain ⟨k1, k2⟩ := hC m hm
    by_cases e : m = (10 + q_n ρ 4)
    · rw [e]
      exact ⟨nm.2.1, nm.2.2⟩
    · rw [eo (268 + m) (by omega)]
      refine ⟨k1, fun j hj => ?_⟩
      rw [eo _ (by omega)]
      exact k2 j hj
  · by_cases e : m = (10 + q_n ρ 4)
    · by_cases e2 : m2 = (10 + q_n ρ 4)
      · omega
      · rw [eo _ (by omega)] at g2
        rw [q_nmp_congr (hC m2 hm2).1 (fun i hi => eo i (by omega)), e] at g3
        exact absurd g3.symm (fr m2 hm2 g2)
    · by_cases e2 : m2 = (10 + q_n ρ 4)
      · rw [eo _ (by omega)] at g1
        rw [q_nmp_congr (hC m hm).1 (fun i hi => eo i (by omega)), e2] at g3
        exact absurd g3 (fr m hm g1)
      · rw [eo _ (by omega)] at g1
        rw [eo _ (by omega)] at g2
        rw [q_nmp_congr (hC m hm).1 (fun i hi => eo i (by omega)), q_nmp_congr (hC m2 hm2).1 (fun i hi => eo i (by omega))] at g3
        exact hD m m2 hm hm2 g1 g2 g3
  · rw [eo 2 (by omega)] at hs
    rw [eo _ (by omega)]; exact hE.1 s (by omega)
  · rw [eo 3 (by omega)] at hs
    rw [eo _ (by omega)]; exact hE.2.1 s (by omega)
  · rw [ec] at hs
    rw [ec]
    have hp2 : (2 : Int) ^ (ρ 4).toNat ≤ 2 ^ (ρ 4 + 1).toNat := by
      have k1 : (2 : Nat) ^ (ρ 4).toNat ≤ 2 ^ (ρ 4 + 1).toNat := Nat.pow_le_pow_right (by decide) (by omega)
      exact_mod_cast k1
    have hp1 : (1 : Int) ≤ 2 ^ (ρ 4).toNat := by
      have k1 : 0 < (2 : Nat) ^ (ρ 4).toNat := Nat.two_pow_pos _
      exact_mod_cast k1
    by_cases e : s = q_n ρ 4
    · rw [e, eo (38 + 3 * q_n ρ 4 + 2) (by omega), hG.2 (q_n ρ 4) (by omega) (by omega)]
      omega
    · rw [eo (38 + 3 * s) (by omega), eo (38 + 3 * s + 1) (by omega), eo (38 + 3 * s + 2) (by omega)]
      have k3 := hE.2.2.1 s (by omega)
      omega
  · rw [eo 6 (by omega)] at hs
    rw [eo (59 + 19 * s) (by omega), eo (59 + 19 * s + 1) (by omega), eo (59 + 19 * s + 10) (by omega)]; exact hE.2.2.2.1 s (by omega)
  · rw [eo 7 (by omega)] at hs
    rw [eo (173 + 19 * s) (by omega), eo (173 + 19 * s + 1) (by omega), eo (173 + 19 * s + 10) (by omega)]; exact hE.2.2.2.2 s (by omega)
  · intro h
    rw [eo 0 (by omega)] at h
    exact absurd h h0
  · rw [ec] at hw
    rw [ab_congr (r := q_n ρ') (r' := q_n ρ) (fun k hk => by unfold q_row q_n; rw [eo _ (by omega)]) (by omega)]
    by_cases e : w = q_n ρ 4
    · rw [e, q_ab0 (fun k => hR.ab k) (hG.2 (q_n ρ 4) (by omega) (by omega))]
      exact Nat.zero_testBit _
    · exact hG.1 w (by omega)
  · rw [ec] at hw2
    rw [eo _ (by omega)]
    exact hG.2 w hw (by omega)
theorem PI.grow6 {ρ ρ' : Nat → Int} (hP : PI ρ) (h0 : ρ 0 ≠ 0) (hs0 : ρ 6 < 6) (ec : ρ' 6 = ρ 6 + 1) (eo : ∀ i, ¬ (i = 6 ∨ (59 + 19 * q_n ρ 6 ≤ i ∧ i < 59 + 19 * q_n ρ 6 + 19)) → ρ' i = ρ i) (hv : ∀ i, (i = 6 ∨ (59 + 19 * q_n ρ 6 ≤ i ∧ i < 59 + 19 * q_n ρ 6 + 19)) → 0 ≤ ρ' i) (v : 1 ≤ ρ' (59 + 19 * q_n ρ 6) ∧ ρ' (59 + 19 * q_n ρ 6) ≤ 9 ∧ 1 ≤ ρ' (59 + 19 * q_n ρ 6 + 1) ∧ q_wordOk ρ' (59 + 19 * q_n ρ 6 + 1) ∧ 1 ≤ ρ' (59 + 19 * q_n ρ 6 + 10) ∧ q_wordOk ρ' (59 + 19 * q_n ρ 6 + 10)) : PI ρ' := by
  obtain ⟨hR, hB, hC, hD, hE, hF, hG⟩ := hP
  have b := hR.2.1
  have e2 : ρ 2 = (q_n ρ 2 : Int) := hR.n (by decide)
  have e3 : ρ 3 = (q_n ρ 3 : Int) := hR.n (by decide)
  have e4 : ρ 4 = (q_n ρ 4 : Int) := hR.n (by decide)
  have e5 : ρ 5 = (q_n ρ 5 : Int) := hR.n (by decide)
  have e6 : ρ 6 = (q_n ρ 6 : Int) := hR.n (by decide)
  have e7 : ρ 7 = (q_n ρ 7 : Int) := hR.n (by decide)
  refine ⟨⟨fun i hi => ?_, ?_, fun s hs => ?_, fun s hs => ?_, fun s hs => ?_, fun s hs => ?_, fun s hs => ?_⟩, ⟨fun m hm => ?_, fun m hm => ?_, fun m hm => ?_⟩, fun m hm => ?_, fun m m2 hm hm2 g1 g2 g3 => ?_, ⟨fun s hs => ?_, fun s hs => ?_, fun s hs => ?_, fun s hs => ?_, fun s hs => ?_⟩, ?_, ⟨fun w hw => ?_, fun w hw hw2 => ?_⟩⟩
  · by_cases h : i = 6 ∨ (59 + 19 * q_n ρ 6 ≤ i ∧ i < 59 + 19 * q_n ρ 6 + 19)
    · exact hv i h
    · rw [eo i h]; exact hR.1 i hi
  · rw [eo 0 (by omega), eo 1 (by omega), eo 2 (by omega), eo 3 (by omega), eo 4 (by omega), eo 5 (by omega), ec, eo 7 (by omega)]; omega
  · rw [eo _ (by omega), eo _ (by omega), eo _ (by omega)]; exact hR.2.2.1 s hs
  · rw [eo _ (by omega), eo _ (by omega), eo _ (by omega)]; exact hR.2.2.2.1 s hs
  · rw [eo _ (by omega), eo _ (by omega), eo _ (by omega)]; exact hR.2.2.2.2.1 s hs
  · by_cases e : s = q_n ρ 6
    · rw [e]
      exact ⟨v.2.1, v.2.2.2.1, v.2.2.2.2.2⟩
    · obtain ⟨k1, k2, k3⟩ := hR.2.2.2.2.2.1 s hs
      exact ⟨by rw [eo _ (by omega)]; exact k1, q_wordOk_congr k2 (fun i hi => eo i (by omega)), q_wordOk_congr k3 (fun i hi => eo i (by omega))⟩
  · obtain ⟨k1, k2, k3⟩ := hR.2.2.2.2.2.2 s hs
    exact ⟨by rw [eo _ (by omega)]; exact k1, q_wordOk_congr k2 (fun i hi => eo i (by omega)), q_wordOk_congr k3 (fun i hi => eo i (by omega))⟩
  · rw [eo _ (by omega), eo 2 (by omega)]; exact hB.1 m hm
  · rw [eo _ (by omega), eo 3 (by omega)]; exact hB.2.1 m hm
  · rw [eo _ (by omega), eo 4 (by omega)]; exact hB.2.2 m hm
  · obtain ⟨k1, k2⟩ := hC m hm
    rw [eo (268 + m) (by omega)]
    refine ⟨k1, fun j hj => ?_⟩
    rw [eo _ (by omega)]
    exact k2 j hj
  · rw [eo _ (by omega)] at g1
    rw [eo _ (by omega)] at g2
    rw [q_nmp_congr (hC m hm).1 (fun i hi => eo i (by omega)), q_nmp_congr (hC m2 hm2).1 (fun i hi => eo i (by omega))] at g3
    exact hD m m2 hm hm2 g1 g2 g3
  · rw [eo 2 (by omega)] at hs
    rw [eo _ (by omega)]; exact hE.1 s (by omega)
  · rw [eo 3 (by omega)] at hs
    rw [eo _ (by omega)]; exact hE.2.1 s (by omega)
  · rw [eo 4 (by omega)] at hs
    rw [eo (38 + 3 * s) (by omega), eo (38 + 3 * s + 1) (by omega), eo (38 + 3 * s + 2) (by omega), eo 4 (by omega)]; exact hE.2.2.1 s (by omega)
  · rw [ec] at hs
    by_cases e : s = q_n ρ 6
    · rw [e]
      exact ⟨v.1, v.2.2.1, v.2.2.2.2.1⟩
    · rw [eo (59 + 19 * s) (by omega), eo (59 + 19 * s + 1) (by omega), eo (59 + 19 * s + 10) (by omega)]; exact hE.2.2.2.1 s (by omega)
  · rw [eo 7 (by omega)] at hs
    rw [eo (173 + 19 * s) (by omega), eo (173 + 19 * s + 1) (by omega), eo (173 + 19 * s + 10) (by omega)]; exact hE.2.2.2.2 s (by omega)
  · intro h
    rw [eo 0 (by omega)] at h
    exact absurd h h0
  · rw [eo 4 (by omega)] at hw
    rw [ab_congr (r := q_n ρ') (r' := q_n ρ) (fun k hk => by unfold q_row q_n; rw [eo _ (by omega)]) (by omega)]
    exact hG.1 w hw
  · rw [eo 4 (by omega)] at hw2
    rw [eo _ (by omega)]
    exact hG.2 w hw hw2
theorem PI.grow7 {ρ ρ' : Nat → Int} (hP : PI ρ) (h0 : ρ 0 ≠ 0) (hs0 : ρ 7 < 5) (ec : ρ' 7 = ρ 7 + 1) (eo : ∀ i, ¬ (i = 7 ∨ (173 + 19 * q_n ρ 7 ≤ i ∧ i < 173 + 19 * q_n ρ 7 + 19)) → ρ' i = ρ i) (hv : ∀ i, (i = 7 ∨ (173 + 19 * q_n ρ 7 ≤ i ∧ i < 173 + 19 * q_n ρ 7 + 19)) → 0 ≤ ρ' i) (v : ρ' (173 + 19 * q_n ρ 7) ≤ 1 ∧ 1 ≤ ρ' (173 + 19 * q_n ρ 7 + 1) ∧ q_wordOk ρ' (173 + 19 * q_n ρ 7 + 1) ∧ q_wordOk ρ' (173 + 19 * q_n ρ 7 + 10) ∧ (ρ' (173 + 19 * q_n ρ 7) = 1 → 1 ≤ ρ' (173 + 19 * q_n ρ 7 + 10))) : PI ρ' := by
  obtain ⟨hR, hB, hC, hD, hE, hF, hG⟩ := hP
  have b := hR.2.1
  have e2 : ρ 2 = (q_n ρ 2 : Int) := hR.n (by decide)
  have e3 : ρ 3 = (q_n ρ 3 : Int) := hR.n (by decide)
  have e4 : ρ 4 = (q_n ρ 4 : Int) := hR.n (by decide)
  have e5 : ρ 5 = (q_n ρ 5 : Int) := hR.n (by decide)
  have e6 : ρ 6 = (q_n ρ 6 : Int) := hR.n (by decide)
  have e7 : ρ 7 = (q_n ρ 7 : Int) := hR.n (by decide)
  refine ⟨⟨fun i hi => ?_, ?_, fun s hs => ?_, fun s hs => ?_, fun s hs => ?_, fun s hs => ?_, fun s hs => ?_⟩, ⟨fun m hm => ?_, fun m hm => ?_, fun m hm => ?_⟩, fun m hm => ?_, fun m m2 hm hm2 g1 g2 g3 => ?_, ⟨fun s hs => ?_, fun s hs => ?_, fun s hs => ?_, fun s hs => ?_, fun s hs => ?_⟩, ?_, ⟨fun w hw => ?_, fun w hw hw2 => ?_⟩⟩
  · by_cases h : i = 7 ∨ (173 + 19 * q_n ρ 7 ≤ i ∧ i < 173 + 19 * q_n ρ 7 + 19)
    · exact hv i h
    · rw [eo i h]; exact hR.1 i hi
  · rw [eo 0 (by omega), eo 1 (by omega), eo 2 (by omega), eo 3 (by omega), eo 4 (by omega), eo 5 (by omega), eo 6 (by omega), ec]; omega
  · rw [eo _ (by omega), eo _ (by omega), eo _ (by omega)]; exact hR.2.2.1 s hs
  · rw [eo _ (by omega), eo _ (by omega), eo _ (by omega)]; exact hR.2.2.2.1 s hs
  · rw [eo _ (by omega), eo _ (by omega), eo _ (by omega)]; exact hR.2.2.2.2.1 s hs
  · obtain ⟨k1, k2, k3⟩ := hR.2.2.2.2.2.1 s hs
    exact ⟨by rw [eo _ (by omega)]; exact k1, q_wordOk_congr k2 (fun i hi => eo i (by omega)), q_wordOk_congr k3 (fun i hi => eo i (by omega))⟩
  · by_cases e : s = q_n ρ 7
    · rw [e]
      exact ⟨v.1, v.2.2.1, v.2.2.2.1⟩
    · obtain ⟨k1, k2, k3⟩ := hR.2.2.2.2.2.2 s hs
      exact ⟨by rw [eo _ (by omega)]; exact k1, q_wordOk_congr k2 (fun i hi => eo i (by omega)), q_wordOk_congr k3 (fun i hi => eo i (by omega))⟩
  · rw [eo _ (by omega), eo 2 (by omega)]; exact hB.1 m hm
  · rw [eo _ (by omega), eo 3 (by omega)]; exact hB.2.1 m hm
  · rw [eo _ (by omega), eo 4 (by omega)]; exact hB.2.2 m hm
  · obtain ⟨k1, k2⟩ := hC m hm
    rw [eo (268 + m) (by omega)]
    refine ⟨k1, fun j hj => ?_⟩
    rw [eo _ (by omega)]
    exact k2 j hj
  · rw [eo _ (by omega)] at g1
    rw [eo _ (by omega)] at g2
    rw [q_nmp_congr (hC m hm).1 (fun i hi => eo i (by omega)), q_nmp_congr (hC m2 hm2).1 (fun i hi => eo i (by omega))] at g3
    exact hD m m2 hm hm2 g1 g2 g3
  · rw [eo 2 (by omega)] at hs
    rw [eo _ (by omega)]; exact hE.1 s (by omega)
  · rw [eo 3 (by omega)] at hs
    rw [eo _ (by omega)]; exact hE.2.1 s (by omega)
  · rw [eo 4 (by omega)] at hs
    rw [eo (38 + 3 * s) (by omega), eo (38 + 3 * s + 1) (by omega), eo (38 + 3 * s + 2) (by omega), eo 4 (by omega)]; exact hE.2.2.1 s (by omega)
  · rw [eo 6 (by omega)] at hs
    rw [eo (59 + 19 * s) (by omega), eo (59 + 19 * s + 1) (by omega), eo (59 + 19 * s + 10) (by omega)]; exact hE.2.2.2.1 s (by omega)
  · rw [ec] at hs
    by_cases e : s = q_n ρ 7
    · rw [e]
      exact ⟨v.2.1, v.2.2.2.2⟩
    · rw [eo (173 + 19 * s) (by omega), eo (173 + 19 * s + 1) (by omega), eo (173 + 19 * s + 10) (by omega)]; exact hE.2.2.2.2 s (by omega)
  · intro h
    rw [eo 0 (by omega)] at h
    exact absurd h h0
  · rw [eo 4 (by omega)] at hw
    rw [ab_congr (r := q_n ρ') (r' := q_n ρ) (fun k hk => by unfold q_row q_n; rw [eo _ (by omega)]) (by omega)]
    exact hG.1 w hw
  · rw [eo 4 (by omega)] at hw2
    rw [eo _ (by omega)]
    exact hG.2 w hw hw2
