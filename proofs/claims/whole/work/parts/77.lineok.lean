/-! THE TEXT: each line keeps what holds of the row -/
theorem q_bindR_inv {α : Type} {x : PR} {f : Nat → (Nat → Int) → (Int × Int) ⊕ α} {r : α} (h : q_bindR x f = .inr r) : ∃ p ρ, x = .inr (p, ρ) ∧ f p ρ = .inr r := by
  cases x with
  | inl e => cases h
  | inr q => exact ⟨q.1, q.2, rfl, h⟩
theorem q_bindN_inv {α : Type} {x : (Int × Int) ⊕ (Nat × Int)} {f : Nat → Int → (Int × Int) ⊕ α} {r : α} (h : q_bindN x f = .inr r) : ∃ p v, x = .inr (p, v) ∧ f p v = .inr r := by
  cases x with
  | inl e => cases h
  | inr q => exact ⟨q.1, q.2, rfl, h⟩
theorem q_bindW_inv {α : Type} {x : (Int × Int) ⊕ Nat} {f : Nat → (Int × Int) ⊕ α} {r : α} (h : q_bindW x f = .inr r) : ∃ w, x = .inr w ∧ f w = .inr r := by
  cases x with
  | inl e => cases h
  | inr q => exact ⟨q, rfl, h⟩
theorem q_inr {p p' : Nat} {ρ ρ' : Nat → Int} (h : (.inr (p, ρ) : PR) = .inr (p', ρ')) : p' = p ∧ ρ' = ρ := by
  cases h
  exact ⟨rfl, rfl⟩
theorem q_en_ge (t : Nat → Int) {n p : Nat} (hp : p ≤ n) : p ≤ q_en t n p := Nat.le_trans (q_at_le t hp).1 (q_en_le t hp).1
theorem q_num_inv {t : Nat → Int} {n p : Nat} {lo hi : Int} {p1 : Nat} {v : Int} (h : q_num t n p lo hi = .inr (p1, v)) : p1 = q_en t n p ∧ v = q_nb t n p ∧ lo ≤ v ∧ v ≤ hi := by
  unfold q_num at h
  split at h
  · cases h
  · split at h
    · rename_i h9
      cases h
      exact ⟨rfl, rfl, h9.1, h9.2⟩
    · cases h
theorem q_aft_inv {t : Nat → Int} {n p i : Nat} {lo hi : Int} {p1 : Nat} {v : Int} (h : q_aft t n p i lo hi = .inr (p1, v)) : p1 = q_en t n (q_en t n p) ∧ v = q_nb t n (q_en t n p) ∧ lo ≤ v ∧ v ≤ hi := by
  unfold q_aft at h
  split at h
  · exact q_num_inv h
  · cases h
theorem q_newn_inv {t : Nat → Int} {n p : Nat} {ρ : Nat → Int} {m p1 : Nat} {ρ1 : Nat → Int} (h : q_newn t n p ρ m = .inr (p1, ρ1)) : q_tk t n p = 2 ∧ ¬ (q_fnd t n p ρ).isSome = true ∧ p1 = q_en t n p ∧ ρ1 = q_nm t n p ρ m := by
  unfold q_newn at h
  split at h
  · cases h
  · rename_i h1
    split at h
    · cases h
    · rename_i h2
      cases h
      exact ⟨Decidable.not_not.mp (fun g => h1 (Or.inl g)), h2, rfl, rfl⟩
def nn (ρ : Nat → Int) : Prop := ∀ i, i < 421 → 0 ≤ ρ i
theorem nn.up {ρ : Nat → Int} {k : Nat} {v : Int} (h : nn ρ) (hv : 0 ≤ v) : nn (q_up ρ k v) := by
  intro i hi
  unfold q_up
  split
  · exact hv
  · exact h i hi
theorem nn.nm {t : Nat → Int} {n p : Nat} {ρ : Nat → Int} {m : Nat} (h : nn ρ) (hw : ∀ j, j < q_ln t n p → 97 ≤ t (q_at t n p + j) ∧ t (q_at t n p + j) ≤ 122) : nn (q_nm t n p ρ m) := by
  intro i hi
  unfold q_nm
  split
  · rename_i g
    have := hw (i - (285 + 8 * m)) (by omega)
    omega
  · split
    · omega
    · exact h i hi
theorem nn.lay {t : Nat → Int} {n p : Nat} {ρ : Nat → Int} {f : Nat} (h : nn ρ) (hw : ∀ j, j < q_ln t n p → 97 ≤ t (q_at t n p + j) ∧ t (q_at t n p + j) ≤ 122) : nn (q_lay t n p ρ f) := by
  intro i hi
  unfold q_lay
  split
  · rename_i g
    have := hw (i - (f + 1)) (by omega)
    omega
  · split
    · omega
    · exact h i hi
theorem q_lay_ok {t : Nat → Int} {n p : Nat} {ρ ρ' : Nat → Int} {f : Nat} (hp : p ≤ n) (hk : q_tk t n p = 2) (hr : ∀ i, f ≤ i ∧ i < f + 9 → ρ' i = q_lay t n p ρ f i) : 1 ≤ ρ' f ∧ q_wordOk ρ' f := by
  obtain ⟨w1, w2, w3, w4, w5⟩ := q_tk_word hp hk
  have e : ρ' f = (q_ln t n p : Int) := by rw [hr f (by omega), q_lay_at]
  refine ⟨by omega, by omega, fun j hj => ?_⟩
  rw [e] at hj
  rw [hr _ (by omega), q_lay_in (by omega)]
  exact w5 j (by omega)
theorem q_kind_nn {t : Nat → Int} {n p : Nat} (h : ¬ q_kind t n p < 0) : 0 ≤ q_kind t n p ∧ q_kind t n p ≤ 3 := ⟨by omega, (q_kind_bd t n p).2⟩
theorem q_lsleeper_ok {t : Nat → Int} {n p : Nat} {ρ : Nat → Int} (hp : p ≤ n) (hP : PI ρ) (h0 : ρ 0 ≠ 0) (hr : ρ 2 < 7) {p' : Nat} {ρ' : Nat → Int} (h : q_lsleeper t n p ρ = .inr (p', ρ')) : PI ρ' ∧ p ≤ p' ∧ p' ≤ n ∧ ρ' 0 = ρ 0 := by
  have hR := hP.1
  have eg : ρ 2 = (q_n ρ 2 : Int) := hR.n (by decide)
  unfold q_lsleeper at h
  obtain ⟨p1, ρ1, h1, h⟩ := q_bindR_inv h
  obtain ⟨hk2, hnf, rfl, rfl⟩ := q_newn_inv h1
  have hlw := q_tk_word hp hk2
  by_cases hkd : q_kind t n (q_en t n p) < 0
  · rw [if_pos hkd] at h
    cases h
  rw [if_neg hkd] at h
  have hkb := q_kind_nn hkd
  obtain ⟨p2, v2, h2, h⟩ := q_bindN_inv h
  obtain ⟨rfl, hv2, hl2, hu2⟩ := q_aft_inv h2
  obtain ⟨p3, v3, h3, h⟩ := q_bindN_inv h
  obtain ⟨rfl, hv3, hl3, hu3⟩ := q_aft_inv h3
  have hp1 := q_en_n t hp
  have gp1 := q_en_ge t hp
  have hp2 := q_en_n t hp1
  have gp2 := q_en_ge t hp1
  have hp3 := q_en_n t hp2
  have gp3 := q_en_ge t hp2
  have hp4 := q_en_n t hp3
  have gp4 := q_en_ge t hp3
  have hp5 := q_en_n t hp4
  have gp5 := q_en_ge t hp4
  have hp6 := q_en_n t hp5
  have gp6 := q_en_ge t hp5
  obtain ⟨rfl, rfl⟩ := q_inr h
  have u0 : (q_up (q_up (q_up (q_up (q_nm t n p ρ (q_n ρ 2)) (8 + 3 * q_n ρ 2) (q_kind t n (q_en t n p))) (8 + 3 * q_n ρ 2 + 1) (v2)) (8 + 3 * q_n ρ 2 + 2) (v3)) (2) (ρ 2 + 1)) (8 + 3 * q_n ρ 2) = q_kind t n (q_en t n p) := by rw [q_up_ne (by omega), q_up_ne (by omega), q_up_ne (by omega), q_up_at]
  have u1 : (q_up (q_up (q_up (q_up (q_nm t n p ρ (q_n ρ 2)) (8 + 3 * q_n ρ 2) (q_kind t n (q_en t n p))) (8 + 3 * q_n ρ 2 + 1) (v2)) (8 + 3 * q_n ρ 2 + 2) (v3)) (2) (ρ 2 + 1)) (8 + 3 * q_n ρ 2 + 1) = v2 := by rw [q_up_ne (by omega), q_up_ne (by omega), q_up_at]
  have u2 : (q_up (q_up (q_up (q_up (q_nm t n p ρ (q_n ρ 2)) (8 + 3 * q_n ρ 2) (q_kind t n (q_en t n p))) (8 + 3 * q_n ρ 2 + 1) (v2)) (8 + 3 * q_n ρ 2 + 2) (v3)) (2) (ρ 2 + 1)) (8 + 3 * q_n ρ 2 + 2) = v3 := by rw [q_up_ne (by omega), q_up_at]
  have u3 : (q_up (q_up (q_up (q_up (q_nm t n p ρ (q_n ρ 2)) (8 + 3 * q_n ρ 2) (q_kind t n (q_en t n p))) (8 + 3 * q_n ρ 2 + 1) (v2)) (8 + 3 * q_n ρ 2 + 2) (v3)) (2) (ρ 2 + 1)) (2) = ρ 2 + 1 := by rw [q_up_at]
  have un : (q_up (q_up (q_up (q_up (q_nm t n p ρ (q_n ρ 2)) (8 + 3 * q_n ρ 2) (q_kind t n (q_en t n p))) (8 + 3 * q_n ρ 2 + 1) (v2)) (8 + 3 * q_n ρ 2 + 2) (v3)) (2) (ρ 2 + 1)) (268 + (q_n ρ 2)) = (q_ln t n p : Int) := by rw [q_up_ne (by omega), q_up_ne (by omega), q_up_ne (by omega), q_up_ne (by omega), q_nm_at (by omega)]
  refine ⟨PI.grow2 hP h0 hr (q_up_at _ _ _) (fun i hi => by rw [q_up_ne (by omega), q_up_ne (by omega), q_up_ne (by omega), q_up_ne (by omega), q_nm_ne (by omega) (by omega) (by omega)]) (fun i hi => (((((nn.nm hR.1 hlw.2.2.2.2).up (by omega)).up (by omega)).up (by omega)).up (by omega)) i (by omega)) ?_ ⟨?_, ?_, fun j hj => ?_⟩ (fun m hm h9 h8 => ?_), by omega, by omega, ?_⟩
  · rw [u0, u1, u2]
    omega
  · rw [un]; omega
  · rw [un]; omega
  · rw [un] at hj
    rw [q_up_ne (by omega), q_up_ne (by omega), q_up_ne (by omega), q_up_ne (by omega), q_nm_in (by omega)]
    exact hlw.2.2.2.2 j (by omega)
  · refine hnf (q_fnd_iff.mpr ⟨m, hm, h9, h8.trans ?_⟩)
    exact (q_nmp_congr (ρ := q_nm t n p ρ (q_n ρ 2)) (by rw [q_nm_at (by omega)]; omega) (fun i hi => by rw [q_up_ne (by omega), q_up_ne (by omega), q_up_ne (by omega), q_up_ne (by omega)])).trans (q_nm_wd (by omega))
  · rw [q_up_ne (by omega), q_up_ne (by omega), q_up_ne (by omega), q_up_ne (by omega), q_nm_ne (by omega) (by omega) (by omega)]
theorem q_lawake_ok {t : Nat → Int} {n p : Nat} {ρ : Nat → Int} (hp : p ≤ n) (hP : PI ρ) (h0 : ρ 0 ≠ 0) (hr : ρ 3 < 3) {p' : Nat} {ρ' : Nat → Int} (h : q_lawake t n p ρ = .inr (p', ρ')) : PI ρ' ∧ p ≤ p' ∧ p' ≤ n ∧ ρ' 0 = ρ 0 := by
  have hR := hP.1
  have eg : ρ 3 = (q_n ρ 3 : Int) := hR.n (by decide)
  unfold q_lawake at h
  obtain ⟨p1, ρ1, h1, h⟩ := q_bindR_inv h
  obtain ⟨hk2, hnf, rfl, rfl⟩ := q_newn_inv h1
  have hlw := q_tk_word hp hk2
  obtain ⟨p2, v2, h2, h⟩ := q_bindN_inv h
  obtain ⟨rfl, hv2, hl2, hu2⟩ := q_aft_inv h2
  obtain ⟨p3, v3, h3, h⟩ := q_bindN_inv h
  obtain ⟨rfl, hv3, hl3, hu3⟩ := q_aft_inv h3
  obtain ⟨p4, v4, h4, h⟩ := q_bindN_inv h
  obtain ⟨rfl, hv4, hl4, hu4⟩ := q_aft_inv h4
  have hp1 := q_en_n t hp
  have gp1 := q_en_ge t hp
  have hp2 := q_en_n t hp1
  have gp2 := q_en_ge t hp1
  have hp3 := q_en_n t hp2
  have gp3 := q_en_ge t hp2
  have hp4 := q_en_n t hp3
  have gp4 := q_en_ge t hp3
  have hp5 := q_en_n t hp4
  have gp5 := q_en_ge t hp4
  have hp6 := q_en_n t hp5
  have gp6 := q_en_ge t hp5
  have hp7 := q_en_n t hp6
  have gp7 := q_en_ge t hp6
  obtain ⟨rfl, rfl⟩ := q_inr h
  have u0 : (q_up (q_up (q_up (q_up (q_nm t n p ρ (7 + q_n ρ 3)) (29 + 3 * q_n ρ 3) (v2)) (29 + 3 * q_n ρ 3 + 1) (v3)) (29 + 3 * q_n ρ 3 + 2) (v4)) (3) (ρ 3 + 1)) (29 + 3 * q_n ρ 3) = v2 := by rw [q_up_ne (by omega), q_up_ne (by omega), q_up_ne (by omega), q_up_at]
  have u1 : (q_up (q_up (q_up (q_up (q_nm t n p ρ (7 + q_n ρ 3)) (29 + 3 * q_n ρ 3) (v2)) (29 + 3 * q_n ρ 3 + 1) (v3)) (29 + 3 * q_n ρ 3 + 2) (v4)) (3) (ρ 3 + 1)) (29 + 3 * q_n ρ 3 + 1) = v3 := by rw [q_up_ne (by omega), q_up_ne (by omega), q_up_at]
  have u2 : (q_up (q_up (q_up (q_up (q_nm t n p ρ (7 + q_n ρ 3)) (29 + 3 * q_n ρ 3) (v2)) (29 + 3 * q_n ρ 3 + 1) (v3)) (29 + 3 * q_n ρ 3 + 2) (v4)) (3) (ρ 3 + 1)) (29 + 3 * q_n ρ 3 + 2) = v4 := by rw [q_up_ne (by omega), q_up_at]
  have u3 : (q_up (q_up (q_up (q_up (q_nm t n p ρ (7 + q_n ρ 3)) (29 + 3 * q_n ρ 3) (v2)) (29 + 3 * q_n ρ 3 + 1) (v3)) (29 + 3 * q_n ρ 3 + 2) (v4)) (3) (ρ 3 + 1)) (3) = ρ 3 + 1 := by rw [q_up_at]
  have un : (q_up (q_up (q_up (q_up (q_nm t n p ρ (7 + q_n ρ 3)) (29 + 3 * q_n ρ 3) (v2)) (29 + 3 * q_n ρ 3 + 1) (v3)) (29 + 3 * q_n ρ 3 + 2) (v4)) (3) (ρ 3 + 1)) (268 + (7 + q_n ρ 3)) = (q_ln t n p : Int) := by rw [q_up_ne (by omega), q_up_ne (by omega), q_up_ne (by omega), q_up_ne (by omega), q_nm_at (by omega)]
  refine ⟨PI.grow3 hP h0 hr (q_up_at _ _ _) (fun i hi => by rw [q_up_ne (by omega), q_up_ne (by omega), q_up_ne (by omega), q_up_ne (by omega), q_nm_ne (by omega) (by omega) (by omega)]) (fun i hi => (((((nn.nm hR.1 hlw.2.2.2.2).up (by omega)).up (by omega)).up (by omega)).up (by omega)) i (by omega)) ?_ ⟨?_, ?_, fun j hj => ?_⟩ (fun m hm h9 h8 => ?_), by omega, by omega, ?_⟩
  · rw [u0, u1, u2]
    omega
  · rw [un]; omega
  · rw [un]; omega
  · rw [un] at hj
    rw [q_up_ne (by omega), q_up_ne (by omega), q_up_ne (by omega), q_up_ne (by omega), q_nm_in (by omega)]
    exact hlw.2.2.2.2 j (by omega)
  · refine hnf (q_fnd_iff.mpr ⟨m, hm, h9, h8.trans ?_⟩)
    exact (q_nmp_congr (ρ := q_nm t n p ρ (7 + q_n ρ 3)) (by rw [q_nm_at (by omega)]; omega) (fun i hi => by rw [q_up_ne (by omega), q_up_ne (by omega), q_up_ne (by omega), q_up_ne (by omega)])).trans (q_nm_wd (by omega))
  · rw [q_up_ne (by omega), q_up_ne (by omega), q_up_ne (by omega), q_up_ne (by omega), q_nm_ne (by omega) (by omega) (by omega)]
theorem q_lword_ok {t : Nat → Int} {n p : Nat} {ρ : Nat → Int} (hp : p ≤ n) (hP : PI ρ) (h0 : ρ 0 ≠ 0) (hr : ρ 4 < 7) {p' : Nat} {ρ' : Nat → Int} (h : q_lword t n p ρ = .inr (p', ρ')) : PI ρ' ∧ p ≤ p' ∧ p' ≤ n ∧ ρ' 0 = ρ 0 := by
  have hR := hP.1
  have eg : ρ 4 = (q_n ρ 4 : Int) := hR.n (by decide)
  unfold q_lword at h
  obtain ⟨p1, ρ1, h1, h⟩ := q_bindR_inv h
  obtain ⟨hk2, hnf, rfl, rfl⟩ := q_newn_inv h1
  have hlw := q_tk_word hp hk2
  obtain ⟨p2, v2, h2, h⟩ := q_bindN_inv h
  obtain ⟨rfl, hv2, hl2, hu2⟩ := q_aft_inv h2
  obtain ⟨p3, v3, h3, h⟩ := q_bindN_inv h
  obtain ⟨rfl, hv3, hl3, hu3⟩ := q_aft_inv h3
  have hp1 := q_en_n t hp
  have gp1 := q_en_ge t hp
  have hp2 := q_en_n t hp1
  have gp2 := q_en_ge t hp1
  have hp3 := q_en_n t hp2
  have gp3 := q_en_ge t hp2
  have hp4 := q_en_n t hp3
  have gp4 := q_en_ge t hp3
  have hp5 := q_en_n t hp4
  have gp5 := q_en_ge t hp4
  obtain ⟨rfl, rfl⟩ := q_inr h
  have u0 : (q_up (q_up (q_up (q_nm t n p ρ (10 + q_n ρ 4)) (38 + 3 * q_n ρ 4) (v2)) (38 + 3 * q_n ρ 4 + 1) (v3)) (4) (ρ 4 + 1)) (38 + 3 * q_n ρ 4) = v2 := by rw [q_up_ne (by omega), q_up_ne (by omega), q_up_at]
  have u1 : (q_up (q_up (q_up (q_nm t n p ρ (10 + q_n ρ 4)) (38 + 3 * q_n ρ 4) (v2)) (38 + 3 * q_n ρ 4 + 1) (v3)) (4) (ρ 4 + 1)) (38 + 3 * q_n ρ 4 + 1) = v3 := by rw [q_up_ne (by omega), q_up_at]
  have u2 : (q_up (q_up (q_up (q_nm t n p ρ (10 + q_n ρ 4)) (38 + 3 * q_n ρ 4) (v2)) (38 + 3 * q_n ρ 4 + 1) (v3)) (4) (ρ 4 + 1)) (4) = ρ 4 + 1 := by rw [q_up_at]
  have un : (q_up (q_up (q_up (q_nm t n p ρ (10 + q_n ρ 4)) (38 + 3 * q_n ρ 4) (v2)) (38 + 3 * q_n ρ 4 + 1) (v3)) (4) (ρ 4 + 1)) (268 + (10 + q_n ρ 4)) = (q_ln t n p : Int) := by rw [q_up_ne (by omega), q_up_ne (by omega), q_up_ne (by omega), q_nm_at (by omega)]
  refine ⟨PI.grow4 hP h0 hr (q_up_at _ _ _) (fun i hi => by rw [q_up_ne (by omega), q_up_ne (by omega), q_up_ne (by omega), q_nm_ne (by omega) (by omega) (by omega)]) (fun i hi => ((((nn.nm hR.1 hlw.2.2.2.2).up (by omega)).up (by omega)).up (by omega)) i (by omega)) ?_ ⟨?_, ?_, fun j hj => ?_⟩ (fun m hm h9 h8 => ?_), by omega, by omega, ?_⟩
  · rw [u0, u1]
    omega
  · rw [un]; omega
  · rw [un]; omega
  · rw [un] at hj
    rw [q_up_ne (by omega), q_up_ne (by omega), q_up_ne (by omega), q_nm_in (by omega)]
    exact hlw.2.2.2.2 j (by omega)
  · refine hnf (q_fnd_iff.mpr ⟨m, hm, h9, h8.trans ?_⟩)
    exact (q_nmp_congr (ρ := q_nm t n p ρ (10 + q_n ρ 4)) (by rw [q_nm_at (by omega)]; omega) (fun i hi => by rw [q_up_ne (by omega), q_up_ne (by omega), q_up_ne (by omega)])).trans (q_nm_wd (by omega))
  · rw [q_up_ne (by omega), q_up_ne (by omega), q_up_ne (by omega), q_nm_ne (by omega) (by omega) (by omega)]
theorem q_lorder_ok {t : Nat → Int} {n p : Nat} {ρ : Nat → Int} (hp : p ≤ n) (hP : PI ρ) (h0 : ρ 0 ≠ 0) (hr : ρ 6 < 6) {p' : Nat} {ρ' : Nat → Int} (h : q_lorder t n p ρ = .inr (p', ρ')) : PI ρ' ∧ p ≤ p' ∧ p' ≤ n ∧ ρ' 0 = ρ 0 := by
  have hR := hP.1
  have eg : ρ 6 = (q_n ρ 6 : Int) := hR.n (by decide)
  unfold q_lorder at h
  dsimp only at h
  have hp1 := q_en_n t hp
  have gp1 := q_en_ge t hp
  have hp2 := q_en_n t hp1
  have gp2 := q_en_ge t hp1
  have hp3 := q_en_n t hp2
  have gp3 := q_en_ge t hp2
  have hp4 := q_en_n t hp3
  have gp4 := q_en_ge t hp3
  have hp5 := q_en_n t hp4
  have gp5 := q_en_ge t hp4
  have hp6 := q_en_n t hp5
  have gp6 := q_en_ge t hp5
  by_cases ha : q_tk t n p ≠ 2
  · rw [if_pos ha] at h; cases h
  rw [if_neg ha] at h
  by_cases hb : q_is t n (q_en t n p) 9 = false
  · rw [if_pos hb] at h; cases h
  rw [if_neg hb] at h
  by_cases hc : q_tk t n (q_en t n (q_en t n p)) ≠ 2
  · rw [if_pos hc] at h; cases h
  rw [if_neg hc] at h
  by_cases hd : q_is t n (q_en t n (q_en t n (q_en t n p))) 21 = false
  · rw [if_pos hd] at h; cases h
  rw [if_neg hd] at h
  obtain ⟨p2, v2, h2, h⟩ := q_bindN_inv h
  obtain ⟨rfl, hv2, hl2, hu2⟩ := q_num_inv h2
  split at h
  · obtain ⟨rfl, rfl⟩ := q_inr h
    have ka : q_tk t n p = 2 := Decidable.not_not.mp ha
    have kc : q_tk t n (q_en t n (q_en t n p)) = 2 := Decidable.not_not.mp hc
    have wa := q_tk_word hp ka
    have wc := q_tk_word hp2 kc
    have a1 := q_lay_ok (ρ := ρ) (ρ' := (q_up (q_up (q_lay t n (q_en t n (q_en t n p)) (q_lay t n p ρ (59 + 19 * q_n ρ 6 + 1)) (59 + 19 * q_n ρ 6 + 10)) (59 + 19 * q_n ρ 6) v2) 6 (ρ 6 + 1))) (f := 59 + 19 * q_n ρ 6 + 1) hp ka (fun i hi => by rw [q_up_ne (by omega), q_up_ne (by omega), q_lay_ne (by omega) (by omega)])
    have a2 := q_lay_ok (ρ := (q_lay t n p ρ (59 + 19 * q_n ρ 6 + 1))) (ρ' := (q_up (q_up (q_lay t n (q_en t n (q_en t n p)) (q_lay t n p ρ (59 + 19 * q_n ρ 6 + 1)) (59 + 19 * q_n ρ 6 + 10)) (59 + 19 * q_n ρ 6) v2) 6 (ρ 6 + 1))) (f := 59 + 19 * q_n ρ 6 + 10) hp2 kc (fun i hi => by rw [q_up_ne (by omega), q_up_ne (by omega)])
    have u0 : (q_up (q_up (q_lay t n (q_en t n (q_en t n p)) (q_lay t n p ρ (59 + 19 * q_n ρ 6 + 1)) (59 + 19 * q_n ρ 6 + 10)) (59 + 19 * q_n ρ 6) v2) 6 (ρ 6 + 1)) (59 + 19 * q_n ρ 6) = v2 := by rw [q_up_ne (by omega), q_up_at]
    refine ⟨PI.grow6 hP h0 hr (q_up_at _ _ _) (fun i hi => by rw [q_up_ne (by omega), q_up_ne (by omega), q_lay_ne (by omega) (by omega), q_lay_ne (by omega) (by omega)]) (fun i hi => ((nn.lay (nn.lay hR.1 wa.2.2.2.2) wc.2.2.2.2).up (by omega)).up (by omega) i (by omega)) ⟨by rw [u0]; omega, by rw [u0]; omega, a1.1, a1.2, a2.1, a2.2⟩, by omega, by omega, ?_⟩
    rw [q_up_ne (by omega), q_up_ne (by omega), q_lay_ne (by omega) (by omega), q_lay_ne (by omega) (by omega)]
  · cases h
theorem q_lseen_ok {t : Nat → Int} {n p : Nat} {ρ : Nat → Int} (hp : p ≤ n) (hP : PI ρ) (h0 : ρ 0 ≠ 0) (hr : ρ 7 < 5) {p' : Nat} {ρ' : Nat → Int} (h : q_lseen t n p ρ = .inr (p', ρ')) : PI ρ' ∧ p ≤ p' ∧ p' ≤ n ∧ ρ' 0 = ρ 0 := by
  have hR := hP.1
  have eg : ρ 7 = (q_n ρ 7 : Int) := hR.n (by decide)
  unfold q_lseen at h
  dsimp only at h
  have hp1 := q_en_n t hp
  have gp1 := q_en_ge t hp
  have hp2 := q_en_n t hp1
  have gp2 := q_en_ge t hp1
  have hp3 := q_en_n t hp2
  have gp3 := q_en_ge t hp2
  have hp4 := q_en_n t hp3
  have gp4 := q_en_ge t hp3
  by_cases ha : q_tk t n p ≠ 2
  · rw [if_pos ha] at h; cases h
  rw [if_neg ha] at h
  split at h
  · cases h
  have ka : q_tk t n p = 2 := Decidable.not_not.mp ha
  have wa := q_tk_word hp ka
  by_cases hb : q_is t n (q_en t n p) 10 = true
  · rw [if_pos hb] at h
    obtain ⟨rfl, rfl⟩ := q_inr h
    have a1 := q_lay_ok (ρ := ρ) (ρ' := (q_up (q_up (q_lay t n p ρ (173 + 19 * q_n ρ 7 + 1)) (173 + 19 * q_n ρ 7) 0) 7 (ρ 7 + 1))) (f := 173 + 19 * q_n ρ 7 + 1) hp ka (fun i hi => by rw [q_up_ne (by omega), q_up_ne (by omega)])
    have u0 : (q_up (q_up (q_lay t n p ρ (173 + 19 * q_n ρ 7 + 1)) (173 + 19 * q_n ρ 7) 0) 7 (ρ 7 + 1)) (173 + 19 * q_n ρ 7) = 0 := by rw [q_up_ne (by omega), q_up_at]
    refine ⟨PI.grow7 hP h0 hr (q_up_at _ _ _) (fun i hi => by rw [q_up_ne (by omega), q_up_ne (by omega), q_lay_ne (by omega) (by omega)]) (fun i hi => ((nn.lay hR.1 wa.2.2.2.2).up (by omega)).up (by omega) i (by omega)) ⟨by rw [u0]; omega, a1.1, a1.2, q_wordOk_congr (hR.2.2.2.2.2.2 (q_n ρ 7) (by omega)).2.2 (fun i hi => by rw [q_up_ne (by omega), q_up_ne (by omega), q_lay_ne (by omega) (by omega)]), fun g => by rw [u0] at g; omega⟩, by omega, by omega, ?_⟩
    rw [q_up_ne (by omega), q_up_ne (by omega), q_lay_ne (by omega) (by omega)]
  rw [if_neg hb] at h
  split at h
  · cases h
  by_cases hc : q_tk t n (q_en t n (q_en t n p)) ≠ 2
  · rw [if_pos hc] at h; cases h
  rw [if_neg hc] at h
  obtain ⟨rfl, rfl⟩ := q_inr h
  have kc : q_tk t n (q_en t n (q_en t n p)) = 2 := Decidable.not_not.mp hc
  have wc := q_tk_word hp2 kc
  have a1 := q_lay_ok (ρ := ρ) (ρ' := (q_up (q_up (q_lay t n (q_en t n (q_en t n p)) (q_up (q_lay t n p ρ (173 + 19 * q_n ρ 7 + 1)) (173 + 19 * q_n ρ 7) 0) (173 + 19 * q_n ρ 7 + 10)) (173 + 19 * q_n ρ 7) 1) 7 (ρ 7 + 1))) (f := 173 + 19 * q_n ρ 7 + 1) hp ka (fun i hi => by rw [q_up_ne (by omega), q_up_ne (by omega), q_lay_ne (by omega) (by omega), q_up_ne (by omega)])
  have a2 := q_lay_ok (ρ := q_up (q_lay t n p ρ (173 + 19 * q_n ρ 7 + 1)) (173 + 19 * q_n ρ 7) 0) (ρ' := (q_up (q_up (q_lay t n (q_en t n (q_en t n p)) (q_up (q_lay t n p ρ (173 + 19 * q_n ρ 7 + 1)) (173 + 19 * q_n ρ 7) 0) (173 + 19 * q_n ρ 7 + 10)) (173 + 19 * q_n ρ 7) 1) 7 (ρ 7 + 1))) (f := 173 + 19 * q_n ρ 7 + 10) hp2 kc (fun i hi => by rw [q_up_ne (by omega), q_up_ne (by omega)])
  have u0 : (q_up (q_up (q_lay t n (q_en t n (q_en t n p)) (q_up (q_lay t n p ρ (173 + 19 * q_n ρ 7 + 1)) (173 + 19 * q_n ρ 7) 0) (173 + 19 * q_n ρ 7 + 10)) (173 + 19 * q_n ρ 7) 1) 7 (ρ 7 + 1)) (173 + 19 * q_n ρ 7) = 1 := by rw [q_up_ne (by omega), q_up_at]
  refine ⟨PI.grow7 hP h0 hr (q_up_at _ _ _) (fun i hi => by rw [q_up_ne (by omega), q_up_ne (by omega), q_lay_ne (by omega) (by omega), q_up_ne (by omega), q_lay_ne (by omega) (by omega)]) (fun i hi => ((nn.lay ((nn.lay hR.1 wa.2.2.2.2).up (by omega)) wc.2.2.2.2).up (by omega)).up (by omega) i (by omega)) ⟨by rw [u0]; omega, a1.1, a1.2, a2.2, fun _ => a2.1⟩, by omega, by omega, ?_⟩
  rw [q_up_ne (by omega), q_up_ne (by omega), q_lay_ne (by omega) (by omega), q_up_ne (by omega), q_lay_ne (by omega) (by omega)]
theorem q_told_inv {t : Nat → Int} {n p : Nat} {ρ : Nat → Int} {w : Nat} (h : q_told t n p ρ = .inr w) : w < q_n ρ 4 := by
  unfold q_told at h
  split at h
  · cases h
  · cases hq : q_first (fun w => decide (q_nmp ρ (10 + w) = q_wd t n p)) (q_n ρ 4) with
    | none => rw [hq] at h; cases h
    | some x =>
      rw [hq] at h
      have h2 := (q_first_some hq).1
      cases h
      exact h2
theorem q_lbefore_ok {t : Nat → Int} {n p : Nat} {ρ : Nat → Int} (hp : p ≤ n) (hP : PI ρ) (h0 : ρ 0 ≠ 0) (hr : ρ 5 < 8) {p' : Nat} {ρ' : Nat → Int} (h : q_lbefore t n p ρ = .inr (p', ρ')) : PI ρ' ∧ p ≤ p' ∧ p' ≤ n ∧ ρ' 0 = ρ 0 := by
  unfold q_lbefore at h
  obtain ⟨x, hx, h⟩ := q_bindW_inv h
  obtain ⟨y, hy, h⟩ := q_bindW_inv h
  have hx := q_told_inv hx
  have hy := q_told_inv hy
  have hp1 := q_en_n t hp
  have gp1 := q_en_ge t hp
  have hp2 := q_en_n t hp1
  have gp2 := q_en_ge t hp1
  by_cases ha : x = y ∨ (q_n ρ (38 + 3 * y + 2)).testBit x = true
  · rw [if_pos ha] at h; cases h
  rw [if_neg ha] at h
  by_cases hb : (q_ab (q_n ρ) x).testBit y = true
  · rw [if_pos hb] at h; cases h
  rw [if_neg hb] at h
  obtain ⟨rfl, rfl⟩ := q_inr h
  have hxy : x ≠ y := fun g => ha (Or.inl g)
  have hno : (q_ab (q_n ρ) x).testBit y = false := Bool.eq_false_iff.mpr hb
  obtain ⟨hR, hB, hC, hD, hE, hF, hG⟩ := hP
  have b := hR.2.1
  have e4 : ρ 4 = (q_n ρ 4 : Int) := hR.n (by decide)
  have eo : ∀ i, i ≠ 5 → i ≠ 38 + 3 * y + 2 → q_rho ρ x y i = ρ i := fun i h1 h2 => by unfold q_rho; rw [q_up_ne h1, q_up_ne h2]
  have e5 : q_rho ρ x y 5 = ρ 5 + 1 := q_up_at _ _ _
  have ey : q_rho ρ x y (38 + 3 * y + 2) = ((q_n ρ (38 + 3 * y + 2) ||| 2 ^ x : Nat) : Int) := by unfold q_rho; rw [q_up_ne (by omega), q_up_at]
  have hor := q_or128 (hR.ab y (by omega)) (q_pow128 (x := x) (by omega))
  have hor2 : q_n ρ (38 + 3 * y + 2) ||| 2 ^ x < 2 ^ (ρ 4).toNat := by
    refine Nat.or_lt_two_pow ?_ (Nat.pow_lt_pow_right (a := 2) (by decide) (by omega))
    have k1 := (hE.2.2.1 y (by omega)).2.2
    rw [hR.n (i := 38 + 3 * y + 2) (by omega)] at k1
    exact_mod_cast k1
  show PI (q_rho ρ x y) ∧ _ ∧ _ ∧ q_rho ρ x y 0 = ρ 0
  refine ⟨⟨⟨fun i hi => ?_, ?_, fun s hs => ?_, fun s hs => ?_, fun s hs => ?_, fun s hs => ?_, fun s hs => ?_⟩, ⟨fun m hm => ?_, fun m hm => ?_, fun m hm => ?_⟩, fun m hm => ?_, fun m m2 hm hm2 g1 g2 g3 => ?_, ⟨fun s hs => ?_, fun s hs => ?_, fun s hs => ?_, fun s hs => ?_, fun s hs => ?_⟩, ?_, ⟨fun w hw => ?_, fun w hw hw2 => ?_⟩⟩, by omega, by omega, eo 0 (by omega) (by omega)⟩
  · by_cases h1 : i = 5
    · have := hR.1 5 (by omega)
      rw [h1, e5]; omega
    · by_cases h2 : i = 38 + 3 * y + 2
      · rw [h2, ey]; omega
      · rw [eo i h1 h2]; exact hR.1 i hi
  · rw [eo 0 (by omega) (by omega), eo 1 (by omega) (by omega), eo 2 (by omega) (by omega), eo 3 (by omega) (by omega), eo 4 (by omega) (by omega), e5, eo 6 (by omega) (by omega), eo 7 (by omega) (by omega)]
    omega
  · rw [eo _ (by omega) (by omega), eo _ (by omega) (by omega), eo _ (by omega) (by omega)]; exact hR.2.2.1 s hs
  · rw [eo _ (by omega) (by omega), eo _ (by omega) (by omega), eo _ (by omega) (by omega)]; exact hR.2.2.2.1 s hs
  · rw [eo (38 + 3 * s) (by omega) (by omega), eo (38 + 3 * s + 1) (by omega) (by omega)]
    have k := hR.2.2.2.2.1 s hs
    by_cases e : s = y
    · rw [e, ey]; rw [e] at k; omega
    · rw [eo _ (by omega) (by omega)]; exact k
  · obtain ⟨k1, k2, k3⟩ := hR.2.2.2.2.2.1 s hs
    exact ⟨by rw [eo _ (by omega) (by omega)]; exact k1, q_wordOk_congr k2 (fun i hi => eo i (by omega) (by omega)), q_wordOk_congr k3 (fun i hi => eo i (by omega) (by omega))⟩
  · obtain ⟨k1, k2, k3⟩ := hR.2.2.2.2.2.2 s hs
    exact ⟨by rw [eo _ (by omega) (by omega)]; exact k1, q_wordOk_congr k2 (fun i hi => eo i (by omega) (by omega)), q_wordOk_congr k3 (fun i hi => eo i (by omega) (by omega))⟩
  · rw [eo _ (by omega) (by omega), eo 2 (by omega) (by omega)]; exact hB.1 m hm
  · rw [eo _ (by omega) (by omega), eo 3 (by omega) (by omega)]; exact hB.2.1 m hm
  · rw [eo _ (by omega) (by omega), eo 4 (by omega) (by omega)]; exact hB.2.2 m hm
  · obtain ⟨k1, k2⟩ := hC m hm
    rw [eo (268 + m) (by omega) (by omega)]
    refine ⟨k1, fun j hj => ?_⟩
    rw [eo _ (by omega) (by omega)]
    exact k2 j hj
  · rw [eo _ (by omega) (by omega)] at g1
    rw [eo _ (by omega) (by omega)] at g2
    rw [q_nmp_congr (hC m hm).1 (fun i hi => eo i (by omega) (by omega)), q_nmp_congr (hC m2 hm2).1 (fun i hi => eo i (by omega) (by omega))] at g3
    exact hD m m2 hm hm2 g1 g2 g3
  · rw [eo 2 (by omega) (by omega)] at hs
    rw [eo _ (by omega) (by omega)]; exact hE.1 s hs
  · rw [eo 3 (by omega) (by omega)] at hs
    rw [eo _ (by omega) (by omega)]; exact hE.2.1 s hs
  · rw [eo 4 (by omega) (by omega)] at hs
    rw [eo (38 + 3 * s) (by omega) (by omega), eo (38 + 3 * s + 1) (by omega) (by omega), eo 4 (by omega) (by omega)]
    have k := hE.2.2.1 s hs
    refine ⟨k.1, k.2.1, ?_⟩
    by_cases e : s = y
    · rw [e, ey]
      exact_mod_cast hor2
    · rw [eo _ (by omega) (by omega)]; exact k.2.2
  · rw [eo 6 (by omega) (by omega)] at hs
    rw [eo (59 + 19 * s) (by omega) (by omega), eo (59 + 19 * s + 1) (by omega) (by omega), eo (59 + 19 * s + 10) (by omega) (by omega)]; exact hE.2.2.2.1 s hs
  · rw [eo 7 (by omega) (by omega)] at hs
    rw [eo (173 + 19 * s) (by omega) (by omega), eo (173 + 19 * s + 1) (by omega) (by omega), eo (173 + 19 * s + 10) (by omega) (by omega)]; exact hE.2.2.2.2 s hs
  · intro h
    rw [eo 0 (by omega) (by omega)] at h
    exact absurd h h0
  · rw [eo 4 (by omega) (by omega)] at hw
    have hr7 : ∀ k, k < 7 → q_row (q_n ρ) k < 128 := fun k hk => hR.ab k hk
    rw [q_rho_ab hR (by omega) (by omega) hxy hno (by omega)]
    have k := ab_edge_ac hr7 (n := q_n ρ 4) (by omega) hx hy hxy hno (fun w hw => hG.1 w (by omega)) w (by omega)
    rw [ab_edge hr7 (by omega) (by omega) hxy hno (by omega)] at k
    exact k
  · rw [eo 4 (by omega) (by omega)] at hw2
    rw [eo _ (by omega) (by omega)]
    exact hG.2 w hw hw2
theorem q_lcounty_ok {t : Nat → Int} {n p : Nat} {ρ : Nat → Int} (hp : p ≤ n) (hP : PI ρ) {p' : Nat} {ρ' : Nat → Int} (h : q_lcounty t n p ρ = .inr (p', ρ')) : PI ρ' ∧ p ≤ p' ∧ p' ≤ n ∧ ρ' 0 ≠ 0 := by
  unfold q_lcounty at h
  split at h
  · cases h
  obtain ⟨p1, v1, h1, h⟩ := q_bindN_inv h
  obtain ⟨rfl, hv1, hl1, hu1⟩ := q_aft_inv h1
  obtain ⟨p2, v2, h2, h⟩ := q_bindN_inv h
  obtain ⟨rfl, hv2, hl2, hu2⟩ := q_aft_inv h2
  obtain ⟨rfl, rfl⟩ := q_inr h
  have hp1 := q_en_n t hp
  have gp1 := q_en_ge t hp
  have hp2 := q_en_n t hp1
  have gp2 := q_en_ge t hp1
  have hp3 := q_en_n t hp2
  have gp3 := q_en_ge t hp2
  have hp4 := q_en_n t hp3
  have gp4 := q_en_ge t hp3
  have hp5 := q_en_n t hp4
  have gp5 := q_en_ge t hp4
  obtain ⟨hR, hB, hC, hD, hE, hF, hG⟩ := hP
  have b := hR.2.1
  have eo : ∀ i, 2 ≤ i → q_up (q_up ρ 1 v2) 0 v1 i = ρ i := fun i hi => by rw [q_up_ne (by omega), q_up_ne (by omega)]
  have o0 : q_up (q_up ρ 1 v2) 0 v1 0 = v1 := q_up_at _ _ _
  have o1 : q_up (q_up ρ 1 v2) 0 v1 1 = v2 := by rw [q_up_ne (by omega), q_up_at]
  refine ⟨⟨⟨fun i hi => ?_, ?_, fun s hs => ?_, fun s hs => ?_, fun s hs => ?_, fun s hs => ?_, fun s hs => ?_⟩, ⟨fun m hm => ?_, fun m hm => ?_, fun m hm => ?_⟩, fun m hm => ?_, fun m m2 hm hm2 g1 g2 g3 => ?_, ⟨fun s hs => ?_, fun s hs => ?_, fun s hs => ?_, fun s hs => ?_, fun s hs => ?_⟩, ?_, ⟨fun w hw => ?_, fun w hw hw2 => ?_⟩⟩, by omega, by omega, by rw [o0]; omega⟩
  · exact ((nn.up hR.1 (by omega)).up (by omega)) i hi
  · rw [o0, o1, eo 2 (by omega), eo 3 (by omega), eo 4 (by omega), eo 5 (by omega), eo 6 (by omega), eo 7 (by omega)]
    omega
  · rw [eo _ (by omega), eo _ (by omega), eo _ (by omega)]; exact hR.2.2.1 s hs
  · rw [eo _ (by omega), eo _ (by omega), eo _ (by omega)]; exact hR.2.2.2.1 s hs
  · rw [eo _ (by omega), eo _ (by omega), eo _ (by omega)]; exact hR.2.2.2.2.1 s hs
  · obtain ⟨k1, k2, k3⟩ := hR.2.2.2.2.2.1 s hs
    exact ⟨by rw [eo _ (by omega)]; exact k1, q_wordOk_congr k2 (fun i hi => eo i (by omega)), q_wordOk_congr k3 (fun i hi => eo i (by omega))⟩
  · obtain ⟨k1, k2, k3⟩ := hR.2.2.2.2.2.2 s hs
    exact ⟨by rw [eo _ (by omega)]; exact k1, q_wordOk_congr k2 (fun i hi => eo i (by omega)), q_wordOk_congr k3 (fun i hi => eo i (by omega))⟩
  · rw [eo _ (by omega), eo 2 (by omega)]; exact hB.1 m hm
  · rw [eo _ (by omega), eo 3 (by omega)]; exact hB.2.1 m hm
  · rw [eo _ (by omega), eo 4 (by omega)]; exact hB.2.2 m hm
  · obtain ⟨k1, k2⟩ := hC m hm
    rw [eo (268 + m) (by omega)]
    refine ⟨k1, fun j hj => ?_⟩
    rw [eo _ (by omega)]
    exact k2 j hj
  · rw [eo _ (by omega)] at g1
    rw [eo _ (by omega)] at g2
    rw [q_nmp_congr (hC m hm).1 (fun i hi => eo i (by omega)), q_nmp_congr (hC m2 hm2).1 (fun i hi => eo i (by omega))] at g3
    exact hD m m2 hm hm2 g1 g2 g3
  · rw [eo 2 (by omega)] at hs
    rw [eo _ (by omega)]; exact hE.1 s hs
  · rw [eo 3 (by omega)] at hs
    rw [eo _ (by omega)]; exact hE.2.1 s hs
  · rw [eo 4 (by omega)] at hs
    rw [eo (38 + 3 * s) (by omega), eo (38 + 3 * s + 1) (by omega), eo (38 + 3 * s + 2) (by omega), eo 4 (by omega)]; exact hE.2.2.1 s hs
  · rw [eo 6 (by omega)] at hs
    rw [eo (59 + 19 * s) (by omega), eo (59 + 19 * s + 1) (by omega), eo (59 + 19 * s + 10) (by omega)]; exact hE.2.2.2.1 s hs
  · rw [eo 7 (by omega)] at hs
    rw [eo (173 + 19 * s) (by omega), eo (173 + 19 * s + 1) (by omega), eo (173 + 19 * s + 10) (by omega)]; exact hE.2.2.2.2 s hs
  · intro h
    rw [o0] at h
    omega
  · rw [eo 4 (by omega)] at hw
    rw [ab_congr (r' := q_n ρ) (fun k hk => by unfold q_row q_n; rw [eo _ (by omega)]) (by omega)]
    exact hG.1 w hw
  · rw [eo 4 (by omega)] at hw2
    rw [eo _ (by omega)]
    exact hG.2 w hw hw2
theorem q_beg_inv {t : Nat → Int} {n p : Nat} {ρ : Nat → Int} {cnt room : Int} {f : Nat → PR} {q : Nat × (Nat → Int)} (h : q_beg t n p ρ cnt room f = .inr q) : ρ 0 ≠ 0 ∧ cnt < room ∧ f (q_en t n p) = .inr q := by
  unfold q_beg at h
  split at h
  · cases h
  · rename_i h1
    split at h
    · cases h
    · rename_i h2
      exact ⟨h1, by omega, h⟩
theorem q_line_ok {t : Nat → Int} {n p : Nat} {ρ : Nat → Int} (hp : p ≤ n) (hP : PI ρ) {p' : Nat} {ρ' : Nat → Int} (h : q_line t n p ρ = .inr (p', ρ')) : PI ρ' ∧ p ≤ p' ∧ p' ≤ n ∧ ρ' 0 ≠ 0 := by
  have hp1 := q_en_n t hp
  have gp1 := q_en_ge t hp
  have go : ∀ {q : Prop}, ρ 0 ≠ 0 → PI ρ' ∧ q_en t n p ≤ p' ∧ p' ≤ n ∧ ρ' 0 = ρ 0 → PI ρ' ∧ p ≤ p' ∧ p' ≤ n ∧ ρ' 0 ≠ 0 := fun h0 k => ⟨k.1, by omega, k.2.2.1, by rw [k.2.2.2]; exact h0⟩
  unfold q_line at h
  split at h
  · exact q_lcounty_ok hp hP h
  split at h
  · obtain ⟨h0, hr, h⟩ := q_beg_inv h
    exact go (q := True) h0 (q_lsleeper_ok hp1 hP h0 hr h)
  split at h
  · obtain ⟨h0, hr, h⟩ := q_beg_inv h
    exact go (q := True) h0 (q_lawake_ok hp1 hP h0 hr h)
  split at h
  · obtain ⟨h0, hr, h⟩ := q_beg_inv h
    exact go (q := True) h0 (q_lword_ok hp1 hP h0 hr h)
  split at h
  · obtain ⟨h0, hr, h⟩ := q_beg_inv h
    exact go (q := True) h0 (q_lbefore_ok hp1 hP h0 hr h)
  split at h
  · obtain ⟨h0, hr, h⟩ := q_beg_inv h
    exact go (q := True) h0 (q_lorder_ok hp1 hP h0 hr h)
  split at h
  · obtain ⟨h0, hr, h⟩ := q_beg_inv h
    exact go (q := True) h0 (q_lseen_ok hp1 hP h0 hr h)
  · cases h
