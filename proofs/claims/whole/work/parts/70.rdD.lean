/-! THE READER: a county's elements, one by one -/
theorem q_en_n (t : Nat → Int) {n p : Nat} (hp : p ≤ n) : q_en t n p ≤ n := (q_en_le t hp).2.1
def EH (ρ : Nat → Int) (c : Nat) (M : ZM) : Prop := M c 0 = q_tld ρ ∧ M c 1 = ρ 0 ∧ M c 2 = ρ 1 ∧ M (c + 1) 0 = ρ 2 ∧ M (c + 6) 0 = ρ 3 ∧ M (c + 11) 0 = ρ 4 ∧ M (c + 11) 1 = ρ 5 ∧ M (c + 17) 0 = ρ 6 ∧ M (c + 17) 4 = ρ 7
def E2 (ρ : Nat → Int) (c : Nat) (M : ZM) (s : Nat) : Prop := M (c + 2) s = q_nmp ρ s ∧ M (c + 3) s = ρ (8 + 3 * s) ∧ M (c + 4) s = ρ (8 + 3 * s + 1) ∧ M (c + 5) s = ρ (8 + 3 * s + 2)
def E3 (ρ : Nat → Int) (c : Nat) (M : ZM) (a : Nat) : Prop := M (c + 7) a = q_nmp ρ (7 + a) ∧ M (c + 8) a = ρ (29 + 3 * a) ∧ M (c + 9) a = ρ (29 + 3 * a + 1) ∧ M (c + 10) a = ρ (29 + 3 * a + 2)
def E4 (ρ : Nat → Int) (c : Nat) (M : ZM) (w : Nat) : Prop := M (c + 12) w = q_nmp ρ (10 + w) ∧ M (c + 13) w = ρ (38 + 3 * w) ∧ M (c + 14) w = ρ (38 + 3 * w + 1) ∧ M (c + 15) w = ρ (38 + 3 * w + 2) ∧ M (c + 16) w = (q_ab (q_n ρ) w : Int)
def E6 (ρ : Nat → Int) (c : Nat) (M : ZM) (k : Nat) : Prop := M (c + 18) k = q_sg ρ k ∧ M (c + 19) k = q_dd ρ k ∧ M (c + 20) k = ρ (59 + 19 * k)
def E7 (ρ : Nat → Int) (c : Nat) (M : ZM) (k : Nat) : Prop := M (c + 21) k = q_ss ρ k ∧ M (c + 22) k = q_sd ρ k
def EA (ρ : Nat → Int) (c : Nat) (M : ZM) : Prop := EH ρ c M ∧ (∀ s : Nat, (s : Int) < ρ 2 → E2 ρ c M s) ∧ (∀ a : Nat, (a : Int) < ρ 3 → E3 ρ c M a) ∧ (∀ w : Nat, (w : Int) < ρ 4 → E4 ρ c M w) ∧ (∀ k : Nat, (k : Int) < ρ 6 → E6 ρ c M k) ∧ ∀ k : Nat, (k : Int) < ρ 7 → E7 ρ c M k
theorem ICr_iff {ρ : Nat → Int} {c : Nat} {M : ZM} : ICr ρ c M ↔ EA ρ c M := by
  constructor
  · rintro ⟨⟨h0, h2, h3, h4, h6, h7⟩, n2, n3, n4⟩
    exact ⟨h0, fun s hs => ⟨n2 s hs, h2 s hs⟩, fun a ha => ⟨n3 a ha, h3 a ha⟩, fun w hw => ⟨(n4 w hw).1, (h4 w hw).1, (h4 w hw).2.1, (n4 w hw).2, (h4 w hw).2.2⟩, h6, h7⟩
  · rintro ⟨h0, h2, h3, h4, h6, h7⟩
    exact ⟨⟨h0, fun s hs => (h2 s hs).2, fun a ha => (h3 a ha).2, fun w hw => ⟨(h4 w hw).2.1, (h4 w hw).2.2.1, (h4 w hw).2.2.2.2⟩, h6, h7⟩, fun s hs => (h2 s hs).1, fun a ha => (h3 a ha).1, fun w hw => ⟨(h4 w hw).1, (h4 w hw).2.2.2.1⟩⟩
theorem q_nmp_congr {ρ ρ' : Nat → Int} {m : Nat} (hl : ρ (268 + m) ≤ 8) (hr : ∀ i, i = 268 + m ∨ 285 + 8 * m ≤ i ∧ i < 285 + 8 * m + 8 → ρ' i = ρ i) : q_nmp ρ' m = q_nmp ρ m := by
  unfold q_nmp
  rw [hr (268 + m) (Or.inl rfl)]
  exact q_pk_congr _ (fun j hj => hr _ (Or.inr ⟨by omega, by omega⟩))
theorem q_sign_congr {ρ ρ' : Nat → Int} {f : Nat} (hl : ρ f ≤ 8) (hr : ∀ i, f ≤ i ∧ i < f + 9 → ρ' i = ρ i) : q_sign ρ' f = q_sign ρ f := by
  unfold q_sign
  rw [hr f ⟨by omega, by omega⟩]
  exact q_pk_congr _ (fun j hj => hr _ ⟨by omega, by omega⟩)
theorem E2.congr {ρ ρ' : Nat → Int} {c : Nat} {M M' : ZM} {s : Nat} (h : E2 ρ c M s) (hl : ρ (268 + s) ≤ 8) (hm : ∀ k, 2 ≤ k → k ≤ 5 → M' (c + k) s = M (c + k) s) (hr : ∀ i, 8 + 3 * s ≤ i ∧ i < 8 + 3 * s + 3 ∨ i = 268 + s ∨ 285 + 8 * s ≤ i ∧ i < 285 + 8 * s + 8 → ρ' i = ρ i) : E2 ρ' c M' s := by
  obtain ⟨h1, h2, h3, h4⟩ := h
  refine ⟨?_, ?_, ?_, ?_⟩
  · rw [hm 2 (by omega) (by omega), q_nmp_congr hl (fun i hi => hr i (Or.inr hi))]; exact h1
  · rw [hm 3 (by omega) (by omega), hr _ (Or.inl ⟨by omega, by omega⟩)]; exact h2
  · rw [hm 4 (by omega) (by omega), hr _ (Or.inl ⟨by omega, by omega⟩)]; exact h3
  · rw [hm 5 (by omega) (by omega), hr _ (Or.inl ⟨by omega, by omega⟩)]; exact h4
theorem E3.congr {ρ ρ' : Nat → Int} {c : Nat} {M M' : ZM} {a : Nat} (h : E3 ρ c M a) (hl : ρ (268 + (7 + a)) ≤ 8) (hm : ∀ k, 7 ≤ k → k ≤ 10 → M' (c + k) a = M (c + k) a) (hr : ∀ i, 29 + 3 * a ≤ i ∧ i < 29 + 3 * a + 3 ∨ i = 268 + (7 + a) ∨ 285 + 8 * (7 + a) ≤ i ∧ i < 285 + 8 * (7 + a) + 8 → ρ' i = ρ i) : E3 ρ' c M' a := by
  obtain ⟨h1, h2, h3, h4⟩ := h
  refine ⟨?_, ?_, ?_, ?_⟩
  · rw [hm 7 (by omega) (by omega), q_nmp_congr hl (fun i hi => hr i (Or.inr hi))]; exact h1
  · rw [hm 8 (by omega) (by omega), hr _ (Or.inl ⟨by omega, by omega⟩)]; exact h2
  · rw [hm 9 (by omega) (by omega), hr _ (Or.inl ⟨by omega, by omega⟩)]; exact h3
  · rw [hm 10 (by omega) (by omega), hr _ (Or.inl ⟨by omega, by omega⟩)]; exact h4
theorem E4.congr {ρ ρ' : Nat → Int} {c : Nat} {M M' : ZM} {w : Nat} (h : E4 ρ c M w) (hw : w < 7) (hl : ρ (268 + (10 + w)) ≤ 8) (hm : ∀ k, 12 ≤ k → k ≤ 16 → M' (c + k) w = M (c + k) w) (hr : ∀ i, 38 + 3 * w ≤ i ∧ i < 38 + 3 * w + 3 ∨ i = 268 + (10 + w) ∨ 285 + 8 * (10 + w) ≤ i ∧ i < 285 + 8 * (10 + w) + 8 → ρ' i = ρ i) (hb : ∀ k, k < 7 → ρ' (38 + 3 * k + 2) = ρ (38 + 3 * k + 2)) : E4 ρ' c M' w := by
  obtain ⟨h1, h2, h3, h4, h5⟩ := h
  refine ⟨?_, ?_, ?_, ?_, ?_⟩
  · rw [hm 12 (by omega) (by omega), q_nmp_congr hl (fun i hi => hr i (Or.inr hi))]; exact h1
  · rw [hm 13 (by omega) (by omega), hr _ (Or.inl ⟨by omega, by omega⟩)]; exact h2
  · rw [hm 14 (by omega) (by omega), hr _ (Or.inl ⟨by omega, by omega⟩)]; exact h3
  · rw [hm 15 (by omega) (by omega), hr _ (Or.inl ⟨by omega, by omega⟩)]; exact h4
  · rw [hm 16 (by omega) (by omega), ab_congr (r := q_n ρ') (r' := q_n ρ) (fun k hk => by unfold q_row q_n; rw [hb k hk]) hw]; exact h5
theorem E6.congr {ρ ρ' : Nat → Int} {c : Nat} {M M' : ZM} {k : Nat} (h : E6 ρ c M k) (hl : ρ (59 + 19 * k + 1) ≤ 8) (hl2 : ρ (59 + 19 * k + 10) ≤ 8) (hm : ∀ j, 18 ≤ j → j ≤ 20 → M' (c + j) k = M (c + j) k) (hr : ∀ i, 59 + 19 * k ≤ i ∧ i < 59 + 19 * k + 19 → ρ' i = ρ i) : E6 ρ' c M' k := by
  obtain ⟨h1, h2, h3⟩ := h
  refine ⟨?_, ?_, ?_⟩
  · rw [hm 18 (by omega) (by omega)]; unfold q_sg; rw [q_sign_congr hl (fun i hi => hr i (by omega))]; exact h1
  · rw [hm 19 (by omega) (by omega)]; unfold q_dd; rw [q_sign_congr hl2 (fun i hi => hr i (by omega))]; exact h2
  · rw [hm 20 (by omega) (by omega), hr _ ⟨by omega, by omega⟩]; exact h3
theorem E7.congr {ρ ρ' : Nat → Int} {c : Nat} {M M' : ZM} {k : Nat} (h : E7 ρ c M k) (hl : ρ (173 + 19 * k + 1) ≤ 8) (hl2 : ρ (173 + 19 * k + 10) ≤ 8) (hm : ∀ j, 21 ≤ j → j ≤ 22 → M' (c + j) k = M (c + j) k) (hr : ∀ i, 173 + 19 * k ≤ i ∧ i < 173 + 19 * k + 19 → ρ' i = ρ i) : E7 ρ' c M' k := by
  obtain ⟨h1, h2⟩ := h
  refine ⟨?_, ?_⟩
  · rw [hm 21 (by omega) (by omega)]; unfold q_ss; rw [q_sign_congr hl (fun i hi => hr i (by omega))]; exact h1
  · rw [hm 22 (by omega) (by omega)]; unfold q_sd; rw [q_sign_congr hl2 (fun i hi => hr i (by omega)), hr _ ⟨by omega, by omega⟩]; exact h2
/-- what is written behind the told ones leaves them be -/
def q_free (ρ : Nat → Int) (k j : Nat) : Prop := (2 ≤ k ∧ k ≤ 5 ∧ ρ 2 ≤ (j : Int)) ∨ (7 ≤ k ∧ k ≤ 10 ∧ ρ 3 ≤ (j : Int)) ∨ (12 ≤ k ∧ k ≤ 16 ∧ ρ 4 ≤ (j : Int)) ∨ (18 ≤ k ∧ k ≤ 20 ∧ ρ 6 ≤ (j : Int)) ∨ (21 ≤ k ∧ k ≤ 22 ∧ ρ 7 ≤ (j : Int))
theorem zset_o {M : ZM} {a b i j : Nat} {v : Int} (h : b ≠ a ∨ j ≠ i) : zset M a i v b j = M b j := by
  by_cases e : b = a
  · subst e
    exact zset_k (h.resolve_left (fun g => g rfl))
  · rw [zset_ne M e]
theorem ICr.put {ρ : Nat → Int} {c : Nat} {M : ZM} {k j : Nat} {v : Int} (h : ICr ρ c M) (hf : q_free ρ k j) : ICr ρ c (zset M (c + k) j v) := by
  have h' := ICr_iff.mp h
  obtain ⟨⟨a0, a1, a2, a3, a4, a5, a6, a7, a8⟩, h2, h3, h4, h6, h7⟩ := h'
  unfold q_free at hf
  refine ICr_iff.mpr ⟨⟨?_, ?_, ?_, ?_, ?_, ?_, ?_, ?_, ?_⟩, fun s hs => ?_, fun s hs => ?_, fun s hs => ?_, fun s hs => ?_, fun s hs => ?_⟩
  · rw [zset_o (by omega)]; exact a0
  · rw [zset_o (by omega)]; exact a1
  · rw [zset_o (by omega)]; exact a2
  · rw [zset_o (by omega)]; exact a3
  · rw [zset_o (by omega)]; exact a4
  · rw [zset_o (by omega)]; exact a5
  · rw [zset_o (by omega)]; exact a6
  · rw [zset_o (by omega)]; exact a7
  · rw [zset_o (by omega)]; exact a8
  · obtain ⟨g1, g2, g3, g4⟩ := h2 s hs
    exact ⟨(zset_o (by omega)).trans g1, (zset_o (by omega)).trans g2, (zset_o (by omega)).trans g3, (zset_o (by omega)).trans g4⟩
  · obtain ⟨g1, g2, g3, g4⟩ := h3 s hs
    exact ⟨(zset_o (by omega)).trans g1, (zset_o (by omega)).trans g2, (zset_o (by omega)).trans g3, (zset_o (by omega)).trans g4⟩
  · obtain ⟨g1, g2, g3, g4, g5⟩ := h4 s hs
    exact ⟨(zset_o (by omega)).trans g1, (zset_o (by omega)).trans g2, (zset_o (by omega)).trans g3, (zset_o (by omega)).trans g4, (zset_o (by omega)).trans g5⟩
  · obtain ⟨g1, g2, g3⟩ := h6 s hs
    exact ⟨(zset_o (by omega)).trans g1, (zset_o (by omega)).trans g2, (zset_o (by omega)).trans g3⟩
  · obtain ⟨g1, g2⟩ := h7 s hs
    exact ⟨(zset_o (by omega)).trans g1, (zset_o (by omega)).trans g2⟩
theorem zWc.cty {M : ZM} {c k j : Nat} {v : Int} (hc : isC c) (h : zWc M) (hk : (2 ≤ k ∧ k ≤ 5) ∨ (7 ≤ k ∧ k ≤ 10) ∨ (12 ≤ k ∧ k ≤ 16) ∨ (18 ≤ k ∧ k ≤ 22)) : zWc (zset M (c + k) j v) := by
  have hr : ∀ k, k < 23 → ((2 ≤ k ∧ k ≤ 5) ∨ (7 ≤ k ∧ k ≤ 10) ∨ (12 ≤ k ∧ k ≤ 16) ∨ (18 ≤ k ∧ k ≤ 22)) → zwC.all (fun q => !(q.1 == 2 + k)) = true ∧ zwC.all (fun q => !(q.1 == 25 + k)) = true := by decide +kernel
  rcases hc with e | e
  · rw [e]; exact h.setc (hr k (by omega) hk).1
  · rw [e]; exact h.setc (hr k (by omega) hk).2
theorem zWc.cnt {M : ZM} {c k j : Nat} {v : Int} (hc : isC c) (h : zWc M) (hk : (k, j) ∈ [(0, 0), (0, 1), (0, 2), (1, 0), (6, 0), (11, 0), (11, 1), (17, 0), (17, 4)]) : zWc (zset M (c + k) j v) := by
  have hr : ∀ q ∈ [(0, 0), (0, 1), (0, 2), (1, 0), (6, 0), (11, 0), (11, 1), (17, 0), (17, 4)], zwC.all (fun r => !(r.1 == 2 + q.1 && r.2.1 == q.2)) = true ∧ zwC.all (fun r => !(r.1 == 25 + q.1 && r.2.1 == q.2)) = true := by decide +kernel
  rcases hc with e | e
  · rw [e]; exact h.set (hr (k, j) hk).1
  · rw [e]; exact h.set (hr (k, j) hk).2
theorem RW.any {t : Nat → Int} {n c p : Nat} {N M : ZM} {k j : Nat} {v : Int} (hc : isC c) (h : RW t n c p N M) (hk : k ≤ 22) (hw : zWc (zset M (c + k) j v)) : RW t n c p N (zset M (c + k) j v) := by
  obtain ⟨⟨-, b1, b2, b3, b4⟩, ⟨t3, t4, t5, t6, t7⟩, hfr, hf0⟩ := h
  have hcl := hc.lt
  have e48 : zset M (c + k) j v 48 = M 48 := zset_ne M (by omega)
  have e1 : zset M (c + k) j v 1 = M 1 := zset_ne M (by omega)
  refine ⟨⟨hw, ?_, ?_, ?_, ?_⟩, ⟨?_, ?_, ?_, ?_, ?_⟩, ?_, ?_⟩
  · rw [e48]; exact b1
  · rw [e48]; exact b2
  · rw [e48]; exact b3
  · rw [e1]; exact b4
  · rw [e48]; exact t3
  · rw [e48]; exact t4
  · rw [e48]; exact t5
  · rw [e48]; exact t6
  · rw [e48]; exact t7
  · intro a h1 h2
    rw [zset_ne M (by omega)]
    exact hfr a h1 h2
  · rw [e48]; exact hf0
theorem RS.of {t : Nat → Int} {n c p : Nat} {ρ : Nat → Int} {N M : ZM} (h : RW t n c p N M) (hI : ICr ρ c M) : RS t n c p ρ N M := ⟨h.1, h.2.1, hI, h.2.2.1, h.2.2.2⟩
theorem RS.put {t : Nat → Int} {n c p : Nat} {ρ : Nat → Int} {N M : ZM} {k j : Nat} {v : Int} (hc : isC c) (h : RS t n c p ρ N M) (hf : q_free ρ k j) : RS t n c p ρ N (zset M (c + k) j v) := by
  have hf' := hf
  unfold q_free at hf'
  exact RS.of (h.w.any hc (by omega) (h.1.1.cty hc (by omega))) (h.2.2.1.put hf)
theorem q_up_at (ρ : Nat → Int) (i : Nat) (v : Int) : q_up ρ i v i = v := by
  unfold q_up
  rw [if_pos rfl]
theorem q_up_ne {ρ : Nat → Int} {i j : Nat} {v : Int} (h : j ≠ i) : q_up ρ i v j = ρ j := by
  unfold q_up
  rw [if_neg h]
theorem q_nm_at {t : Nat → Int} {n p : Nat} {ρ : Nat → Int} {m : Nat} (hm : m < 17) : q_nm t n p ρ m (268 + m) = (q_ln t n p : Int) := by
  unfold q_nm
  rw [if_neg (by omega), if_pos rfl]
theorem q_nm_in {t : Nat → Int} {n p : Nat} {ρ : Nat → Int} {m j : Nat} (hj : j < q_ln t n p) : q_nm t n p ρ m (285 + 8 * m + j) = t (q_at t n p + j) := by
  unfold q_nm
  rw [if_pos (by omega)]
  congr 1
  omega
theorem q_nm_ne {t : Nat → Int} {n p : Nat} {ρ : Nat → Int} {m i : Nat} (hl : q_ln t n p ≤ 8) (h1 : i ≠ 268 + m) (h2 : ¬ (285 + 8 * m ≤ i ∧ i < 285 + 8 * m + 8)) : q_nm t n p ρ m i = ρ i := by
  unfold q_nm
  rw [if_neg (by omega), if_neg h1]
theorem q_nm_wd {t : Nat → Int} {n p : Nat} {ρ : Nat → Int} {m : Nat} (hm : m < 17) : q_nmp (q_nm t n p ρ m) m = q_wd t n p := by
  unfold q_nmp q_wd
  rw [q_nm_at hm, Int.toNat_natCast]
  exact q_pk_congr _ (fun j hj => q_nm_in hj)
theorem q_lay_at {t : Nat → Int} {n p : Nat} {ρ : Nat → Int} {f : Nat} : q_lay t n p ρ f f = (q_ln t n p : Int) := by
  unfold q_lay
  rw [if_neg (by omega), if_pos rfl]
theorem q_lay_in {t : Nat → Int} {n p : Nat} {ρ : Nat → Int} {f j : Nat} (hj : j < q_ln t n p) : q_lay t n p ρ f (f + 1 + j) = t (q_at t n p + j) := by
  unfold q_lay
  rw [if_pos (by omega)]
  congr 1
  omega
theorem q_lay_ne {t : Nat → Int} {n p : Nat} {ρ : Nat → Int} {f i : Nat} (hl : q_ln t n p ≤ 8) (h : ¬ (f ≤ i ∧ i < f + 9)) : q_lay t n p ρ f i = ρ i := by
  unfold q_lay
  rw [if_neg (by omega), if_neg (by omega)]
theorem q_lay_wd {t : Nat → Int} {n p : Nat} {ρ : Nat → Int} {f : Nat} : q_sign (q_lay t n p ρ f) f = q_wd t n p := by
  unfold q_sign q_wd
  rw [q_lay_at, Int.toNat_natCast]
  exact q_pk_congr _ (fun j hj => q_lay_in hj)
