/-! what is now kept ahead of an act -/
def q_note (s : ZM) : ZM := fun a b => if a = 130 then (if s 124 20 = 16 then (if b < 270 then s 130 (b + 18) else if b < 288 then s 129 (b - 270) else s 130 b) else (if 18 * (s 124 20).toNat ≤ b ∧ b < 18 * (s 124 20).toNat + 18 then s 129 (b - 18 * (s 124 20).toNat) else s 130 b)) else if a = 124 ∧ b = 20 then (if s 124 20 = 16 then 16 else s 124 20 + 1) else s a b
theorem q_note_ne {s : ZM} {a : Nat} (h : a ≠ 130) (h2 : a ≠ 124) : q_note s a = s a := by
  funext b
  unfold q_note
  rw [if_neg h, if_neg (fun g => h2 g.1)]
theorem q_note_124 {s : ZM} {b : Nat} (h : b ≠ 20) : q_note s 124 b = s 124 b := by
  unfold q_note
  rw [if_neg (by decide), if_neg (fun g => h g.2)]
theorem q_note_20 {s : ZM} : q_note s 124 20 = if s 124 20 = 16 then 16 else s 124 20 + 1 := by
  unfold q_note
  rw [if_neg (by decide), if_pos ⟨rfl, rfl⟩]
theorem q_note_row {s : ZM} {j i : Nat} (hu : 0 ≤ s 124 20 ∧ s 124 20 ≤ 16) (hj : (j : Int) < q_note s 124 20) (hi : i < 18) : q_note s 130 (18 * j + i) = if (j : Int) + 1 = q_note s 124 20 then s 129 i else if s 124 20 = 16 then s 130 (18 * (j + 1) + i) else s 130 (18 * j + i) := by
  rw [q_note_20] at hj ⊢
  unfold q_note
  rw [if_pos rfl]
  by_cases h16 : s 124 20 = 16
  · rw [if_pos h16] at hj ⊢
    rw [if_pos h16]
    rw [if_pos h16]
    by_cases hj15 : j = 15
    · subst hj15
      rw [if_neg (by omega), if_pos (by omega), if_pos (by decide), show 18 * 15 + i - 270 = i by omega]
    · rw [if_pos (by omega), if_neg (by omega), show 18 * j + i + 18 = 18 * (j + 1) + i by omega]
  · rw [if_neg h16] at hj ⊢
    rw [if_neg h16]
    rw [if_neg h16]
    by_cases hjn : (j : Int) = s 124 20
    · rw [if_pos (by omega), if_pos (by omega), show 18 * j + i - 18 * (s 124 20).toNat = i by omega]
    · rw [if_neg (by omega), if_neg (by omega)]
theorem wfT.congr {ρ τ τ' : Nat → Int} (h : wfT ρ τ) (he : ∀ i, i < 18 → τ' i = τ i) : wfT ρ τ' := by
  unfold wfT at h ⊢
  obtain ⟨h1, h2, h3, h4, h5, h6, h7⟩ := h
  refine ⟨fun i hi => by rw [he i hi]; exact h1 i hi, fun s hs => ?_, by rw [he 14 (by decide)]; exact h3, by rw [he 15 (by decide)]; exact h4, by rw [he 16 (by decide)]; exact h5, by rw [he 17 (by decide)]; exact h6, fun a ha => ?_⟩
  · rw [he s (by omega), he 15 (by decide), he (7 + s) (by omega)]
    exact h2 s hs
  · rw [q_sum_congr (g := fun s => if τ (7 + s) = (a : Int) + 1 then 1 else 0) (fun i hi => by show (if τ' (7 + i) = _ then _ else _) = _; rw [he (7 + i) (by omega)])]
    exact h7 a ha
theorem ICn.rows {τ τ' : Nat → Int} {h : Int} {e : Nat} {M : ZM} (hI : ICn τ h e M) (he : ∀ i, i < 18 → τ' i = τ i) : ICn τ' h e M := by
  obtain ⟨a, b, c, d, f, g⟩ := hI
  refine ⟨by rw [he 15 (by decide)]; exact a, by rw [he 17 (by decide)]; exact b, by rw [he 14 (by decide)]; exact c, by rw [he 16 (by decide)]; exact d, fun s hs => by rw [he s (by omega)]; exact f s hs, fun h1 s hs => by rw [he (7 + s) (by omega)]; exact g h1 s hs⟩
theorem WF.u {s : ZM} (h : WF s) : 0 ≤ s 124 20 ∧ s 124 20 ≤ 16 := h.2.2.2.2.2.2.2.2.2.2.1
theorem WF.ur {s : ZM} (h : WF s) : ∀ j : Nat, (j : Int) < s 124 20 → wfT (s 127) (fun i => s 130 (18 * j + i)) := h.2.2.2.2.2.2.2.2.2.2.2.1
theorem WF.m {s : ZM} (h : WF s) : 0 ≤ s 124 21 ∧ s 124 21 ≤ 3 := h.2.2.2.2.2.2.2.2.2.2.2.2.1
theorem WF.mr {s : ZM} (h : WF s) : ∀ j : Nat, (j : Int) < s 124 21 → wfT (s 127) (fun i => s 131 (18 * j + i)) := h.2.2.2.2.2.2.2.2.2.2.2.2.2.1
theorem WF.note {s : ZM} (h : WF s) (h1 : s 124 14 = 1) : WF (q_note s) := by
  have hu := h.u
  have hT := h.t
  have hur := h.ur
  obtain ⟨a1, a2, a3, a4, a5, a6, a7, a8, a9, a10, a11, a12, a13, a14, a15⟩ := h
  unfold WF
  rw [q_note_ne (a := 125) (by decide) (by decide), q_note_ne (a := 127) (by decide) (by decide), q_note_ne (a := 129) (by decide) (by decide), q_note_ne (a := 131) (by decide) (by decide), q_note_124 (b := 2) (by decide), q_note_124 (b := 9) (by decide), q_note_124 (b := 10) (by decide), q_note_124 (b := 11) (by decide), q_note_124 (b := 14) (by decide), q_note_124 (b := 21) (by decide)]
  refine ⟨a1, a2, a3, a4, a5, a6, a7, a8, a9, a10, ?_, fun j hj => ?_, a13, a14, fun h0 => absurd h0 (by omega)⟩
  · rw [q_note_20]
    split <;> omega
  · have hj2 := hj
    rw [q_note_20] at hj2
    by_cases e : (j : Int) + 1 = q_note s 124 20
    · refine hT.congr (fun i hi => ?_)
      show q_note s 130 (18 * j + i) = _
      rw [q_note_row hu hj hi, if_pos e]
    · rw [q_note_20] at e
      by_cases h16 : s 124 20 = 16
      · rw [if_pos h16] at hj2 e
        refine (hur (j + 1) (by omega)).congr (fun i hi => ?_)
        show q_note s 130 (18 * j + i) = _
        rw [q_note_row hu hj hi, q_note_20, if_pos h16, if_neg e, if_pos h16]
      · rw [if_neg h16] at hj2 e
        refine (hur j (by omega)).congr (fun i hi => ?_)
        show q_note s 130 (18 * j + i) = _
        rw [q_note_row hu hj hi, q_note_20, if_neg h16, if_neg e, if_neg h16]
/-- the class's keeping: where top is -/
def zkeep (M : ZM) (top cnt : Nat) : ZM := zset (zset (zcp M (55 + 3 * top) 49 7) 52 1 (((top + 1) % 16 : Nat) : Int)) 52 2 ((if cnt < 16 then cnt + 1 else 16 : Nat) : Int)
theorem zkeep_ne {M : ZM} {top cnt a : Nat} (h0 : a ≠ 55 + 3 * top) (h1 : a ≠ 55 + 3 * top + 1) (h2 : a ≠ 55 + 3 * top + 2) (h3 : a ≠ 52) : zkeep M top cnt a = M a := by
  unfold zkeep
  rw [zset_ne _ h3, zset_ne _ h3, zcp_other h0 h1 h2]
theorem IC.keep {s M : ZM} (h : IC s M) (hF : WF s) (h1 : s 124 14 = 1) {top cnt : Nat} (ht : top < 16) (hm : M 52 1 = (top : Int)) (hc : M 52 2 = (cnt : Int)) : IC (q_note s) (zkeep M top cnt) := by
  have hu := hF.u
  have hmm := hF.m
  obtain ⟨i1, -, -, i4, ⟨p1, p2, top', ht', p3, p4, p5⟩, i6, ⟨iz, i7⟩, i8⟩ := id h
  have e1 : top' = top := by omega
  subst e1
  have ec : (s 124 20).toNat = cnt := by omega
  have ne49 : ∀ a, a ≤ 51 → zkeep M top' cnt a = M a := fun a ha => zkeep_ne (by omega) (by omega) (by omega) (by omega)
  have ne112 : ∀ a, 103 ≤ a → zkeep M top' cnt a = M a := fun a ha => zkeep_ne (by omega) (by omega) (by omega) (by omega)
  refine h.gen ?_ (q_note_ne (by decide) (by decide)) (q_note_ne (by decide) (by decide)) (q_note_124 (by decide)) (q_note_124 (by decide)) (q_note_124 (by decide)) (fun a h2 h3 => ne49 a (by omega)) (fun k _ => by rw [ne49 0 (by decide)]) ?_ (fun h4 => ⟨by rw [← q_note_124 (s := s) (b := 11) (by decide)]; exact h4, q_note_124 (by decide)⟩) ?_ ⟨?_, ?_, (top' + 1) % 16, Nat.mod_lt _ (by decide), ?_, fun j hj => ?_, fun j hj => ?_⟩ ?_ ?_ ?_ ?_
  · exact ((zcp_wc i1 (isNow_kept ht)).set (by decide +kernel)).set (by decide +kernel)
  · rw [ne49 0 (by decide), q_note_124 (by decide)]
    exact h.2.2.1.2.2.1
  · rw [q_note_ne (by decide) (by decide), q_note_124 (by decide)]
    exact i4.congr (ne49 _ (by decide)) (ne49 _ (by decide)) (ne49 _ (by decide))
  · rw [q_note_20]
    show ((if cnt < 16 then cnt + 1 else 16 : Nat) : Int) = _
    split <;> split <;> omega
  · rw [q_note_124 (by decide)]
    have : zkeep M top' cnt 52 4 = zcp M (55 + 3 * top') 49 7 52 4 := rfl
    rw [this, zcp_other (by omega) (by omega) (by omega)]
    exact p2
  · rfl
  · have hj2 := hj
    rw [q_note_20] at hj2
    have hrow : ∀ i, i < 18 → q_note s 130 (18 * j + i) = if (j : Int) + 1 = q_note s 124 20 then s 129 i else if s 124 20 = 16 then s 130 (18 * (j + 1) + i) else s 130 (18 * j + i) := fun i hi => q_note_row hu hj hi
    have en : (q_note s 124 20).toNat = if cnt < 16 then cnt + 1 else 16 := by
      rw [q_note_20]
      split <;> split <;> omega
    rw [en]
    by_cases e : (j : Int) + 1 = q_note s 124 20
    · have ecell : 55 + 3 * (((top' + 1) % 16 + 16 - (if cnt < 16 then cnt + 1 else 16) + j) % 16) = 55 + 3 * top' := by
        rw [q_note_20] at e
        split at e <;> split <;> omega
      rw [ecell]
      have hn : ICn (s 129) 1 49 M := by rw [← h1]; exact i4
      have hz := zcp_ICn (e := 55 + 3 * top') hn (Or.inl (by omega))
      refine (hz.congr (M' := zkeep M top' cnt) ?_ ?_ ?_).rows (fun i hi => by rw [hrow i hi, if_pos e])
      · unfold zkeep; rw [zset_ne _ (by omega), zset_ne _ (by omega)]
      · unfold zkeep; rw [zset_ne _ (by omega), zset_ne _ (by omega)]
      · unfold zkeep; rw [zset_ne _ (by omega), zset_ne _ (by omega)]
    · rw [q_note_20] at e
      by_cases h16 : s 124 20 = 16
      · rw [if_pos h16] at hj2 e
        have hp := p4 (j + 1) (by omega)
        have ecell : (top' + 16 - (s 124 20).toNat + (j + 1)) % 16 = ((top' + 1) % 16 + 16 - (if cnt < 16 then cnt + 1 else 16) + j) % 16 := by
          rw [ec]
          split <;> omega
        rw [ecell] at hp
        have hlt : ((top' + 1) % 16 + 16 - (if cnt < 16 then cnt + 1 else 16) + j) % 16 ≠ top' := by
          split <;> omega
        generalize ((top' + 1) % 16 + 16 - (if cnt < 16 then cnt + 1 else 16) + j) % 16 = x at hp hlt ⊢
        refine (hp.congr (zkeep_ne (by omega) (by omega) (by omega) (by omega)) (zkeep_ne (by omega) (by omega) (by omega) (by omega)) (zkeep_ne (by omega) (by omega) (by omega) (by omega))).rows (fun i hi => by rw [hrow i hi, q_note_20, if_pos h16, if_neg e, if_pos h16])
      · rw [if_neg h16] at hj2 e
        have hp := p4 j (by omega)
        have ecell : (top' + 16 - (s 124 20).toNat + j) % 16 = ((top' + 1) % 16 + 16 - (if cnt < 16 then cnt + 1 else 16) + j) % 16 := by
          rw [ec]
          split <;> omega
        rw [ecell] at hp
        have hlt : ((top' + 1) % 16 + 16 - (if cnt < 16 then cnt + 1 else 16) + j) % 16 ≠ top' := by
          split <;> omega
        generalize ((top' + 1) % 16 + 16 - (if cnt < 16 then cnt + 1 else 16) + j) % 16 = x at hp hlt ⊢
        refine (hp.congr (zkeep_ne (by omega) (by omega) (by omega) (by omega)) (zkeep_ne (by omega) (by omega) (by omega) (by omega)) (zkeep_ne (by omega) (by omega) (by omega) (by omega))).rows (fun i hi => by rw [hrow i hi, q_note_20, if_neg h16, if_neg e, if_neg h16])
  · rw [q_note_124 (by decide)] at hj
    have e131 : (fun i => q_note s 131 (18 * j + i)) = fun i => s 131 (18 * j + i) := by rw [q_note_ne (by decide) (by decide)]
    rw [e131]
    exact (p5 j hj).congr (ne112 _ (by omega)) (ne112 _ (by omega)) (ne112 _ (by omega))
  · rw [q_note_ne (by decide) (by decide), ne112 112 (by decide)]
    exact i6.imp id (fun g => ⟨g.1, g.2.congr (ne112 _ (by decide)) (ne112 _ (by decide)) (ne112 _ (by decide))⟩)
  · rw [ne112 116 (by decide), ne112 117 (by decide), ne112 118 (by decide), ne112 119 (by decide)]
    exact iz
  · rw [q_note_ne (by decide) (by decide), ne112 115 (by decide)]
    exact i7.imp id (fun g => ⟨g.1, g.2.congr (ne112 _ (by decide)) (ne112 _ (by decide)) (ne112 _ (by decide)) (ne112 _ (by decide)) (ne112 _ (by decide))⟩)
  · rw [q_note_ne (by decide) (by decide), ne112 121 (by decide)]
    exact i8.imp id (fun g => ⟨g.1, g.2.congr (ne112 _ (by decide))⟩)
/-- what is now changes, and TROUBLE -/
theorem IC.now {s s' M M' : ZM} (h : IC s M) (hF : WF s) (hw : zWc M') (e125 : s' 125 = s 125) (e127 : s' 127 = s 127) (e130 : s' 130 = s 130) (e131 : s' 131 = s 131) (e14 : s' 124 14 = s 124 14) (e2 : s' 124 2 = s 124 2) (e9 : s' 124 9 = s 124 9) (e20 : s' 124 20 = s 124 20) (e21 : s' 124 21 = s 124 21) (hM : ∀ a, a ≠ 0 → a ≠ 49 → a ≠ 50 → a ≠ 51 → a < 124 → M' a = M a) (h0 : ∀ k, k ≠ 2 → M' 0 k = M 0 k) (h2 : M' 0 2 = s' 124 11) (h4 : s' 124 11 ≠ 4) (hn : ICn (s' 129) (s' 124 14) 49 M') : IC s' M' := by
  obtain ⟨i1, -, -, i4, ⟨p1, p2, top, ht, p3, p4, p5⟩, i6, ⟨⟨q1, q2, q3, q4⟩, i7⟩, i8⟩ := id h
  have hm : ∀ a, 52 ≤ a → a < 124 → M' a = M a := fun a g1 g2 => hM a (by omega) (by omega) (by omega) (by omega) g2
  have hmm := hF.m
  refine h.gen hw e125 e127 e14 e2 e9 (fun a g1 g2 => hM a (by omega) (by omega) (by omega) (by omega) (by omega)) h0 h2 (fun g => absurd g h4) hn ⟨?_, ?_, top, ht, ?_, fun j hj => ?_, fun j hj => ?_⟩ ?_ ⟨?_, ?_, ?_, ?_⟩ ?_ ?_
  · rw [hm 52 (by decide) (by decide), e20]; exact p1
  · rw [hm 52 (by decide) (by decide), e21]; exact p2
  · rw [hm 52 (by decide) (by decide)]; exact p3
  · rw [e20] at hj ⊢
    rw [e130]
    have hx : (top + 16 - (s 124 20).toNat + j) % 16 < 16 := Nat.mod_lt _ (by decide)
    exact (p4 j hj).congr (hm _ (by omega) (by omega)) (hm _ (by omega) (by omega)) (hm _ (by omega) (by omega))
  · rw [e21] at hj
    rw [e131]
    exact (p5 j hj).congr (hm _ (by omega) (by omega)) (hm _ (by omega) (by omega)) (hm _ (by omega) (by omega))
  · rw [e127, hm 112 (by decide) (by decide)]
    exact i6.imp id (fun g => ⟨g.1, g.2.congr (hm _ (by decide) (by decide)) (hm _ (by decide) (by decide)) (hm _ (by decide) (by decide))⟩)
  · rw [hm 116 (by decide) (by decide)]; exact q1
  · rw [hm 117 (by decide) (by decide)]; exact q2
  · rw [hm 118 (by decide) (by decide)]; exact q3
  · rw [hm 119 (by decide) (by decide)]; exact q4
  · rw [e127, hm 115 (by decide) (by decide)]
    exact i7.imp id (fun g => ⟨g.1, g.2.congr (hm _ (by decide) (by decide)) (hm _ (by decide) (by decide)) (hm _ (by decide) (by decide)) (hm _ (by decide) (by decide)) (hm _ (by decide) (by decide))⟩)
  · rw [e127, hm 121 (by decide) (by decide)]
    exact i8.imp id (fun g => ⟨g.1, g.2.congr (hm _ (by decide) (by decide))⟩)
