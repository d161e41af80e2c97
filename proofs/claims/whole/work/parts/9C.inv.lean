/-! THE INVARIANT OF THE LAW'S LOOP -/
theorem IC.low {s M M' : ZM} (h : IC s M) (hF : WF s) (hM : ∀ a, a < 124 → M' a = M a) : IC s M' := by
  obtain ⟨i1, ⟨c, c', hcc, hc1, hc2, hc3⟩, ⟨j1, j2, j3, j4, j5⟩, i4, ⟨p1, p2, top, ht, p3, p4, p5⟩, i6, ⟨⟨q1, q2, q3, q4⟩, i7⟩, i8⟩ := h
  have e0 := hM 0 (by decide)
  have e52 := hM 52 (by decide)
  refine ⟨fun q hq => ?_, ⟨c, c', hcc, by rw [e0]; exact hc1, by rw [e0]; exact hc2, hc3.congr (fun a h1 h2 => hM a (by omega))⟩, ⟨by rw [e0]; exact j1, fun i hi => by rw [hM 1 (by decide)]; exact j2 i hi, by rw [e0]; exact j3, by rw [e0]; exact j4, fun h9 => by rw [e0]; exact j5 h9⟩, i4.congr (hM _ (by decide)) (hM _ (by decide)) (hM _ (by decide)), ⟨by rw [e52]; exact p1, by rw [e52]; exact p2, top, ht, by rw [e52]; exact p3, fun j hj => ?_, fun j hj => ?_⟩, ?_, ⟨⟨?_, ?_, ?_, ?_⟩, ?_⟩, ?_⟩
  · have hr : ∀ q ∈ zwC, q.1 < 124 := by decide +kernel
    rw [hM _ (hr q hq)]
    exact i1 q hq
  · have hm : (top + 16 - (s 124 20).toNat + j) % 16 < 16 := Nat.mod_lt _ (by decide)
    exact (p4 j hj).congr (hM _ (by omega)) (hM _ (by omega)) (hM _ (by omega))
  · have hj3 := hF.m.2
    exact (p5 j hj).congr (hM _ (by omega)) (hM _ (by omega)) (hM _ (by omega))
  · rcases i6 with g | ⟨g1, g2⟩
    · exact Or.inl (by rw [hM 112 (by decide)]; exact g)
    · exact Or.inr ⟨by rw [hM 112 (by decide)]; exact g1, g2.congr (hM _ (by decide)) (hM _ (by decide)) (hM _ (by decide))⟩
  · rw [hM 116 (by decide)]; exact q1
  · rw [hM 117 (by decide)]; exact q2
  · rw [hM 118 (by decide)]; exact q3
  · rw [hM 119 (by decide)]; exact q4
  · rcases i7 with g | ⟨g1, g2⟩
    · exact Or.inl (by rw [hM 115 (by decide)]; exact g)
    · exact Or.inr ⟨by rw [hM 115 (by decide)]; exact g1, g2.congr (hM _ (by decide)) (hM _ (by decide)) (hM _ (by decide)) (hM _ (by decide)) (hM _ (by decide))⟩
  · rcases i8 with g | ⟨g1, g2⟩
    · exact Or.inl (by rw [hM 121 (by decide)]; exact g)
    · exact Or.inr ⟨by rw [hM 121 (by decide)]; exact g1, g2.congr (hM _ (by decide))⟩
theorem Obs.trans {a b c : ZM} (h : Obs a b) (g : Obs b c) : Obs a c := by
  obtain ⟨o1, o2, o3, o4, o5, o6, o7, o8, o9, o10, o11, o12⟩ := h
  obtain ⟨r1, r2, r3, r4, r5, r6, r7, r8, r9, r10, r11, r12⟩ := g
  exact ⟨r1.trans o1, r2.trans o2, r3.trans o3, r4.trans o4, r5.trans o5, r6.trans o6, r7.trans o7, r8.trans o8, r9.trans o9, r10.trans o10, r11.trans o11, r12.trans o12⟩
/-- the same above the class's cells -/
def Up (M N : ZM) : Prop := ∀ k, 124 ≤ k → N k = M k
theorem Up.set {M N : ZM} (h : Up M N) (c k : Nat) (v : Int) : Up (zset M c k v) (zset N c k v) := by
  intro a ha
  funext b
  unfold zset
  rw [h a ha]
theorem Up.copy {M N : ZM} (h : Up M N) {f : Nat} (hf : 124 ≤ f) (a t i m : Nat) : Up (zcopy M f a t i m) (zcopy N f a t i m) := by
  intro x hx
  exact zcopy_congr (h f hf) (h x hx)
theorem Up.note {M N : ZM} (h : Up M N) : Up (q_note M) (q_note N) := by
  intro x hx
  funext b
  unfold q_note
  rw [h 124 (by decide), h 129 (by decide), h 130 (by decide), h x hx]
theorem Up.zWm {M N : ZM} (h : Up M N) (hW : zWm M) : zWm N := hW.eq (h 124 (by decide))
theorem Up.wf {M N : ZM} (h : Up M N) (hF : WF M) : WF N := hF.obs (Obs.of h)
theorem Inv.join {M M1 M2 s : ZM} (hs : WF s) (h1 : IC s M1) (hl : ∀ k, k < 124 → M2 k = M1 k) (hW : zWm M2) (o : Obs s M2) : Inv M2 :=
  ⟨hs.obs o, hW, (h1.obs o).low (hs.obs o) hl⟩
theorem Inv.query {M M1 M2 : ZM} {p : Int × Int} {a b : Int} (hI : Inv M) (hp : 0 ≤ p.2 ∧ p.2 ≤ 6) (h1 : CQ M p a M1) (h2 : MQq M1 p b M2) : a = b ∧ Inv M2 := by
  obtain ⟨a1, a2, a3⟩ := h1
  obtain ⟨b1, b2, b3, b4⟩ := h2
  exact ⟨a1.trans b1.symm, Inv.join (M := M) (hI.1.tr hp.1 hp.2) a2 b2 b3 (Obs.trans (Obs.of (Up.set a3 124 11 p.2)) b4)⟩
theorem Inv.act {M M1 M2 : ZM} {p q : Int × ZM} {a b : Int} (hp : WF p.2) (hq : q.1 = p.1 ∧ Up p.2 q.2) (h1 : CA M p a M1) (h2 : MA M1 q b M2) : a = b ∧ Inv M2 := by
  obtain ⟨a1, a2, a3⟩ := h1
  obtain ⟨b1, b2, b3, b4⟩ := h2
  exact ⟨a1.trans (hq.1.symm.trans b1.symm), Inv.join (M := M) hp a2 b2 b3 (Obs.trans (Obs.of hq.2) b4)⟩
theorem up_seed {M N : ZM} (e : Up M N) (v : Int) : (ga_seed N v).1 = (ga_seed M v).1 ∧ Up (ga_seed M v).2 (ga_seed N v).2 := by
  unfold ga_seed
  simp only [e 124 (by decide), e 125 (by decide), e 127 (by decide), e 129 (by decide)]
  (repeat' split) <;> (refine ⟨rfl, ?_⟩; first | exact e.set _ _ _ | exact (e.set _ _ _).set _ _ _)
theorem up_undone {M N : ZM} (e : Up M N) : Up (q_undone M) (q_undone N) := by
  unfold q_undone
  rw [e 124 (by decide)]
  exact ((e.copy (by decide) _ _ _ _).set _ _ _).set _ _ _
theorem up_imaged {M N : ZM} (e : Up M N) : Up (q_imaged M) (q_imaged N) := by
  unfold q_imaged
  rw [e 124 (by decide)]
  exact ((e.copy (by decide) _ _ _ _).set _ _ _).set _ _ _
theorem up_backed {M N : ZM} (e : Up M N) (v : Int) : Up (q_backed M v) (q_backed N v) := by
  unfold q_backed
  exact ((e.copy (by decide) _ _ _ _).set _ _ _).set _ _ _
theorem up_dayed {M N : ZM} (e : Up M N) : Up (q_dayed M) (q_dayed N) := by
  intro x hx
  funext b
  unfold q_dayed
  rw [e 127 (by decide), e 129 (by decide), e.note x hx]
theorem up_said {M N : ZM} (e : Up M N) (w : Nat) : Up (q_said M w) (q_said N w) := by
  intro x hx
  funext b
  unfold q_said
  rw [e 127 (by decide), e 129 (by decide), e.note x hx]
theorem up_tended {M N : ZM} (e : Up M N) (a s : Nat) : Up (q_tended M a s) (q_tended N a s) := by
  unfold q_tended
  exact (e.note.set _ _ _).set _ _ _
theorem up_feedm {M N : ZM} (e : Up M N) (g : Nat → Int) (t i : Nat) : Up (zfeedm M g t i) (zfeedm N g t i) := by
  intro x hx
  funext b
  unfold zfeedm
  rw [e x hx]
theorem up_bad {M N : ZM} (e : Up M N) (f : Int × Int) : Up (q_bad M f) (q_bad N f) := by
  unfold q_bad
  exact (((e.set _ _ _).set _ _ _).set _ _ _).set _ _ _
theorem up_cty {M N : ZM} (e : Up M N) (ρ : Nat → Int) : Up (q_cty M ρ) (q_cty N ρ) := by
  intro x hx
  funext b
  unfold q_cty
  rw [e 124 (by decide), e 127 (by decide), e 129 (by decide), e x hx]
theorem up_undo {M N : ZM} (e : Up M N) : (ga_undo N ).1 = (ga_undo M ).1 ∧ Up (ga_undo M ).2 (ga_undo N ).2 := by
  unfold ga_undo
  simp only [e 124 (by decide), e 125 (by decide), e 127 (by decide), e 129 (by decide)]
  (repeat' split) <;> (refine ⟨rfl, ?_⟩; first | exact e.set _ _ _ | exact up_undone e)
theorem up_image {M N : ZM} (e : Up M N) : (ga_image N ).1 = (ga_image M ).1 ∧ Up (ga_image M ).2 (ga_image N ).2 := by
  unfold ga_image
  simp only [e 124 (by decide), e 125 (by decide), e 127 (by decide), e 129 (by decide)]
  (repeat' split) <;> (refine ⟨rfl, ?_⟩; first | exact e.set _ _ _ | exact up_imaged e)
theorem up_back {M N : ZM} (e : Up M N) (v : Int) : (ga_back N v).1 = (ga_back M v).1 ∧ Up (ga_back M v).2 (ga_back N v).2 := by
  unfold ga_back
  simp only [e 124 (by decide), e 125 (by decide), e 127 (by decide), e 129 (by decide)]
  (repeat' split) <;> (refine ⟨rfl, ?_⟩; first | exact e.set _ _ _ | exact up_backed e _)
theorem up_tend {M N : ZM} (e : Up M N) (a s : Int) : (ga_tend N a s).1 = (ga_tend M a s).1 ∧ Up (ga_tend M a s).2 (ga_tend N a s).2 := by
  unfold ga_tend
  simp only [e 124 (by decide), e 125 (by decide), e 127 (by decide), e 129 (by decide)]
  (repeat' split) <;> (refine ⟨rfl, ?_⟩; first | exact e.set _ _ _ | exact up_tended e _ _)
theorem up_day {M N : ZM} (e : Up M N) : (ga_day N ).1 = (ga_day M ).1 ∧ Up (ga_day M ).2 (ga_day N ).2 := by
  unfold ga_day
  simp only [e 124 (by decide), e 125 (by decide), e 127 (by decide), e 129 (by decide)]
  (repeat' split) <;> (refine ⟨rfl, ?_⟩; first | exact e.set _ _ _ | exact up_dayed e)
theorem up_say {M N : ZM} (e : Up M N) (w : Int) : (ga_say N w).1 = (ga_say M w).1 ∧ Up (ga_say M w).2 (ga_say N w).2 := by
  unfold ga_say
  simp only [e 124 (by decide), e 125 (by decide), e 127 (by decide), e 129 (by decide)]
  (repeat' split) <;> (refine ⟨rfl, ?_⟩; first | exact e.set _ _ _ | exact up_said e _)
theorem up_feed {M N : ZM} (e : Up M N) (a b c d f : Int) : (ga_feed N a b c d f).1 = (ga_feed M a b c d f).1 ∧ Up (ga_feed M a b c d f).2 (ga_feed N a b c d f).2 := by
  unfold ga_feed
  simp only [e 124 (by decide), e 125 (by decide), e 127 (by decide), e 129 (by decide)]
  (repeat' split) <;> (refine ⟨rfl, ?_⟩; first | exact e.set _ _ _ | exact up_feedm e _ _ _ | exact e)
theorem up_county {M N : ZM} (e : Up M N) (v : Int) : (ga_county N v).1 = (ga_county M v).1 ∧ Up (ga_county M v).2 (ga_county N v).2 := by
  unfold ga_county
  simp only [e 124 (by decide), e 125 (by decide), e 127 (by decide), e 129 (by decide)]
  (repeat' split) <;> (refine ⟨rfl, ?_⟩; first | exact e.set _ _ _ | exact up_bad e _ | exact up_cty e _)
theorem pb_counts (h : Int) (ρ : Nat → Int) (v : Int) : 0 ≤ (pa_counts h ρ v).2 ∧ (pa_counts h ρ v).2 ≤ 6 := by
  unfold pa_counts
  (repeat' split) <;> (refine ⟨?_, ?_⟩ <;> dsimp only <;> omega)
theorem pb_really (h : Int) (ρ : Nat → Int) (v : Int) : 0 ≤ (pa_really h ρ v).2 ∧ (pa_really h ρ v).2 ≤ 6 := by
  unfold pa_really
  (repeat' split) <;> (refine ⟨?_, ?_⟩ <;> dsimp only <;> omega)
theorem pb_sum (h : Int) (ρ : Nat → Int) (v w : Int) : 0 ≤ (pa_sum h ρ v w).2 ∧ (pa_sum h ρ v w).2 ≤ 6 := by
  unfold pa_sum
  (repeat' split) <;> (refine ⟨?_, ?_⟩ <;> dsimp only <;> omega)
theorem pb_sleeper (h : Int) (ρ τ : Nat → Int) (s w : Int) : 0 ≤ (pa_sleeper h ρ τ s w).2 ∧ (pa_sleeper h ρ τ s w).2 ≤ 6 := by
  unfold pa_sleeper
  (repeat' split) <;> (refine ⟨?_, ?_⟩ <;> dsimp only <;> omega)
theorem pb_awake (h : Int) (ρ τ : Nat → Int) (a w : Int) : 0 ≤ (pa_awake h ρ τ a w).2 ∧ (pa_awake h ρ τ a w).2 ≤ 6 := by
  unfold pa_awake
  (repeat' split) <;> (refine ⟨?_, ?_⟩ <;> dsimp only <;> omega)
theorem pb_harmOf (h : Int) (ρ τ : Nat → Int) (s : Int) : 0 ≤ (pa_harmOf h ρ τ s).2 ∧ (pa_harmOf h ρ τ s).2 ≤ 6 := by
  unfold pa_harmOf
  (repeat' split) <;> (refine ⟨?_, ?_⟩ <;> dsimp only <;> omega)
theorem pb_harm (h : Int) (ρ τ : Nat → Int) : 0 ≤ (pa_harm h ρ τ).2 ∧ (pa_harm h ρ τ).2 ≤ 6 := by
  unfold pa_harm
  (repeat' split) <;> (refine ⟨?_, ?_⟩ <;> dsimp only <;> omega)
theorem pb_harmed (h : Int) (ρ τ : Nat → Int) : 0 ≤ (pa_harmed h ρ τ).2 ∧ (pa_harmed h ρ τ).2 ≤ 6 := by
  unfold pa_harmed
  (repeat' split) <;> (refine ⟨?_, ?_⟩ <;> dsimp only <;> omega)
theorem pb_worst (h : Int) (ρ τ : Nat → Int) : 0 ≤ (pa_worst h ρ τ).2 ∧ (pa_worst h ρ τ).2 ≤ 6 := by
  unfold pa_worst
  (repeat' split) <;> (refine ⟨?_, ?_⟩ <;> dsimp only <;> omega)
theorem pb_word (h : Int) (ρ τ : Nat → Int) (w k : Int) : 0 ≤ (pa_word h ρ τ w k).2 ∧ (pa_word h ρ τ w k).2 ≤ 6 := by
  unfold pa_word
  (repeat' split) <;> (refine ⟨?_, ?_⟩ <;> dsimp only <;> omega)
theorem pb_next (h : Int) (ρ τ : Nat → Int) : 0 ≤ (pa_next h ρ τ).2 ∧ (pa_next h ρ τ).2 ≤ 6 := by
  unfold pa_next
  (repeat' split) <;> (refine ⟨?_, ?_⟩ <;> dsimp only <;> omega)
theorem pb_envoys (h : Int) (w a b o : Int) : 0 ≤ (pa_envoys h w a b o).2 ∧ (pa_envoys h w a b o).2 ≤ 6 := by
  unfold pa_envoys
  (repeat' split) <;> (refine ⟨?_, ?_⟩ <;> dsimp only <;> omega)
theorem pb_rests (h : Int) (w : Int) : 0 ≤ (pa_rests h w).2 ∧ (pa_rests h w).2 ≤ 6 := by
  unfold pa_rests
  (repeat' split) <;> (refine ⟨?_, ?_⟩ <;> dsimp only <;> omega)
theorem pb_rest (h : Int) (w : Int) : 0 ≤ (pa_rest h w).2 ∧ (pa_rest h w).2 ≤ 6 := by
  unfold pa_rest
  (repeat' split) <;> (refine ⟨?_, ?_⟩ <;> dsimp only <;> omega)
theorem pb_chance (h : Int) (ρ τ : Nat → Int) (w b : Int) : 0 ≤ (pa_chance h ρ τ w b).2 ∧ (pa_chance h ρ τ w b).2 ≤ 6 := by
  unfold pa_chance
  (repeat' split) <;> (refine ⟨?_, ?_⟩ <;> dsimp only <;> omega)
theorem pb_mean (h : Int) (ρ τ : Nat → Int) (b : Int) : 0 ≤ (pa_mean h ρ τ b).2 ∧ (pa_mean h ρ τ b).2 ≤ 6 := by
  unfold pa_mean
  (repeat' split) <;> (refine ⟨?_, ?_⟩ <;> dsimp only <;> omega)
theorem pb_searchAt (h : Int) (ρ τ : Nat → Int) (i : Int) : 0 ≤ (pa_searchAt h ρ τ i).2 ∧ (pa_searchAt h ρ τ i).2 ≤ 6 := by
  unfold pa_searchAt
  (repeat' split) <;> (refine ⟨?_, ?_⟩ <;> dsimp only <;> omega)
theorem pb_meanFirst (h : Int) (ρ τ : Nat → Int) (w b : Int) : 0 ≤ (pa_meanFirst h ρ τ w b).2 ∧ (pa_meanFirst h ρ τ w b).2 ≤ 6 := by
  unfold pa_meanFirst
  (repeat' split) <;> (refine ⟨?_, ?_⟩ <;> dsimp only <;> omega)
theorem pb_within (h : Int) (ρ τ : Nat → Int) (m b : Int) : 0 ≤ (pa_within h ρ τ m b).2 ∧ (pa_within h ρ τ m b).2 ≤ 6 := by
  unfold pa_within
  (repeat' split) <;> (refine ⟨?_, ?_⟩ <;> dsimp only <;> omega)
theorem pb_withinWords (h : Int) (ρ τ : Nat → Int) (m : Int) : 0 ≤ (pa_withinWords h ρ τ m).2 ∧ (pa_withinWords h ρ τ m).2 ≤ 6 := by
  unfold pa_withinWords
  (repeat' split) <;> (refine ⟨?_, ?_⟩ <;> dsimp only <;> omega)
theorem pb_rows (h : Int) (ρ τ : Nat → Int) : 0 ≤ (pa_rows h ρ τ).2 ∧ (pa_rows h ρ τ).2 ≤ 6 := by
  unfold pa_rows
  (repeat' split) <;> (refine ⟨?_, ?_⟩ <;> dsimp only <;> omega)
theorem pb_tending (h : Int) (ρ : Nat → Int) : 0 ≤ (pa_tending h ρ).2 ∧ (pa_tending h ρ).2 ≤ 6 := by
  unfold pa_tending
  (repeat' split) <;> (refine ⟨?_, ?_⟩ <;> dsimp only <;> omega)
theorem pb_tendedBy (h : Int) (ρ : Nat → Int) (s : Int) : 0 ≤ (pa_tendedBy h ρ s).2 ∧ (pa_tendedBy h ρ s).2 ≤ 6 := by
  unfold pa_tendedBy
  (repeat' split) <;> (refine ⟨?_, ?_⟩ <;> dsimp only <;> omega)
theorem pb_left (h : Int) (ρ : Nat → Int) : 0 ≤ (pa_left h ρ).2 ∧ (pa_left h ρ).2 ≤ 6 := by
  unfold pa_left
  (repeat' split) <;> (refine ⟨?_, ?_⟩ <;> dsimp only <;> omega)
theorem pb_worthOf (h : Int) (ρ : Nat → Int) (a : Int) : 0 ≤ (pa_worthOf h ρ a).2 ∧ (pa_worthOf h ρ a).2 ≤ 6 := by
  unfold pa_worthOf
  (repeat' split) <;> (refine ⟨?_, ?_⟩ <;> dsimp only <;> omega)
theorem pb_bestHand (h : Int) (ρ : Nat → Int) : 0 ≤ (pa_bestHand h ρ).2 ∧ (pa_bestHand h ρ).2 ≤ 6 := by
  unfold pa_bestHand
  (repeat' split) <;> (refine ⟨?_, ?_⟩ <;> dsimp only <;> omega)
theorem pb_winters (h : Int) (ρ τ : Nat → Int) (v n : Int) : 0 ≤ (pa_winters h ρ τ v n).2 ∧ (pa_winters h ρ τ v n).2 ≤ 6 := by
  unfold pa_winters
  (repeat' split) <;> (refine ⟨?_, ?_⟩ <;> dsimp only <;> omega)
theorem pb_wintersOf (h : Int) (ρ τ : Nat → Int) (s v n : Int) : 0 ≤ (pa_wintersOf h ρ τ s v n).2 ∧ (pa_wintersOf h ρ τ s v n).2 ≤ 6 := by
  unfold pa_wintersOf
  (repeat' split) <;> (refine ⟨?_, ?_⟩ <;> dsimp only <;> omega)
theorem pb_above (h : Int) (ρ τ : Nat → Int) (m v n : Int) : 0 ≤ (pa_above h ρ τ m v n).2 ∧ (pa_above h ρ τ m v n).2 ≤ 6 := by
  unfold pa_above
  (repeat' split) <;> (refine ⟨?_, ?_⟩ <;> dsimp only <;> omega)
theorem pb_fits (h : Int) (ρ : Nat → Int) : 0 ≤ (pa_fits h ρ).2 ∧ (pa_fits h ρ).2 ≤ 6 := by
  unfold pa_fits
  (repeat' split) <;> (refine ⟨?_, ?_⟩ <;> dsimp only <;> omega)
theorem pb_could (h : Int) (ρ : Nat → Int) : 0 ≤ (pa_could h ρ).2 ∧ (pa_could h ρ).2 ≤ 6 := by
  unfold pa_could
  (repeat' split) <;> (refine ⟨?_, ?_⟩ <;> dsimp only <;> omega)
theorem pb_surely (h : Int) (ρ : Nat → Int) : 0 ≤ (pa_surely h ρ).2 ∧ (pa_surely h ρ).2 ≤ 6 := by
  unfold pa_surely
  (repeat' split) <;> (refine ⟨?_, ?_⟩ <;> dsimp only <;> omega)
theorem pb_ask (h : Int) (ρ : Nat → Int) : 0 ≤ (pa_ask h ρ).2 ∧ (pa_ask h ρ).2 ≤ 6 := by
  unfold pa_ask
  (repeat' split) <;> (refine ⟨?_, ?_⟩ <;> dsimp only <;> omega)
theorem pb_askLeaves (h : Int) (ρ : Nat → Int) : 0 ≤ (pa_askLeaves h ρ).2 ∧ (pa_askLeaves h ρ).2 ≤ 6 := by
  unfold pa_askLeaves
  (repeat' split) <;> (refine ⟨?_, ?_⟩ <;> dsimp only <;> omega)
theorem pb_judge (h : Int) (ρ : Nat → Int) : 0 ≤ (pa_judge h ρ).2 ∧ (pa_judge h ρ).2 ≤ 6 := by
  unfold pa_judge
  (repeat' split) <;> (refine ⟨?_, ?_⟩ <;> dsimp only <;> omega)
theorem pb_together (h : Int) (ρ : Nat → Int) (v : Int) : 0 ≤ (pa_together h ρ v).2 ∧ (pa_together h ρ v).2 ≤ 6 := by
  unfold pa_together
  (repeat' split) <;> (refine ⟨?_, ?_⟩ <;> dsimp only <;> omega)
theorem pb_clash (h : Int) (ρ : Nat → Int) : 0 ≤ (pa_clash h ρ).2 ∧ (pa_clash h ρ).2 ≤ 6 := by
  unfold pa_clash
  (repeat' split) <;> (refine ⟨?_, ?_⟩ <;> dsimp only <;> omega)
/-- the cells when all is made -/
def zM0 : ZM := znew (zk_X12_124 (znew (zk_X11_0 (znew (fun _ _ => 0) 0 (.inl 11))) 124 (.inl 12))) 138 (.inr (2, 1))
theorem zM0_125 : zM0 125 = fun _ => 0 := rfl
theorem zM0_127 : zM0 127 = fun _ => 0 := rfl
theorem zM0_129 : zM0 129 = fun _ => 0 := rfl
theorem zM0_f : zM0 0 1 = 0 ∧ zM0 0 2 = 0 ∧ zM0 0 3 = 0 ∧ zM0 0 5 = 2 ∧ zM0 0 6 = 25 ∧ zM0 2 0 = 0 ∧ zM0 2 1 = 0 ∧ zM0 2 2 = 0 ∧ zM0 3 0 = 0 ∧ zM0 8 0 = 0 ∧ zM0 13 0 = 0 ∧ zM0 13 1 = 0 ∧ zM0 19 0 = 0 ∧ zM0 19 4 = 0 := by decide +kernel
theorem zM0_g : zM0 49 0 = 0 ∧ zM0 49 1 = 0 ∧ zM0 49 2 = 0 ∧ zM0 49 3 = 0 ∧ (∀ s, s < 7 → zM0 50 s = 0) ∧ zM0 52 1 = 0 ∧ zM0 52 2 = 0 ∧ zM0 52 4 = 0 ∧ zM0 112 0 = 0 ∧ zM0 115 0 = 0 ∧ zM0 116 0 = 0 ∧ zM0 117 0 = 0 ∧ zM0 118 0 = 0 ∧ zM0 119 0 = 0 ∧ zM0 121 0 = 0 := by decide +kernel
theorem zM0_h : zM0 124 2 = 0 ∧ zM0 124 9 = 0 ∧ zM0 124 10 = -1 ∧ zM0 124 11 = 0 ∧ zM0 124 14 = 0 ∧ zM0 124 20 = 0 ∧ zM0 124 21 = 0 := by decide +kernel
theorem zM0_wc : zWc zM0 := by
  unfold zWc
  decide +kernel
theorem zM0_wm : zWm zM0 := by
  unfold zWm
  decide +kernel
theorem wfT0 : wfT (fun _ => 0) (fun _ => 0) := by
  refine ⟨fun _ _ => Int.le_refl 0, fun s _ => ⟨by show (0 : Int) ≤ 40 * 0; decide, Int.le_refl 0, fun _ => ⟨rfl, rfl⟩⟩, by decide, by decide, by decide, by decide, fun a ha => ?_⟩
  exfalso
  have : (a : Int) < 0 := ha
  omega
theorem Inv.zero : Inv zM0 := by
  obtain ⟨f1, f2, f3, f4, f5, f6, f7, f8, f9, f10, f11, f12, f13, f14⟩ := zM0_f
  obtain ⟨g1, g2, g3, g4, g5, g6, g7, g8, g9, g10, g11, g12, g13, g14, g15⟩ := zM0_g
  obtain ⟨h1, h2, h3, h4, h5, h6, h7⟩ := zM0_h
  refine ⟨?_, zM0_wm, ?_⟩
  · unfold WF
    rw [zM0_125, zM0_127, zM0_129, h1, h2, h3, h4, h5, h6, h7]
    exact ⟨⟨by decide, by decide⟩, fun i _ => ⟨Int.le_refl 0, by show (0 : Int) < 256; decide⟩, ⟨by decide, by decide⟩, ⟨by decide, by decide⟩, ⟨by decide, by decide⟩, Or.inl rfl, PI.zero.1, fun _ i _ => rfl, fun h => absurd h (by decide), wfT0, ⟨by decide, by decide⟩, fun j hj => absurd hj (by omega), ⟨by decide, by decide⟩, fun j hj => absurd hj (by omega), fun _ => ⟨fun _ _ => rfl, rfl, rfl⟩⟩
  · unfold IC
    rw [zM0_125, zM0_127, zM0_129, h1, h2, h3, h4, h5, h6, h7]
    refine ⟨zM0_wc, ⟨2, 25, Or.inl ⟨rfl, rfl⟩, f4, f5, ⟨f6, f7, f8, f9, f10, f11, f12, f13, f14⟩, fun s hs => ?_, fun s hs => ?_, fun s hs => ?_, fun s hs => ?_, fun s hs => ?_⟩, ⟨f1, fun i hi => absurd hi (by omega), f2, f3, fun h => absurd h (by decide)⟩, ⟨g1, g2, g3, g4, g5, fun h => absurd h (by decide)⟩, ⟨g7, g8, 0, by decide, g6, fun j hj => absurd hj (by omega), fun j hj => absurd hj (by omega)⟩, Or.inl g9, ⟨⟨g11, g12, g13, g14⟩, Or.inl g10⟩, Or.inl g15⟩
    all_goals
      exfalso
      have : (s : Int) < 0 := hs
      omega
