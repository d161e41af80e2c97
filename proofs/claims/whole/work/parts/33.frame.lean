/-! what a call leaves as it was -/
theorem ICc.congr {ρ : Nat → Int} {h : Int} {c : Nat} {M M' : ZM} (hI : ICc ρ h c M) (hM : ∀ a, c ≤ a → a ≤ c + 22 → M' a = M a) : ICc ρ h c M' := by
  unfold ICc at hI ⊢
  rw [hM c (by omega) (by omega), hM (c + 1) (by omega) (by omega), hM (c + 3) (by omega) (by omega), hM (c + 4) (by omega) (by omega), hM (c + 5) (by omega) (by omega), hM (c + 6) (by omega) (by omega), hM (c + 8) (by omega) (by omega), hM (c + 9) (by omega) (by omega), hM (c + 10) (by omega) (by omega), hM (c + 11) (by omega) (by omega), hM (c + 13) (by omega) (by omega), hM (c + 14) (by omega) (by omega), hM (c + 16) (by omega) (by omega), hM (c + 17) (by omega) (by omega), hM (c + 18) (by omega) (by omega), hM (c + 19) (by omega) (by omega), hM (c + 20) (by omega) (by omega), hM (c + 21) (by omega) (by omega), hM (c + 22) (by omega) (by omega)]
  exact hI
theorem ICn.congr {τ : Nat → Int} {h : Int} {e : Nat} {M M' : ZM} (hI : ICn τ h e M) (h0 : M' e = M e) (h1 : M' (e + 1) = M (e + 1)) (h2 : M' (e + 2) = M (e + 2)) : ICn τ h e M' := by
  unfold ICn at hI ⊢
  rw [h0, h1, h2]
  exact hI
theorem ICt.congr {ρ : Nat → Int} {M M' : ZM} (hI : ICt ρ M) (h0 : M' 112 = M 112) (h1 : M' 113 = M 113) (h2 : M' 114 = M 114) : ICt ρ M' := by
  unfold ICt at hI ⊢
  rw [h0, h1, h2]
  exact hI
theorem ICs.congr {ρ : Nat → Int} {M M' : ZM} (hI : ICs ρ M) (h0 : M' 116 = M 116) (h1 : M' 117 = M 117) (h2 : M' 118 = M 118) (h3 : M' 119 = M 119) (h4 : M' 120 = M 120) : ICs ρ M' := by
  unfold ICs at hI ⊢
  rw [h0, h1, h2, h3, h4]
  exact hI
theorem ICf.congr {ρ : Nat → Int} {M M' : ZM} (hI : ICf ρ M) (h0 : M' 121 = M 121) : ICf ρ M' := by
  unfold ICf at hI ⊢
  rw [h0]
  exact hI
/-- the cells of two tables agree where they are seen -/
def Obs (s s' : ZM) : Prop := s' 125 = s 125 ∧ s' 127 = s 127 ∧ s' 129 = s 129 ∧ s' 130 = s 130 ∧ s' 131 = s 131 ∧ s' 124 2 = s 124 2 ∧ s' 124 9 = s 124 9 ∧ s' 124 10 = s 124 10 ∧ s' 124 11 = s 124 11 ∧ s' 124 14 = s 124 14 ∧ s' 124 20 = s 124 20 ∧ s' 124 21 = s 124 21
theorem Obs.rfl {s : ZM} : Obs s s := by
  unfold Obs
  simp
theorem Obs.of {s s' : ZM} (h : ∀ k, 124 ≤ k → s' k = s k) : Obs s s' := by
  unfold Obs
  rw [h 124 (by decide), h 125 (by decide), h 127 (by decide), h 129 (by decide), h 130 (by decide), h 131 (by decide)]
  simp
theorem WF.obs {s s' : ZM} (h : WF s) (o : Obs s s') : WF s' := by
  obtain ⟨o1, o2, o3, o4, o5, o6, o7, o8, o9, o10, o11, o12⟩ := o
  unfold WF at h ⊢
  rw [o1, o2, o3, o4, o5, o6, o7, o8, o9, o10, o11, o12]
  exact h
theorem IC.obs {s s' M : ZM} (h : IC s M) (o : Obs s s') : IC s' M := by
  obtain ⟨o1, o2, o3, o4, o5, o6, o7, o8, o9, o10, o11, o12⟩ := o
  unfold IC at h ⊢
  rw [o1, o2, o3, o4, o5, o6, o7, o8, o9, o10, o11, o12]
  exact h
/-- an answer and nothing else: the class's own TROUBLE -/
theorem IC.upd {s s' M M' : ZM} (h : IC s M) (hF : WF s) (o : Obs s (zset s' 124 11 (s 124 11))) (hM : ∀ a, a ≠ 0 → a < 124 → M' a = M a) (h0 : ∀ k, k ≠ 2 → M' 0 k = M 0 k) (h2 : M' 0 2 = s' 124 11) (h4 : s' 124 11 ≠ 4) : IC s' M' := by
  obtain ⟨o1, o2, o3, o4, o5, o6, o7, o8, o9, o10, o11, o12⟩ := o
  have o1 : s' 125 = s 125 := o1
  have o2 : s' 127 = s 127 := o2
  have o3 : s' 129 = s 129 := o3
  have o4 : s' 130 = s 130 := o4
  have o5 : s' 131 = s 131 := o5
  have o6 : s' 124 2 = s 124 2 := o6
  have o7 : s' 124 9 = s 124 9 := o7
  have o8 : s' 124 10 = s 124 10 := o8
  have o10 : s' 124 14 = s 124 14 := o10
  have o11 : s' 124 20 = s 124 20 := o11
  have o12 : s' 124 21 = s 124 21 := o12
  obtain ⟨i1, ⟨c, c', hcc, hc1, hc2, hc3⟩, ⟨j1, j2, j3, j4, j5⟩, i4, ⟨p1, p2, top, ht, p3, p4, p5⟩, i6, ⟨⟨q1, q2, q3, q4⟩, i7⟩, i8⟩ := h
  unfold IC
  rw [o1, o2, o3, o4, o5, o6, o7, o10, o11, o12]
  refine ⟨fun q hq => ?_, ⟨c, c', hcc, ?_, ?_, hc3.congr (fun a h1 h2 => hM a (by omega) (by omega))⟩, ⟨?_, fun i hi => ?_, h2, ?_, fun h9 => absurd h9 h4⟩, ?_, ⟨?_, ?_, top, ht, ?_, fun j hj => ?_, fun j hj => ?_⟩, ?_, ⟨⟨?_, ?_, ?_, ?_⟩, ?_⟩, ?_⟩
  · have hr : ∀ q ∈ zwC, q.1 < 124 ∧ (q.1 = 0 → q.2.1 ≠ 2) := by decide +kernel
    obtain ⟨g1, g2⟩ := hr q hq
    by_cases e : q.1 = 0
    · have hz := i1 q hq
      rw [e] at hz ⊢
      rw [h0 _ (g2 e)]
      exact hz
    · rw [hM _ e g1]
      exact i1 q hq
  · rw [h0 5 (by decide)]; exact hc1
  · rw [h0 6 (by decide)]; exact hc2
  · rw [h0 1 (by decide)]; exact j1
  · rw [hM 1 (by decide) (by decide)]; exact j2 i hi
  · rw [h0 3 (by decide)]; exact j4
  · exact i4.congr (hM _ (by decide) (by decide)) (hM _ (by decide) (by decide)) (hM _ (by decide) (by decide))
  · rw [hM 52 (by decide) (by decide)]; exact p1
  · rw [hM 52 (by decide) (by decide)]; exact p2
  · rw [hM 52 (by decide) (by decide)]; exact p3
  · have hm : (top + 16 - (s 124 20).toNat + j) % 16 < 16 := Nat.mod_lt _ (by decide)
    exact (p4 j hj).congr (hM _ (by omega) (by omega)) (hM _ (by omega) (by omega)) (hM _ (by omega) (by omega))
  · have hj3 : s 124 21 ≤ 3 := hF.2.2.2.2.2.2.2.2.2.2.2.2.1.2
    exact (p5 j hj).congr (hM _ (by omega) (by omega)) (hM _ (by omega) (by omega)) (hM _ (by omega) (by omega))
  · rcases i6 with g | ⟨g1, g2⟩
    · exact Or.inl (by rw [hM 112 (by decide) (by decide)]; exact g)
    · exact Or.inr ⟨by rw [hM 112 (by decide) (by decide)]; exact g1, g2.congr (hM _ (by decide) (by decide)) (hM _ (by decide) (by decide)) (hM _ (by decide) (by decide))⟩
  · rw [hM 116 (by decide) (by decide)]; exact q1
  · rw [hM 117 (by decide) (by decide)]; exact q2
  · rw [hM 118 (by decide) (by decide)]; exact q3
  · rw [hM 119 (by decide) (by decide)]; exact q4
  · rcases i7 with g | ⟨g1, g2⟩
    · exact Or.inl (by rw [hM 115 (by decide) (by decide)]; exact g)
    · exact Or.inr ⟨by rw [hM 115 (by decide) (by decide)]; exact g1, g2.congr (hM _ (by decide) (by decide)) (hM _ (by decide) (by decide)) (hM _ (by decide) (by decide)) (hM _ (by decide) (by decide)) (hM _ (by decide) (by decide))⟩
  · rcases i8 with g | ⟨g1, g2⟩
    · exact Or.inl (by rw [hM 121 (by decide) (by decide)]; exact g)
    · exact Or.inr ⟨by rw [hM 121 (by decide) (by decide)]; exact g1, g2.congr (hM _ (by decide) (by decide))⟩
theorem IC.tr {s M : ZM} (h : IC s M) (hF : WF s) {v : Int} (hv : v ≠ 4) : IC (zset s 124 11 v) (zset M 0 2 v) := by
  refine h.upd hF ?_ (fun a h1 h2 => zset_ne M h1) (fun k hk => ?_) rfl hv
  · exact ⟨rfl, rfl, rfl, rfl, rfl, rfl, rfl, rfl, rfl, rfl, rfl, rfl⟩
  · unfold zset
    rw [if_pos rfl, if_neg hk]
def ICp (s M : ZM) : Prop := M 52 2 = s 124 20 ∧ M 52 4 = s 124 21 ∧ ∃ top : Nat, top < 16 ∧ M 52 1 = (top : Int) ∧ (∀ j : Nat, (j : Int) < s 124 20 → ICn (fun i => s 130 (18 * j + i)) 1 (55 + 3 * ((top + 16 - (s 124 20).toNat + j) % 16)) M) ∧ (∀ j : Nat, (j : Int) < s 124 21 → ICn (fun i => s 131 (18 * j + i)) 1 (103 + 3 * j) M)
/-- the parts of what holds put together anew: the county is as it was -/
theorem IC.gen {s s' M M' : ZM} (h : IC s M) (hw : zWc M') (e125 : s' 125 = s 125) (e127 : s' 127 = s 127) (e14 : s' 124 14 = s 124 14) (e2 : s' 124 2 = s 124 2) (e9 : s' 124 9 = s 124 9) (hc : ∀ a, 1 ≤ a → a ≤ 47 → M' a = M a) (h0 : ∀ k, k ≠ 2 → M' 0 k = M 0 k) (h2 : M' 0 2 = s' 124 11) (h4 : s' 124 11 = 4 → s 124 11 = 4 ∧ s' 124 10 = s 124 10) (hn : ICn (s' 129) (s' 124 14) 49 M') (hp : ICp s' M') (ht : M' 112 0 = 0 ∨ M' 112 0 = 1 ∧ ICt (s' 127) M') (hz : M' 116 0 = 0 ∧ M' 117 0 = 0 ∧ M' 118 0 = 0 ∧ M' 119 0 = 0) (hs : M' 115 0 = 0 ∨ M' 115 0 = 1 ∧ ICs (s' 127) M') (hf : M' 121 0 = 0 ∨ M' 121 0 = 1 ∧ ICf (s' 127) M') : IC s' M' := by
  obtain ⟨i1, ⟨c, c', hcc, hc1, hc2, hc3⟩, ⟨j1, j2, j3, j4, j5⟩, -⟩ := h
  refine ⟨hw, ⟨c, c', hcc, ?_, ?_, ?_⟩, ⟨?_, fun i hi => ?_, h2, ?_, fun h9 => ?_⟩, hn, hp, ht, ⟨hz, hs⟩, hf⟩
  · rw [h0 5 (by decide)]; exact hc1
  · rw [h0 6 (by decide)]; exact hc2
  · rw [e127, e14]
    exact hc3.congr (fun a h1 h2 => hc a (by omega) (by omega))
  · rw [h0 1 (by decide), e2]; exact j1
  · rw [hc 1 (by decide) (by decide), e125]
    rw [e2] at hi
    exact j2 i hi
  · rw [h0 3 (by decide), e9]; exact j4
  · obtain ⟨g1, g2⟩ := h4 h9
    rw [h0 4 (by decide), g2]
    exact j5 g1
/-- a query's end: the class's, the model's -/
def CQ (M : ZM) (p : Int × Int) : Int → ZM → Prop := fun a M' => a = p.1 ∧ IC (zset M 124 11 p.2) M' ∧ ∀ k, 124 ≤ k → M' k = M k
def MQq (M : ZM) (p : Int × Int) : Int → ZM → Prop := fun a M' => a = p.1 ∧ (∀ k, k < 124 → M' k = M k) ∧ zWm M' ∧ Obs (zset M 124 11 p.2) M'
theorem CQ.of {M M1 : ZM} {p : Int × Int} {a v : Int} (hI : IC M M1) (hF : WF M) (hk : ∀ k, 124 ≤ k → M1 k = M k) (ha : a = p.1) (hv : v = p.2) (h4 : v ≠ 4) : CQ M p a (zset M1 0 2 v) := by
  subst hv
  exact ⟨ha, hI.tr hF h4, fun k hk' => (zset_ne M1 (by omega)).trans (hk k hk')⟩
/-- the model's cells that nobody sees -/
def q_hid (c k : Nat) : Bool := decide (c = 126 ∨ c = 128 ∨ (132 ≤ c ∧ c ≤ 137)) || (decide (c = 124) && !([2, 9, 10, 11, 14, 20, 21].contains k) && !(zwM.any (fun q => q.1 == 124 && q.2.1 == k)))
theorem zWm.hid {M M' : ZM} (h : zWm M) (hM : ∀ c k, q_hid c k = false → c ≠ 124 ∨ k ≠ 11 → 124 ≤ c → M' c k = M c k) : zWm M' := by
  intro q hq
  have hr : ∀ q ∈ zwM, q_hid q.1 q.2.1 = false ∧ (q.1 ≠ 124 ∨ q.2.1 ≠ 11) ∧ 124 ≤ q.1 := by decide +kernel
  obtain ⟨g1, g2, g3⟩ := hr q hq
  rw [hM _ _ g1 g2 g3]
  exact h q hq
/-- the model has changed nothing that is seen but its TROUBLE -/
def Hid (M M' : ZM) : Prop := (∀ c k, c < 124 → M' c k = M c k) ∧ ∀ c k, q_hid c k = false → (c ≠ 124 ∨ k ≠ 11) → 124 ≤ c → M' c k = M c k
theorem Hid.rfl {M : ZM} : Hid M M := ⟨fun _ _ _ => Eq.refl _, fun _ _ _ _ _ => Eq.refl _⟩
theorem Hid.trans {M M1 M2 : ZM} (h1 : Hid M M1) (h2 : Hid M1 M2) : Hid M M2 := ⟨fun c k h => (h2.1 c k h).trans (h1.1 c k h), fun c k a b d => (h2.2 c k a b d).trans (h1.2 c k a b d)⟩
theorem Hid.set {M M1 : ZM} {c k : Nat} {v : Int} (h : Hid M M1) (hc : q_hid c k = true ∨ (c = 124 ∧ k = 11)) (hc2 : 124 ≤ c) : Hid M (zset M1 c k v) := by
  refine ⟨fun a b ha => ?_, fun a b g1 g2 g3 => ?_⟩
  · rw [zset_ne M1 (by omega)]
    exact h.1 a b ha
  · rw [← h.2 a b g1 g2 g3]
    unfold zset
    by_cases e1 : a = c
    · by_cases e2 : b = k
      · exfalso
        subst e1
        subst e2
        rcases hc with hc | hc
        · rw [g1] at hc; cases hc
        · omega
      · rw [if_pos e1, if_neg e2]
    · rw [if_neg e1]
theorem Hid.wm {M M' : ZM} (h : Hid M M') (hW : zWm M) : zWm M' := hW.hid h.2
theorem MQq.of {M M1 : ZM} {p : Int × Int} {a : Int} (h : Hid M M1) (hW : zWm M) (ha : a = p.1) (hv : M1 124 11 = p.2) : MQq M p a M1 := by
  have hx : ∀ c k, q_hid c k = false → (c ≠ 124 ∨ k ≠ 11) → 124 ≤ c → M1 c k = M c k := h.2
  refine ⟨ha, fun k hk => funext fun b => h.1 k b hk, h.wm hW, ?_⟩
  refine ⟨funext fun b => ?_, funext fun b => ?_, funext fun b => ?_, funext fun b => ?_, funext fun b => ?_, ?_, ?_, ?_, ?_, ?_, ?_, ?_⟩
  · exact hx 125 b (by simp [q_hid]) (by omega) (by omega)
  · exact hx 127 b (by simp [q_hid]) (by omega) (by omega)
  · exact hx 129 b (by simp [q_hid]) (by omega) (by omega)
  · exact hx 130 b (by simp [q_hid]) (by omega) (by omega)
  · exact hx 131 b (by simp [q_hid]) (by omega) (by omega)
  · exact hx 124 2 (by decide +kernel) (by omega) (by omega)
  · exact hx 124 9 (by decide +kernel) (by omega) (by omega)
  · exact hx 124 10 (by decide +kernel) (by omega) (by omega)
  · exact hv
  · exact hx 124 14 (by decide +kernel) (by omega) (by omega)
  · exact hx 124 20 (by decide +kernel) (by omega) (by omega)
  · exact hx 124 21 (by decide +kernel) (by omega) (by omega)
