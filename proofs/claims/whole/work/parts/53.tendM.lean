/-! TENDING, the model's -/
def q_mx (p : Nat → Bool) (g : Nat → Nat) : Nat → Option Nat
  | 0 => none
  | n + 1 => if p n then (match q_mx p g n with
      | none => some (g n)
      | some b => some (if b < g n then g n else b)) else q_mx p g n
theorem q_mx_take {p : Nat → Bool} {g : Nat → Nat} {i : Nat} (h : p i = true) : q_mx p g (i + 1) = some (match q_mx p g i with
    | none => g i
    | some b => if b < g i then g i else b) := by
  show (if p i then (match q_mx p g i with
      | none => some (g i)
      | some b => some (if b < g i then g i else b)) else q_mx p g i) = _
  rw [if_pos h]
  cases q_mx p g i with
  | none => rfl
  | some b => rfl
theorem q_mx_skip {p : Nat → Bool} {g : Nat → Nat} {i : Nat} (h : ¬ p i = true) : q_mx p g (i + 1) = q_mx p g i := by
  show (if p i then (match q_mx p g i with
      | none => some (g i)
      | some b => some (if b < g i then g i else b)) else q_mx p g i) = _
  rw [if_neg h]
theorem q_mx_none {p : Nat → Bool} {g : Nat → Nat} {n : Nat} (h : q_mx p g n = none) : ∀ v, v < n → p v = true → False := by
  induction n with
  | zero => intro v hv; omega
  | succ n ih =>
    intro v hv hp
    by_cases hn : p n = true
    · rw [q_mx_take hn] at h
      cases h
    · rw [q_mx_skip hn] at h
      by_cases e : v = n
      · subst e; exact hn hp
      · exact ih h v (by omega) hp
theorem q_mx_some {p : Nat → Bool} {g : Nat → Nat} {n b : Nat} (h : q_mx p g n = some b) : (∃ w, w < n ∧ p w = true ∧ g w = b) ∧ ∀ v, v < n → p v = true → g v ≤ b := by
  induction n generalizing b with
  | zero => cases h
  | succ n ih =>
    by_cases hn : p n = true
    · rw [q_mx_take hn] at h
      cases hq : q_mx p g n with
      | none =>
        rw [hq] at h
        have e : g n = b := Option.some.inj h
        refine ⟨⟨n, by omega, hn, e⟩, fun v hv hp => ?_⟩
        by_cases ev : v = n
        · subst ev; omega
        · exact (q_mx_none hq v (by omega) hp).elim
      | some b' =>
        rw [hq] at h
        have e : (if b' < g n then g n else b') = b := Option.some.inj h
        obtain ⟨⟨w, w1, w2, w3⟩, h2⟩ := ih hq
        by_cases hlt : b' < g n
        · rw [if_pos hlt] at e
          refine ⟨⟨n, by omega, hn, e⟩, fun v hv hp => ?_⟩
          by_cases ev : v = n
          · subst ev; omega
          · have := h2 v (by omega) hp; omega
        · rw [if_neg hlt] at e
          refine ⟨⟨w, by omega, w2, by omega⟩, fun v hv hp => ?_⟩
          by_cases ev : v = n
          · subst ev; omega
          · have := h2 v (by omega) hp; omega
    · rw [q_mx_skip hn] at h
      obtain ⟨⟨w, w1, w2, w3⟩, h2⟩ := ih h
      refine ⟨⟨w, by omega, w2, w3⟩, fun v hv hp => ?_⟩
      by_cases ev : v = n
      · subst ev; exact absurd hp hn
      · exact h2 v (by omega) hp
def LTs (n s : Nat) (L : Int) (p : Nat → Bool) (g : Nat → Nat) (tv : Nat → Int) (sub : Nat → Nat → Int) (sm : Nat) (T0 B0 : Nat → Int) (i : Nat) (most : Int) (B : Nat → Int) : Prop :=
  (q_mx p g i = none ∧ most = L ∧ ∀ x, x < 7 → B x = B0 x) ∨ ∃ b, q_mx p g i = some b ∧ (L < ((sm + b : Nat) : Int) → most = ((sm + b : Nat) : Int) ∧ (∀ x, x < s → B x = T0 x) ∧ ∃ w, w < i ∧ p w = true ∧ g w = b ∧ (∀ v, v < w → p v = true → g v < b) ∧ B s = tv w ∧ ∀ x, s < x → x < n → B x = sub w x) ∧ (¬ L < ((sm + b : Nat) : Int) → most = L ∧ ∀ x, x < 7 → B x = B0 x)
theorem LTs.skip {n s : Nat} {L : Int} {p : Nat → Bool} {g : Nat → Nat} {tv : Nat → Int} {sub : Nat → Nat → Int} {sm : Nat} {T0 B0 : Nat → Int} {i : Nat} {most : Int} {B : Nat → Int} (h : LTs n s L p g tv sub sm T0 B0 i most B) (hp : ¬ p i = true) : LTs n s L p g tv sub sm T0 B0 (i + 1) most B := by
  unfold LTs at h ⊢
  rw [q_mx_skip hp]
  rcases h with h | ⟨b, h1, h2, h3⟩
  · exact Or.inl h
  · refine Or.inr ⟨b, h1, fun hl => ?_, h3⟩
    obtain ⟨a1, a2, w, a3, a4⟩ := h2 hl
    exact ⟨a1, a2, w, by omega, a4⟩
theorem LTs.take {n s : Nat} {L : Int} {p : Nat → Bool} {g : Nat → Nat} {tv : Nat → Int} {sub : Nat → Nat → Int} {sm : Nat} {T0 B0 : Nat → Int} {i : Nat} {most most' : Int} {B B' : Nat → Int} (hs : s < 7) (hn : n ≤ 7) (h : LTs n s L p g tv sub sm T0 B0 i most B) (hp : p i = true)
    (h1 : most < ((sm + g i : Nat) : Int) → most' = ((sm + g i : Nat) : Int) ∧ (∀ x, x < s → B' x = T0 x) ∧ B' s = tv i ∧ ∀ x, s < x → x < n → B' x = sub i x)
    (h2 : ¬ most < ((sm + g i : Nat) : Int) → most' = most ∧ ∀ x, x < 7 → B' x = B x) : LTs n s L p g tv sub sm T0 B0 (i + 1) most' B' := by
  unfold LTs at h ⊢
  rw [q_mx_take hp]
  rcases h with ⟨a1, a2, a3⟩ | ⟨b, b1, b2, b3⟩
  · rw [a1]
    refine Or.inr ⟨g i, rfl, fun hl => ?_, fun hl => ?_⟩
    · obtain ⟨c1, c2, c3, c4⟩ := h1 (by omega)
      exact ⟨c1, c2, i, by omega, hp, rfl, fun v hv hpv => (q_mx_none a1 v hv hpv).elim, c3, c4⟩
    · obtain ⟨c1, c2⟩ := h2 (by omega)
      exact ⟨by omega, fun x hx => (c2 x hx).trans (a3 x hx)⟩
  · rw [b1]
    obtain ⟨-, bm⟩ := q_mx_some b1
    by_cases hlt : b < g i
    · refine Or.inr ⟨g i, by show some (if b < g i then g i else b) = _; rw [if_pos hlt], fun hl => ?_, fun hl => ?_⟩
      · by_cases hL : L < ((sm + b : Nat) : Int)
        · obtain ⟨d1, -⟩ := b2 hL
          obtain ⟨c1, c2, c3, c4⟩ := h1 (by omega)
          exact ⟨c1, c2, i, by omega, hp, rfl, fun v hv hpv => Nat.lt_of_le_of_lt (bm v hv hpv) hlt, c3, c4⟩
        · obtain ⟨d1, -⟩ := b3 hL
          obtain ⟨c1, c2, c3, c4⟩ := h1 (by omega)
          exact ⟨c1, c2, i, by omega, hp, rfl, fun v hv hpv => Nat.lt_of_le_of_lt (bm v hv hpv) hlt, c3, c4⟩
      · obtain ⟨d1, d2⟩ := b3 (by omega)
        obtain ⟨c1, c2⟩ := h2 (by omega)
        exact ⟨by omega, fun x hx => (c2 x hx).trans (d2 x hx)⟩
    · refine Or.inr ⟨b, by show some (if b < g i then g i else b) = _; rw [if_neg hlt], fun hl => ?_, fun hl => ?_⟩
      · obtain ⟨d1, d2, w, d3, d4, d5, d6, d7, d8⟩ := b2 hl
        obtain ⟨c1, c2⟩ := h2 (by omega)
        exact ⟨by omega, fun x hx => (c2 x (by omega)).trans (d2 x hx), w, by omega, d4, d5, d6, (c2 s hs).trans d7, fun x g1 g2 => (c2 x (by omega)).trans (d8 x g1 g2)⟩
      · obtain ⟨d1, d2⟩ := b3 hl
        obtain ⟨c1, c2⟩ := h2 (by omega)
        exact ⟨by omega, fun x hx => (c2 x hx).trans (d2 x hx)⟩
def q_tp (r : Nat → Nat) (m : Nat) (hd : Nat → Nat) : Nat → Bool := fun a => if a < r 3 then decide (0 < hd a) && q_reach r a (r 2 - (m + 1)) else true
def q_tg (r : Nat → Nat) (m : Nat) (hd : Nat → Nat) : Nat → Nat := fun a => if a < r 3 then q_wt r (r 2 - (m + 1)) + q_bt r m (q_hd1 hd a) else q_bt r m hd
def q_tt (r : Nat → Nat) : Nat → Int := fun a => if a < r 3 then (a : Int) + 1 else 0
def q_tu (r : Nat → Nat) (m : Nat) (hd : Nat → Nat) : Nat → Nat → Int := fun a x => if a < r 3 then (q_tends r m (q_hd1 hd a) x : Int) else (q_tends r m hd x : Int)
/-- all are tried: the best of them, and the first that is so -/
theorem LTs.done {r : Nat → Nat} {m s sm : Nat} {hd : Nat → Nat} {L most : Int} {T0 B0 B : Nat → Int} (hs : s + (m + 1) = r 2) (h : LTs (r 2) s L (q_tp r m hd) (q_tg r m hd) (q_tt r) (q_tu r m hd) sm T0 B0 (r 3 + 1) most B) :
    (L < ((sm + q_bt r (m + 1) hd : Nat) : Int) → most = ((sm + q_bt r (m + 1) hd : Nat) : Int) ∧ (∀ x, x < s → B x = T0 x) ∧ ∀ x, s ≤ x → x < r 2 → B x = (q_tends r (m + 1) hd x : Int)) ∧ (¬ L < ((sm + q_bt r (m + 1) hd : Nat) : Int) → most = L ∧ ∀ x, x < 7 → B x = B0 x) := by
  have hpn : q_tp r m hd (r 3) = true := by unfold q_tp; rw [if_neg (by omega)]
  have hgn : q_tg r m hd (r 3) = q_bt r m hd := by unfold q_tg; rw [if_neg (by omega)]
  rcases h with ⟨h1, -⟩ | ⟨b, h1, h2, h3⟩
  · exact (q_mx_none h1 (r 3) (by omega) hpn).elim
  obtain ⟨⟨w, w1, w2, w3⟩, hb⟩ := q_mx_some h1
  have heq : q_bt r (m + 1) hd = b := by
    rw [q_bt_succ]
    apply Nat.le_antisymm
    · refine q_max_le ?_ (fun a ha hp => ?_)
      · have := hb (r 3) (by omega) hpn
        rw [hgn] at this
        exact this
      · have := hb a (by omega) (by unfold q_tp; rw [if_pos ha]; exact hp)
        unfold q_tg at this
        rw [if_pos ha] at this
        exact this
    · rw [← w3]
      by_cases hw : w < r 3
      · unfold q_tp at w2
        rw [if_pos hw] at w2
        unfold q_tg
        rw [if_pos hw]
        exact q_max_ge (p := fun a => decide (0 < hd a) && q_reach r a (r 2 - (m + 1))) (g := fun a => q_wt r (r 2 - (m + 1)) + q_bt r m (q_hd1 hd a)) hw w2
      · unfold q_tg
        rw [if_neg hw]
        exact q_max_base
  refine ⟨fun hl => ?_, fun hl => ?_⟩
  · rw [heq] at hl ⊢
    obtain ⟨a1, a2, w, a3, a4, a5, a6, a7, a8⟩ := h2 hl
    refine ⟨a1, a2, fun x hx1 hx2 => ?_⟩
    have hsr : s = r 2 - (m + 1) := by omega
    by_cases hw : w < r 3
    · have hwho : q_who r m hd = some w := by
        rw [q_who_eq]
        refine q_first_is hw ?_ (fun v hv => ?_)
        · unfold q_tp at a4
          rw [if_pos hw] at a4
          unfold q_tg at a5
          rw [if_pos hw] at a5
          unfold q_whop
          rw [a4, a5, heq]
          simp
        · unfold q_whop
          cases hc : (decide (0 < hd v) && q_reach r v (r 2 - (m + 1))) with
          | false => rfl
          | true =>
            have := a6 v hv (by unfold q_tp; rw [if_pos (by omega)]; exact hc)
            unfold q_tg at this
            rw [if_pos (by omega)] at this
            rw [heq, decide_eq_false (by omega)]
            rfl
      rw [q_tends_succ, hwho]
      by_cases e : x = s
      · subst e
        rw [if_pos hsr, a7]
        unfold q_tt
        rw [if_pos hw]
        rfl
      · rw [if_neg (by omega), a8 x (by omega) hx2]
        unfold q_tu
        rw [if_pos hw]
        rfl
    · have hwe : w = r 3 := by omega
      have hwho : q_who r m hd = none := by
        rw [q_who_eq]
        cases hq : q_first (q_whop r m hd) (r 3) with
        | none => rfl
        | some v =>
          obtain ⟨v1, v2, -⟩ := q_first_some hq
          exfalso
          unfold q_whop at v2
          rw [Bool.and_eq_true, decide_eq_true_eq] at v2
          have := a6 v (by omega) (by unfold q_tp; rw [if_pos v1]; exact v2.1)
          unfold q_tg at this
          rw [if_pos v1] at this
          omega
      rw [q_tends_succ, hwho]
      by_cases e : x = s
      · subst e
        rw [if_pos hsr, a7]
        unfold q_tt
        rw [if_neg hw]
        rfl
      · rw [if_neg (by omega), a8 x (by omega) hx2]
        unfold q_tu
        rw [if_neg hw]
        rfl
  · rw [heq] at hl
    exact h3 hl
/-- how a call for the sleepers from s on ends -/
def TTs (ρ : Nat → Int) (s m sm : Nat) (hd : Nat → Nat) (M M' : ZM) : Prop :=
  (∀ a, a ≠ 124 → a ≠ 132 → a ≠ 133 → M' a = M a) ∧ (∀ b, b ≠ 25 → M' 124 b = M 124 b) ∧ (∀ b, b < s → M' 132 b = M 132 b) ∧
  (M 124 25 < ((sm + q_bt (q_n ρ) m hd : Nat) : Int) → M' 124 25 = ((sm + q_bt (q_n ρ) m hd : Nat) : Int) ∧ (∀ x, x < s → M' 133 x = M 132 x) ∧ ∀ x, s ≤ x → x < q_n ρ 2 → M' 133 x = (q_tends (q_n ρ) m hd x : Int)) ∧
  (¬ M 124 25 < ((sm + q_bt (q_n ρ) m hd : Nat) : Int) → M' 124 25 = M 124 25 ∧ ∀ x, x < 7 → M' 133 x = M 133 x)
def LPt (ρ : Nat → Int) (s m sm : Nat) (hd : Nat → Nat) (M N : ZM) (i : Nat) : Prop :=
  (∀ a, a ≠ 124 → a ≠ 132 → a ≠ 133 → N a = M a) ∧ (∀ b, b ≠ 25 → N 124 b = M 124 b) ∧ (∀ b, b < s → N 132 b = M 132 b) ∧ LTs (q_n ρ 2) s (M 124 25) (q_tp (q_n ρ) m hd) (q_tg (q_n ρ) m hd) (q_tt (q_n ρ)) (q_tu (q_n ρ) m hd) sm (M 132) (M 133) i (N 124 25) (N 133)
theorem LPt.start {ρ : Nat → Int} {s m sm : Nat} {hd : Nat → Nat} {M : ZM} : LPt ρ s m sm hd M M 0 := ⟨fun _ _ _ _ => rfl, fun _ _ => rfl, fun _ _ => rfl, Or.inl ⟨rfl, rfl, fun _ _ => rfl⟩⟩
def TTok (l : Launch) (X : ZX) (ρ : Nat → Int) (m : Nat) : Prop := ∀ (M : ZM) (s sm : Nat) (hd : Nat → Nat), zWm M → (∀ i, i < 421 → M 127 i = ρ i) → s + m = q_n ρ 2 → sm + 40 * m ≤ 280 → (∀ a, a < q_n ρ 3 → M 134 a = (hd a : Int) ∧ hd a ≤ 5) → -1 ≤ M 124 25 → M 124 25 ≤ 1000 → zCv l X (m + 3) yX12_tryTending tX12_tryTending [zr 124, zi (s : Int), zi (sm : Int)] M (fun M' => TTs ρ s m sm hd M M')
theorem LPt.most {ρ : Nat → Int} {s m sm : Nat} {hd : Nat → Nat} {M N : ZM} {i : Nat} (hR : wfR ρ) (hm : m + 1 ≤ 7) (hsm : sm + 40 * (m + 1) ≤ 280) (h0 : -1 ≤ M 124 25) (h1 : M 124 25 ≤ 1000) (hi : i ≤ q_n ρ 3 + 1) (h : LPt ρ s m sm hd M N i) : -1 ≤ N 124 25 ∧ N 124 25 ≤ 1000 := by
  have e2 : ρ 2 = (q_n ρ 2 : Int) := hR.n (by decide)
  have b2 := hR.2.1.2.2.1
  rcases h.2.2.2 with ⟨-, a2, -⟩ | ⟨b, b1, b2', b3⟩
  · omega
  · obtain ⟨⟨w, w1, w2, w3⟩, -⟩ := q_mx_some b1
    have hg : q_tg (q_n ρ) m hd w ≤ 40 * (m + 1) := by
      unfold q_tg
      split
      · have := q_bt_le hR m (q_hd1 hd w)
        have := q_wt_le hR (s := q_n ρ 2 - (m + 1)) (by omega)
        omega
      · have := q_bt_le hR m hd
        omega
    by_cases hl : M 124 25 < ((sm + b : Nat) : Int)
    · have := (b2' hl).1
      omega
    · have := (b3 hl).1
      omega
theorem l_tryTending {l : Launch} {X : ZX} {M : ZM} {ρ : Nat → Int} (hR : wfR ρ) {m : Nat} (hrec : TTok l X ρ m) {s sm : Nat} {hd : Nat → Nat} (hW : zWm M) (hE : ∀ i, i < 421 → M 127 i = ρ i) (hs : s + (m + 1) = q_n ρ 2) (hsm : sm + 40 * (m + 1) ≤ 280) (hh : ∀ a, a < q_n ρ 3 → M 134 a = (hd a : Int) ∧ hd a ≤ 5) (h0 : -1 ≤ M 124 25) (h1 : M 124 25 ≤ 1000) : ∀ (j i : Nat), i + j = q_n ρ 3 → ∀ (N : ZM), LPt ρ s m sm hd M N i → zP l X (m + 1 + 3) tX12_tryTending 42 [some (zr 124), some (zi (s : Int)), some (zi (sm : Int)), some (zi (i : Int))] [] N (fun r M' => r = none ∧ TTs ρ s (m + 1) sm hd M M') := by
  have e2 : ρ 2 = (q_n ρ 2 : Int) := hR.n (by decide)
  have b2 := hR.2.1.2.2.1
  have e3 : ρ 3 = (q_n ρ 3 : Int) := hR.n (by decide)
  have b3 := hR.2.1.2.2.2.1
  have hse : s = q_n ρ 2 - (m + 1) := by omega
  intro j
  induction j with
  | zero =>
    intro i hi N hLP
    have hW9 : zWm N := hW.hid (fun a b g1 g2 g3 => by
      by_cases e : a = 124
      · subst e
        exact hLP.2.1 b (fun e => by subst e; revert g1; decide)
      · exact congrFun (hLP.1 a e (fun e => by subst e; revert g1; simp [q_hid]) (fun e => by subst e; revert g1; simp [q_hid])) b)
    have hE9 : ∀ i, i < 421 → N 127 i = ρ i := fun i hi => by rw [hLP.1 127 (by decide) (by decide) (by decide)]; exact hE i hi
    have hn25 := hLP.most hR (by omega) hsm h0 h1 (by omega)
    have hh9 : ∀ a, a < q_n ρ 3 → N 134 a = (hd a : Int) ∧ hd a ≤ 5 := fun a ha => by rw [hLP.1 134 (by decide) (by decide) (by decide)]; exact hh a ha
    refine p_iload_n 43 dX12_tryTending_42 rfl rfl ?_
    refine p_aload_n 44 dX12_tryTending_43 rfl rfl (by decide) ?_
    refine p_getR 124 47 dX12_tryTending_44 fX12_20 rfl (hW9 (124, 15, 127) (by decide)) ?_
    refine p_iconst 48 dX12_tryTending_47 ?_
    refine p_ialdn 127 49 (3) dX12_tryTending_48 rfl (by omega) (by omega) ?_
    rw [hE9 3 (by decide)]
    rw [Nat.add_zero] at hi
    subst hi
    refine p_icmp_ge 122 52 dX12_tryTending_49 (by omega) (by omega) (by omega) (by omega) (fun h49 => ?_) (fun h49 => absurd (by omega) (fun h9 : False => h9))
    refine p_aload_n 123 dX12_tryTending_122 rfl rfl (by decide) ?_
    refine p_getR 124 126 dX12_tryTending_123 fX12_35 rfl (hW9 (124, 22, 132) (by decide)) ?_
    refine p_iload_n 127 dX12_tryTending_126 rfl rfl ?_
    refine p_iconst 128 dX12_tryTending_127 ?_
    refine p_iastn 132 129 (s) dX12_tryTending_128 rfl (by omega) (by omega) ?_
    have hWr : zWm (zset N 132 s 0) := hW9.setc (by decide +kernel)
    have hEr : ∀ x, x < 421 → zset N 132 s 0 127 x = ρ x := fun x hx => by rw [zset_ne _ (by decide)]; exact hE9 x hx
    refine p_aload_n 130 dX12_tryTending_129 rfl rfl (by decide) ?_
    refine p_iload_n 131 dX12_tryTending_130 rfl rfl ?_
    refine p_iconst 132 dX12_tryTending_131 ?_
    refine p_iadd 133 dX12_tryTending_132 ?_
    refine p_iload_n 134 dX12_tryTending_133 rfl rfl ?_
    refine p_callV2v 124 137 dX12_tryTending_134 (hrec (zset N 132 s 0) (s + 1) sm hd hWr hEr (by omega) (by omega) (fun a ha => by rw [zset_ne _ (by decide)]; exact hh9 a ha) (by show -1 ≤ N 124 25; omega) (by show N 124 25 ≤ 1000; omega)) lk_X12_303 mX12_tryTending rfl rfl (by omega) (Nat.le_of_ble_eq_true rfl) ?_
    intro N9 hT9
    refine p_vret dX12_tryTending_137 rfl ?_
    obtain ⟨t1, t2, t3, t4, t5⟩ := hT9
    have hgn : q_tg (q_n ρ) m hd (q_n ρ 3) = q_bt (q_n ρ) m hd := by unfold q_tg; rw [if_neg (by omega)]
    have hL2 := hLP.2.2.2.take (i := q_n ρ 3) (most' := N9 124 25) (B' := N9 133) (by omega) (by omega) (by unfold q_tp; rw [if_neg (by omega)]) (fun hlt => by
        rw [hgn] at hlt ⊢
        obtain ⟨u1, u2, u3⟩ := t4 hlt
        refine ⟨u1, fun x hx => ?_, ?_, fun x g1 g2 => ?_⟩
        · rw [u2 x (by omega), zset_k (by omega)]
          exact hLP.2.2.1 x hx
        · rw [u2 s (by omega), zset_at]
          unfold q_tt
          rw [if_neg (by omega)]
        · rw [u3 x (by omega) g2]
          unfold q_tu
          rw [if_neg (by omega)]) (fun hlt => by
        rw [hgn] at hlt
        obtain ⟨u1, u2⟩ := t5 hlt
        exact ⟨u1, fun x hx => u2 x hx⟩)
    obtain ⟨v1, v2⟩ := hL2.done hs
    refine ⟨rfl, fun a g1 g2 g3 => by rw [t1 a g1 g2 g3, zset_ne _ g2]; exact hLP.1 a g1 g2 g3, fun b g1 => by rw [t2 b g1]; exact hLP.2.1 b g1, fun b hb => by rw [t3 b (by omega), zset_k (by omega)]; exact hLP.2.2.1 b hb, v1, v2⟩
  | succ j ih =>
    intro i hi N hLP
    have hW9 : zWm N := hW.hid (fun a b g1 g2 g3 => by
      by_cases e : a = 124
      · subst e
        exact hLP.2.1 b (fun e => by subst e; revert g1; decide)
      · exact congrFun (hLP.1 a e (fun e => by subst e; revert g1; simp [q_hid]) (fun e => by subst e; revert g1; simp [q_hid])) b)
    have hE9 : ∀ i, i < 421 → N 127 i = ρ i := fun i hi => by rw [hLP.1 127 (by decide) (by decide) (by decide)]; exact hE i hi
    have hn25 := hLP.most hR (by omega) hsm h0 h1 (by omega)
    have hh9 : ∀ a, a < q_n ρ 3 → N 134 a = (hd a : Int) ∧ hd a ≤ 5 := fun a ha => by rw [hLP.1 134 (by decide) (by decide) (by decide)]; exact hh a ha
    refine p_iload_n 43 dX12_tryTending_42 rfl rfl ?_
    refine p_aload_n 44 dX12_tryTending_43 rfl rfl (by decide) ?_
    refine p_getR 124 47 dX12_tryTending_44 fX12_20 rfl (hW9 (124, 15, 127) (by decide)) ?_
    refine p_iconst 48 dX12_tryTending_47 ?_
    refine p_ialdn 127 49 (3) dX12_tryTending_48 rfl (by omega) (by omega) ?_
    rw [hE9 3 (by decide)]
    refine p_icmp_ge 122 52 dX12_tryTending_49 (by omega) (by omega) (by omega) (by omega) (fun h49 => absurd (by omega) (fun h9 : False => h9)) (fun h49 => ?_)
    refine p_aload_n 53 dX12_tryTending_52 rfl rfl (by decide) ?_
    refine p_getR 124 56 dX12_tryTending_53 fX12_41 rfl (hW9 (124, 24, 134) (by decide)) ?_
    refine p_iload_n 57 dX12_tryTending_56 rfl rfl ?_
    refine p_ialdn 134 58 (i) dX12_tryTending_57 rfl (by omega) (by omega) ?_
    rw [(hh9 i (by omega)).1]
    refine p_if_eq 116 61 dX12_tryTending_58 (by omega) (by have := (hh9 i (by omega)).2; omega) (fun h58 => ?_) (fun h58 => ?_)
    · have hqn : ¬ q_tp (q_n ρ) m hd i = true := by
        unfold q_tp
        rw [if_pos (by omega), decide_eq_false (by omega)]
        simp
      skip
      refine p_iinc 119 dX12_tryTending_116 rfl rfl rfl ?_
      dsimp only [List.set]
      refine p_goto 42 dX12_tryTending_119 ?_
      first
        | exact ih (i + 1) (by omega) _ ⟨hLP.1, hLP.2.1, hLP.2.2.1, hLP.2.2.2.skip hqn⟩
        | (refine ih (i + 1) (by omega) _ ⟨fun a g1 g2 g3 => ?_, fun b g1 => ?_, fun b hb => ?_, hLP.2.2.2.take (by omega) (by omega) hqy (fun hlt => ?_) (fun hlt => ?_)⟩
           · by_cases e : a = 134
             · subst e
               funext b
               rw [← hLP.1 134 (by decide) (by decide) (by decide)]
               by_cases eb : b = i
               · subst eb
                 rw [zset_at, if_pos rfl, (hh9 b (by omega)).1]
                 omega
               · rw [zset_k eb, h134 b, if_neg eb]
             · rw [zset_ne _ e, t1 a g1 g2 g3, zset_ne _ g2, zset_ne _ e]
               exact hLP.1 a g1 g2 g3
           · rw [zset_ne _ (by decide), t2 b g1, zset_ne _ (by decide), zset_ne _ (by decide)]
             exact hLP.2.1 b g1
           · rw [zset_ne _ (by decide), t3 b (by omega), zset_k (by omega), zset_ne _ (by decide)]
             exact hLP.2.2.1 b hb
           · rw [hgi] at hlt ⊢
             rw [← Nat.add_assoc] at hlt ⊢
             obtain ⟨u1, u2, u3⟩ := t4 hlt
             refine ⟨by rw [zset_ne _ (by decide)]; exact u1, fun x hx => ?_, ?_, fun x g1 g2 => ?_⟩
             · rw [zset_ne _ (by decide), u2 x (by omega), zset_k (by omega), zset_ne _ (by decide)]
               exact hLP.2.2.1 x hx
             · rw [zset_ne _ (by decide), u2 s (by omega), zset_at]
               unfold q_tt
               rw [if_pos (by omega)]
             · rw [zset_ne _ (by decide), u3 x (by omega) g2]
               unfold q_tu
               rw [if_pos (by omega)]
           · rw [hgi] at hlt
             rw [← Nat.add_assoc] at hlt
             obtain ⟨u1, u2⟩ := t5 hlt
             exact ⟨by rw [zset_ne _ (by decide)]; exact u1, fun x hx => by rw [zset_ne _ (by decide)]; exact u2 x hx⟩)
    · have hd0 : 0 < hd i := by omega
      have hd5 := (hh9 i (by omega)).2
      refine p_aload_n 62 dX12_tryTending_61 rfl rfl (by decide) ?_
      refine p_iload_n 63 dX12_tryTending_62 rfl rfl ?_
      refine p_iload_n 64 dX12_tryTending_63 rfl rfl ?_
      refine p_callV2i 124 67 dX12_tryTending_64 (s_canReach hW9 hE9 hR (a := i) (s := s) (by omega) (by omega)) lk_X12_278 mX12_canReach rfl rfl (by omega) (Nat.le_of_ble_eq_true rfl) ?_
      rintro _ _ ⟨rfl, e9⟩
      have e9 := e9.symm
      subst e9
      refine p_if_ne 73 70 dX12_tryTending_67 (by split <;> omega) (by split <;> omega) (fun h67 => ?_) (fun h67 => ?_)
      · have hqy : q_tp (q_n ρ) m hd i = true := by
          unfold q_tp
          rw [if_pos (by omega), ← hse, if_ne0 h67, decide_eq_true hd0]
          rfl
        have hgi : q_tg (q_n ρ) m hd i = q_wt (q_n ρ) s + q_bt (q_n ρ) m (q_hd1 hd i) := by
          unfold q_tg
          rw [if_pos (by omega), ← hse]
        have hwl := q_wt_le hR (s := s) (by omega)
        have hhb : ∀ a, a < q_n ρ 3 → (zset (zset N 134 i ((hd i : Int) - 1)) 132 s ((i : Int) + 1)) 134 a = (q_hd1 hd i a : Int) ∧ q_hd1 hd i a ≤ 5 := fun a ha => by
          have h9 := hh9 a ha
          unfold q_hd1
          rw [zset_ne _ (by decide)]
          by_cases e : a = i
          · subst e
            rw [zset_at, if_pos rfl]
            omega
          · rw [zset_k e, if_neg e]
            exact h9
        refine p_aload_n 74 dX12_tryTending_73 rfl rfl (by decide) ?_
        refine p_getR 124 77 dX12_tryTending_74 fX12_41 rfl (hW9 (124, 24, 134) (by decide)) ?_
        refine p_iload_n 78 dX12_tryTending_77 rfl rfl ?_
        refine p_dup2 79 dX12_tryTending_78 ?_
        refine p_ialdn 134 80 (i) dX12_tryTending_79 rfl (by omega) (by omega) ?_
        rw [(hh9 i (by omega)).1]
        refine p_iconst 81 dX12_tryTending_80 ?_
        refine p_isub 82 dX12_tryTending_81 ?_
        refine p_iastn 134 83 (i) dX12_tryTending_82 rfl (by omega) (by omega) ?_
        have hWa : zWm (zset N 134 i ((hd i : Int) - 1)) := hW9.setc (by decide +kernel)
        refine p_aload_n 84 dX12_tryTending_83 rfl rfl (by decide) ?_
        refine p_getR 124 87 dX12_tryTending_84 fX12_35 rfl (hWa (124, 22, 132) (by decide +kernel)) ?_
        refine p_iload_n 88 dX12_tryTending_87 rfl rfl ?_
        refine p_iload_n 89 dX12_tryTending_88 rfl rfl ?_
        refine p_iconst 90 dX12_tryTending_89 ?_
        refine p_iadd 91 dX12_tryTending_90 ?_
        refine p_iastn 132 92 (s) dX12_tryTending_91 rfl (by omega) (by omega) ?_
        have hWb : zWm (zset (zset N 134 i ((hd i : Int) - 1)) 132 s ((i : Int) + 1)) := hWa.setc (by decide +kernel)
        have hEb : ∀ x, x < 421 → (zset (zset N 134 i ((hd i : Int) - 1)) 132 s ((i : Int) + 1)) 127 x = ρ x := fun x hx => by rw [zset_ne _ (by decide), zset_ne _ (by decide)]; exact hE9 x hx
        refine p_aload_n 93 dX12_tryTending_92 rfl rfl (by decide) ?_
        refine p_iload_n 94 dX12_tryTending_93 rfl rfl ?_
        refine p_iconst 95 dX12_tryTending_94 ?_
        refine p_iadd 96 dX12_tryTending_95 ?_
        refine p_iload_n 97 dX12_tryTending_96 rfl rfl ?_
        refine p_aload_n 98 dX12_tryTending_97 rfl rfl (by decide) ?_
        refine p_iload_n 99 dX12_tryTending_98 rfl rfl ?_
        refine p_callV1i 124 102 dX12_tryTending_99 (s_frailOf hWb hEb hR (s := s) (by omega)) lk_X12_272 mX12_frailOf rfl rfl (by omega) (Nat.le_of_ble_eq_true rfl) ?_
        rintro _ _ ⟨rfl, e9⟩
        have e9 := e9.symm
        subst e9
        refine p_iadd 103 dX12_tryTending_102 ?_
        refine p_callV2v 124 106 dX12_tryTending_103 (hrec (zset (zset N 134 i ((hd i : Int) - 1)) 132 s ((i : Int) + 1)) (s + 1) (sm + q_wt (q_n ρ) s) (q_hd1 hd i) hWb hEb (by omega) (by omega) hhb (by show -1 ≤ N 124 25; omega) (by show N 124 25 ≤ 1000; omega)) lk_X12_303 mX12_tryTending rfl rfl (by omega) (Nat.le_of_ble_eq_true rfl) ?_
        intro N9 hT9
        obtain ⟨t1, t2, t3, t4, t5⟩ := hT9
        have hW9 : zWm N9 := hWb.hid (fun a b g1 g2 g3 => by
          by_cases e : a = 124
          · subst e
            exact t2 b (fun e => by subst e; revert g1; decide)
          · exact congrFun (t1 a e (fun e => by subst e; revert g1; simp [q_hid]) (fun e => by subst e; revert g1; simp [q_hid])) b)
        have h134 : ∀ b, N9 134 b = if b = i then (hd i : Int) - 1 else N 134 b := fun b => by
          rw [t1 134 (by decide) (by decide) (by decide), zset_ne _ (by decide)]
          by_cases e : b = i
          · subst e
            rw [zset_at, if_pos rfl]
          · rw [zset_k e, if_neg e]
        refine p_aload_n 107 dX12_tryTending_106 rfl rfl (by decide) ?_
        refine p_getR 124 110 dX12_tryTending_107 fX12_41 rfl (hW9 (124, 24, 134) (by decide)) ?_
        refine p_iload_n 111 dX12_tryTending_110 rfl rfl ?_
        refine p_dup2 112 dX12_tryTending_111 ?_
        refine p_ialdn 134 113 (i) dX12_tryTending_112 rfl (by omega) (by omega) ?_
        rw [h134 i]
        refine p_iconst 114 dX12_tryTending_113 ?_
        refine p_iadd 115 dX12_tryTending_114 ?_
        refine p_iastn 134 116 (i) dX12_tryTending_115 rfl (by omega) (by omega) ?_
        skip
        refine p_iinc 119 dX12_tryTending_116 rfl rfl rfl ?_
        dsimp only [List.set]
        refine p_goto 42 dX12_tryTending_119 ?_
        first
          | exact ih (i + 1) (by omega) _ ⟨hLP.1, hLP.2.1, hLP.2.2.1, hLP.2.2.2.skip hqn⟩
          | (refine ih (i + 1) (by omega) _ ⟨fun a g1 g2 g3 => ?_, fun b g1 => ?_, fun b hb => ?_, hLP.2.2.2.take (by omega) (by omega) hqy (fun hlt => ?_) (fun hlt => ?_)⟩
             · by_cases e : a = 134
               · subst e
                 funext b
                 rw [← hLP.1 134 (by decide) (by decide) (by decide)]
                 by_cases eb : b = i
                 · subst eb
                   rw [zset_at, if_pos rfl, (hh9 b (by omega)).1]
                   omega
                 · rw [zset_k eb, h134 b, if_neg eb]
               · rw [zset_ne _ e, t1 a g1 g2 g3, zset_ne _ g2, zset_ne _ e]
                 exact hLP.1 a g1 g2 g3
             · rw [zset_ne _ (by decide), t2 b g1, zset_ne _ (by decide), zset_ne _ (by decide)]
               exact hLP.2.1 b g1
             · rw [zset_ne _ (by decide), t3 b (by omega), zset_k (by omega), zset_ne _ (by decide)]
               exact hLP.2.2.1 b hb
             · rw [hgi] at hlt ⊢
               rw [← Nat.add_assoc] at hlt ⊢
               obtain ⟨u1, u2, u3⟩ := t4 hlt
               refine ⟨by rw [zset_ne _ (by decide)]; exact u1, fun x hx => ?_, ?_, fun x g1 g2 => ?_⟩
               · rw [zset_ne _ (by decide), u2 x (by omega), zset_k (by omega), zset_ne _ (by decide)]
                 exact hLP.2.2.1 x hx
               · rw [zset_ne _ (by decide), u2 s (by omega), zset_at]
                 unfold q_tt
                 rw [if_pos (by omega)]
               · rw [zset_ne _ (by decide), u3 x (by omega) g2]
                 unfold q_tu
                 rw [if_pos (by omega)]
             · rw [hgi] at hlt
               rw [← Nat.add_assoc] at hlt
               obtain ⟨u1, u2⟩ := t5 hlt
               exact ⟨by rw [zset_ne _ (by decide)]; exact u1, fun x hx => by rw [zset_ne _ (by decide)]; exact u2 x hx⟩)
      · have hqn : ¬ q_tp (q_n ρ) m hd i = true := by
          unfold q_tp
          rw [if_pos (by omega), ← hse, Bool.eq_false_iff.mpr (if_nne0 h67)]
          simp
        refine p_goto 116 dX12_tryTending_70 ?_
        skip
        refine p_iinc 119 dX12_tryTending_116 rfl rfl rfl ?_
        dsimp only [List.set]
        refine p_goto 42 dX12_tryTending_119 ?_
        first
          | exact ih (i + 1) (by omega) _ ⟨hLP.1, hLP.2.1, hLP.2.2.1, hLP.2.2.2.skip hqn⟩
          | (refine ih (i + 1) (by omega) _ ⟨fun a g1 g2 g3 => ?_, fun b g1 => ?_, fun b hb => ?_, hLP.2.2.2.take (by omega) (by omega) hqy (fun hlt => ?_) (fun hlt => ?_)⟩
             · by_cases e : a = 134
               · subst e
                 funext b
                 rw [← hLP.1 134 (by decide) (by decide) (by decide)]
                 by_cases eb : b = i
                 · subst eb
                   rw [zset_at, if_pos rfl, (hh9 b (by omega)).1]
                   omega
                 · rw [zset_k eb, h134 b, if_neg eb]
               · rw [zset_ne _ e, t1 a g1 g2 g3, zset_ne _ g2, zset_ne _ e]
                 exact hLP.1 a g1 g2 g3
             · rw [zset_ne _ (by decide), t2 b g1, zset_ne _ (by decide), zset_ne _ (by decide)]
               exact hLP.2.1 b g1
             · rw [zset_ne _ (by decide), t3 b (by omega), zset_k (by omega), zset_ne _ (by decide)]
               exact hLP.2.2.1 b hb
             · rw [hgi] at hlt ⊢
               rw [← Nat.add_assoc] at hlt ⊢
               obtain ⟨u1, u2, u3⟩ := t4 hlt
               refine ⟨by rw [zset_ne _ (by decide)]; exact u1, fun x hx => ?_, ?_, fun x g1 g2 => ?_⟩
               · rw [zset_ne _ (by decide), u2 x (by omega), zset_k (by omega), zset_ne _ (by decide)]
                 exact hLP.2.2.1 x hx
               · rw [zset_ne _ (by decide), u2 s (by omega), zset_at]
                 unfold q_tt
                 rw [if_pos (by omega)]
               · rw [zset_ne _ (by decide), u3 x (by omega) g2]
                 unfold q_tu
                 rw [if_pos (by omega)]
             · rw [hgi] at hlt
               rw [← Nat.add_assoc] at hlt
               obtain ⟨u1, u2⟩ := t5 hlt
               exact ⟨by rw [zset_ne _ (by decide)]; exact u1, fun x hx => by rw [zset_ne _ (by decide)]; exact u2 x hx⟩)
theorem s_tryTending {l : Launch} {X : ZX} {ρ : Nat → Int} (hR : wfR ρ) : ∀ m, TTok l X ρ m := by
  have e2 : ρ 2 = (q_n ρ 2 : Int) := hR.n (by decide)
  have b2 := hR.2.1.2.2.1
  intro m
  induction m with
  | zero =>
    intro M s sm hd hW hE hs hsm hh h0 h1
    refine zC.of [some (zr 124), some (zi (s : Int)), some (zi (sm : Int)), none] (by decide +kernel) rfl rfl (Nat.le_of_ble_eq_true rfl) rfl ?_
    refine p_iload_n 1 dX12_tryTending_0 rfl rfl ?_
    refine p_aload_n 2 dX12_tryTending_1 rfl rfl (by decide) ?_
    refine p_getR 124 5 dX12_tryTending_2 fX12_20 rfl (hW (124, 15, 127) (by decide)) ?_
    refine p_iconst 6 dX12_tryTending_5 ?_
    refine p_ialdn 127 7 (2) dX12_tryTending_6 rfl (by omega) (by omega) ?_
    rw [hE 2 (by decide)]
    refine p_icmp_ne 40 10 dX12_tryTending_7 (by omega) (by omega) (by omega) (by omega) (fun h7 => absurd (by omega) (fun h9 : False => h9)) (fun h7 => ?_)
    refine p_iload_n 11 dX12_tryTending_10 rfl rfl ?_
    refine p_aload_n 12 dX12_tryTending_11 rfl rfl (by decide) ?_
    refine p_getI 124 15 dX12_tryTending_12 fX12_300 rfl ?_
    refine p_icmp_gt 19 18 dX12_tryTending_15 (by omega) (by omega) (by show _ ≤ M 124 25; omega) (by show M 124 25 < _; omega) (fun h15 => ?_) (fun h15 => ?_)
    · refine p_aload_n 20 dX12_tryTending_19 rfl rfl (by decide) ?_
      refine p_iload_n 21 dX12_tryTending_20 rfl rfl ?_
      refine p_putI 124 24 dX12_tryTending_21 wX12_300 rfl ?_
      refine p_aload_n 25 dX12_tryTending_24 rfl rfl (by decide) ?_
      refine p_getR 124 28 dX12_tryTending_25 fX12_35 rfl ((hW.set (by decide +kernel) : zWm (zset M 124 25 (sm : Int))) (124, 22, 132) (by decide +kernel)) ?_
      refine p_iconst 29 dX12_tryTending_28 ?_
      refine p_aload_n 30 dX12_tryTending_29 rfl rfl (by decide) ?_
      refine p_getR 124 33 dX12_tryTending_30 fX12_38 rfl ((hW.set (by decide +kernel) : zWm (zset M 124 25 (sm : Int))) (124, 23, 133) (by decide +kernel)) ?_
      refine p_iconst 34 dX12_tryTending_33 ?_
      refine p_bipush 36 dX12_tryTending_34 rfl ?_
      refine p_callS5v 39 dX12_tryTending_36 (s_copy (f := 132) (t := 133) (a := 0) (i := 0) (m := 7) rfl rfl (by decide) (by decide) (by decide) (by decide)) lk_X12_174 mX12_copy (by omega) (Nat.le_of_ble_eq_true rfl) ?_
      rintro _ rfl
      refine p_vret dX12_tryTending_39 rfl ?_
      refine ⟨rfl, fun a g1 g2 g3 => by rw [zcopy_ne _ g3, zset_ne _ g1], fun b g1 => by rw [zcopy_ne _ (by decide), zset_k g1], fun b hb => by rw [zcopy_ne _ (by decide), zset_ne _ (by decide)], fun _ => ⟨by rw [zcopy_ne _ (by decide), zset_at]; rfl, fun x hx => ?_, fun x g1 g2 => absurd g2 (by omega)⟩, fun hlt => absurd (show M 124 25 < ((sm + 0 : Nat) : Int) by omega) hlt⟩
      have hzc := zcopy_at (M := zset M 124 25 (sm : Int)) (f := 132) (a := 0) (t := 133) (i := 0) (m := 7) (b := x) (by omega)
      rw [Nat.zero_add] at hzc
      rw [hzc, zset_ne _ (by decide)]
    · refine p_vret dX12_tryTending_18 rfl ?_
      exact ⟨rfl, fun _ _ _ _ => rfl, fun _ _ => rfl, fun _ _ => rfl, fun hlt => absurd hlt (by show ¬ M 124 25 < ((sm + 0 : Nat) : Int); omega), fun _ => ⟨rfl, fun _ _ => rfl⟩⟩
  | succ m ih =>
    intro M s sm hd hW hE hs hsm hh h0 h1
    refine zC.of [some (zr 124), some (zi (s : Int)), some (zi (sm : Int)), none] (by decide +kernel) rfl rfl (Nat.le_of_ble_eq_true rfl) rfl ?_
    refine p_iload_n 1 dX12_tryTending_0 rfl rfl ?_
    refine p_aload_n 2 dX12_tryTending_1 rfl rfl (by decide) ?_
    refine p_getR 124 5 dX12_tryTending_2 fX12_20 rfl (hW (124, 15, 127) (by decide)) ?_
    refine p_iconst 6 dX12_tryTending_5 ?_
    refine p_ialdn 127 7 (2) dX12_tryTending_6 rfl (by omega) (by omega) ?_
    rw [hE 2 (by decide)]
    refine p_icmp_ne 40 10 dX12_tryTending_7 (by omega) (by omega) (by omega) (by omega) (fun h7 => ?_) (fun h7 => absurd (by omega) (fun h9 : False => h9))
    refine p_iconst 41 dX12_tryTending_40 ?_
    refine p_istore_n 42 dX12_tryTending_41 rfl (Nat.le_of_ble_eq_true rfl) rfl rfl ?_
    dsimp only [List.set]
    exact l_tryTending hR ih hW hE hs hsm hh h0 h1 (q_n ρ 3) 0 (Nat.zero_add _) M LPt.start
/-- the hands when one is left out (wo), or has one more (mo) -/
def q_hw (r : Nat → Nat) (wo mo : Int) (a : Nat) : Nat := if (a : Int) = wo then 0 else r (29 + 3 * a + 1) + (if (a : Int) = mo then 1 else 0)
def SKt (ρ : Nat → Int) (wo mo : Int) (M M' : ZM) : Prop := Hid M M' ∧ M' 124 11 = M 124 11 ∧ ∀ x, x < q_n ρ 2 → M' 133 x = (q_tends (q_n ρ) (q_n ρ 2) (q_hw (q_n ρ) wo mo) x : Int)
theorem q_hw_all {r : Nat → Nat} : ∀ b, b < r 3 → q_hw r (-1) (-1) b = q_hands r b := by
  intro b hb
  unfold q_hw q_hands
  rw [if_neg (by omega), if_neg (by omega), if_pos hb, Nat.add_zero]
theorem l_seekTending {l : Launch} {X : ZX} {M : ZM} {ρ : Nat → Int} (hR : wfR ρ) (hW : zWm M) (hE : ∀ i, i < 421 → M 127 i = ρ i) {wo mo : Int} (ho1 : -1 ≤ wo) (ho2 : wo < 7) (hm1 : -1 ≤ mo) (hm2 : mo < 7) : ∀ (j i : Nat), i + j = q_n ρ 3 → ∀ (N : ZM), (∀ a, a ≠ 134 → N a = M a) → (∀ a, a < i → N 134 a = (q_hw (q_n ρ) wo mo a : Int)) → zP l X 11 tX12_seekTending 2 [some (zr 124), some (zi wo), some (zi mo), some (zi (i : Int))] [] N (fun r M' => r = some (zi (q_bt (q_n ρ) (q_n ρ 2) (q_hw (q_n ρ) wo mo) : Int)) ∧ SKt ρ wo mo M M') := by
  have e2 : ρ 2 = (q_n ρ 2 : Int) := hR.n (by decide)
  have b2 := hR.2.1.2.2.1
  have e3 : ρ 3 = (q_n ρ 3 : Int) := hR.n (by decide)
  have b3 := hR.2.1.2.2.2.1
  have hw5 : ∀ a, a < q_n ρ 3 → q_hw (q_n ρ) wo mo a ≤ 5 := fun a ha => by
    have := q_hand4 hR (a := a) (by omega)
    unfold q_hw
    (repeat' split) <;> omega
  intro j
  induction j with
  | zero =>
    intro i hi N hN hk
    have hW9 : zWm N := hW.hid (fun a b g1 g2 g3 => congrFun (hN a (fun e => by subst e; revert g1; simp [q_hid])) b)
    have hE9 : ∀ i, i < 421 → N 127 i = ρ i := fun i hi => by rw [hN 127 (by decide)]; exact hE i hi
    refine p_iload_n 3 dX12_seekTending_2 rfl rfl ?_
    refine p_aload_n 4 dX12_seekTending_3 rfl rfl (by decide) ?_
    refine p_getR 124 7 dX12_seekTending_4 fX12_20 rfl (hW9 (124, 15, 127) (by decide)) ?_
    refine p_iconst 8 dX12_seekTending_7 ?_
    refine p_ialdn 127 9 (3) dX12_seekTending_8 rfl (by omega) (by omega) ?_
    rw [hE9 3 (by decide)]
    rw [Nat.add_zero] at hi
    subst hi
    refine p_icmp_ge 57 12 dX12_seekTending_9 (by omega) (by omega) (by omega) (by omega) (fun h9 => ?_) (fun h9 => absurd (by omega) (fun h9 : False => h9))
    refine p_aload_n 58 dX12_seekTending_57 rfl rfl (by decide) ?_
    refine p_iconst 59 dX12_seekTending_58 ?_
    refine p_putI 124 62 dX12_seekTending_59 wX12_300 rfl ?_
    refine p_aload_n 63 dX12_seekTending_62 rfl rfl (by decide) ?_
    refine p_iconst 64 dX12_seekTending_63 ?_
    refine p_iconst 65 dX12_seekTending_64 ?_
    refine p_callV2v 124 68 dX12_seekTending_65 (s_tryTending (l := l) (X := X) hR (q_n ρ 2) (zset N 124 25 (-1)) 0 0 (q_hw (q_n ρ) wo mo) (hW9.set (by decide +kernel)) (fun x hx => by rw [zset_ne _ (by decide)]; exact hE9 x hx) (Nat.zero_add _) (by omega) (fun a ha => ⟨by rw [zset_ne _ (by decide)]; exact hk a ha, hw5 a ha⟩) (by show (-1 : Int) ≤ -1; decide) (by show (-1 : Int) ≤ 1000; decide)) lk_X12_303 mX12_tryTending rfl rfl (by omega) (Nat.le_of_ble_eq_true rfl) ?_
    intro N9 hT9
    obtain ⟨t1, t2, t3, t4, t5⟩ := hT9
    obtain ⟨u1, u2, u3⟩ := t4 (by show (-1 : Int) < _; omega)
    refine p_aload_n 69 dX12_seekTending_68 rfl rfl (by decide) ?_
    refine p_getI 124 72 dX12_seekTending_69 fX12_300 rfl ?_
    refine p_iret dX12_seekTending_72 rfl ?_
    refine ⟨?_, ⟨fun a b ha => ?_, fun a b g1 g2 g3 => ?_⟩, ?_, fun x hx => u3 x (by omega) hx⟩
    · rw [u1, Nat.zero_add]
    · rw [t1 a (by omega) (by omega) (by omega), zset_ne _ (by omega), hN a (by omega)]
    · by_cases e : a = 124
      · subst e
        have hb : b ≠ 25 := fun e => by subst e; revert g1; decide
        rw [t2 b hb, zset_k hb, hN 124 (by decide)]
      · rw [t1 a e (fun e => by subst e; revert g1; simp [q_hid]) (fun e => by subst e; revert g1; simp [q_hid]), zset_ne _ e, hN a (fun e => by subst e; revert g1; simp [q_hid])]
    · rw [t2 11 (by decide), zset_k (by decide), hN 124 (by decide)]
  | succ j ih =>
    intro i hi N hN hk
    have hW9 : zWm N := hW.hid (fun a b g1 g2 g3 => congrFun (hN a (fun e => by subst e; revert g1; simp [q_hid])) b)
    have hE9 : ∀ i, i < 421 → N 127 i = ρ i := fun i hi => by rw [hN 127 (by decide)]; exact hE i hi
    have eh : ρ (29 + 3 * i + 1) = (q_n ρ (29 + 3 * i + 1) : Int) := hR.n (by omega)
    refine p_iload_n 3 dX12_seekTending_2 rfl rfl ?_
    refine p_aload_n 4 dX12_seekTending_3 rfl rfl (by decide) ?_
    refine p_getR 124 7 dX12_seekTending_4 fX12_20 rfl (hW9 (124, 15, 127) (by decide)) ?_
    refine p_iconst 8 dX12_seekTending_7 ?_
    refine p_ialdn 127 9 (3) dX12_seekTending_8 rfl (by omega) (by omega) ?_
    rw [hE9 3 (by decide)]
    refine p_icmp_ge 57 12 dX12_seekTending_9 (by omega) (by omega) (by omega) (by omega) (fun h9 => absurd (by omega) (fun h9 : False => h9)) (fun h9 => ?_)
    refine p_aload_n 13 dX12_seekTending_12 rfl rfl (by decide) ?_
    refine p_getR 124 16 dX12_seekTending_13 fX12_41 rfl (hW9 (124, 24, 134) (by decide)) ?_
    refine p_iload_n 17 dX12_seekTending_16 rfl rfl ?_
    refine p_iload_n 18 dX12_seekTending_17 rfl rfl ?_
    refine p_iload_n 19 dX12_seekTending_18 rfl rfl ?_
    refine p_icmp_ne 26 22 dX12_seekTending_19 (by omega) (by omega) (by omega) (by omega) (fun h19 => ?_) (fun h19 => ?_)
    · refine p_aload_n 27 dX12_seekTending_26 rfl rfl (by decide) ?_
      refine p_getR 124 30 dX12_seekTending_27 fX12_20 rfl (hW9 (124, 15, 127) (by decide)) ?_
      refine p_bipush 32 dX12_seekTending_30 rfl ?_
      refine p_iconst 33 dX12_seekTending_32 ?_
      refine p_iload_n 34 dX12_seekTending_33 rfl rfl ?_
      refine p_imul 35 dX12_seekTending_34 ?_
      refine p_iadd 36 dX12_seekTending_35 ?_
      refine p_iconst 37 dX12_seekTending_36 ?_
      refine p_iadd 38 dX12_seekTending_37 ?_
      refine p_ialdn 127 39 (29 + 3 * i + 1) dX12_seekTending_38 rfl (by omega) (by omega) ?_
      rw [hE9 _ (by omega), eh]
      refine p_iload_n 40 dX12_seekTending_39 rfl rfl ?_
      refine p_iload_n 41 dX12_seekTending_40 rfl rfl ?_
      refine p_icmp_ne 48 44 dX12_seekTending_41 (by omega) (by omega) (by omega) (by omega) (fun h41 => ?_) (fun h41 => ?_)
      · refine p_iconst 49 dX12_seekTending_48 ?_
        refine p_iadd 50 dX12_seekTending_49 ?_
        refine p_iastn 134 51 (i) dX12_seekTending_50 rfl (by omega) (by omega) ?_
        refine p_iinc 54 dX12_seekTending_51 rfl rfl rfl ?_
        dsimp only [List.set]
        refine p_goto 2 dX12_seekTending_54 ?_
        refine ih (i + 1) (by omega) _ (fun a ha => by rw [zset_ne _ ha]; exact hN a ha) (fun a ha => ?_)
        by_cases e : a = i
        · subst e
          rw [zset_at]
          unfold q_hw
          first
            | (rw [if_pos (by omega)]; done)
            | (rw [if_pos (by omega)]; rfl)
            | (rw [if_neg (by omega), if_pos (by omega)]; rfl)
            | (rw [if_neg (by omega), if_neg (by omega)]; rfl)
        · rw [zset_k e]
          exact hk a (by omega)
      · refine p_iconst 45 dX12_seekTending_44 ?_
        refine p_goto 49 dX12_seekTending_45 ?_
        refine p_iadd 50 dX12_seekTending_49 ?_
        refine p_iastn 134 51 (i) dX12_seekTending_50 rfl (by omega) (by omega) ?_
        refine p_iinc 54 dX12_seekTending_51 rfl rfl rfl ?_
        dsimp only [List.set]
        refine p_goto 2 dX12_seekTending_54 ?_
        refine ih (i + 1) (by omega) _ (fun a ha => by rw [zset_ne _ ha]; exact hN a ha) (fun a ha => ?_)
        by_cases e : a = i
        · subst e
          rw [zset_at]
          unfold q_hw
          first
            | (rw [if_pos (by omega)]; done)
            | (rw [if_pos (by omega)]; rfl)
            | (rw [if_neg (by omega), if_pos (by omega)]; rfl)
            | (rw [if_neg (by omega), if_neg (by omega)]; rfl)
        · rw [zset_k e]
          exact hk a (by omega)
    · refine p_iconst 23 dX12_seekTending_22 ?_
      refine p_goto 50 dX12_seekTending_23 ?_
      refine p_iastn 134 51 (i) dX12_seekTending_50 rfl (by omega) (by omega) ?_
      refine p_iinc 54 dX12_seekTending_51 rfl rfl rfl ?_
      dsimp only [List.set]
      refine p_goto 2 dX12_seekTending_54 ?_
      refine ih (i + 1) (by omega) _ (fun a ha => by rw [zset_ne _ ha]; exact hN a ha) (fun a ha => ?_)
      by_cases e : a = i
      · subst e
        rw [zset_at]
        unfold q_hw
        first
          | (rw [if_pos (by omega)]; done)
          | (rw [if_pos (by omega)]; rfl)
          | (rw [if_neg (by omega), if_pos (by omega)]; rfl)
          | (rw [if_neg (by omega), if_neg (by omega)]; rfl)
      · rw [zset_k e]
        exact hk a (by omega)
theorem s_seekTending {l : Launch} {X : ZX} {M : ZM} {ρ : Nat → Int} (hR : wfR ρ) (hW : zWm M) (hE : ∀ i, i < 421 → M 127 i = ρ i) {wo mo : Int} (ho1 : -1 ≤ wo) (ho2 : wo < 7) (hm1 : -1 ≤ mo) (hm2 : mo < 7) : zCi l X 11 yX12_seekTending tX12_seekTending [zr 124, zi wo, zi mo] M (fun a M' => a = (q_bt (q_n ρ) (q_n ρ 2) (q_hw (q_n ρ) wo mo) : Int) ∧ SKt ρ wo mo M M') := by
  have e2 : ρ 2 = (q_n ρ 2 : Int) := hR.n (by decide)
  have b2 := hR.2.1.2.2.1
  have e3 : ρ 3 = (q_n ρ 3 : Int) := hR.n (by decide)
  have b3 := hR.2.1.2.2.2.1
  refine zC.of [some (zr 124), some (zi wo), some (zi mo), none] (by decide +kernel) rfl rfl (Nat.le_of_ble_eq_true rfl) rfl ?_
  refine p_iconst 1 dX12_seekTending_0 ?_
  refine p_istore_n 2 dX12_seekTending_1 rfl (Nat.le_of_ble_eq_true rfl) rfl rfl ?_
  dsimp only [List.set]
  refine (l_seekTending hR hW hE ho1 ho2 hm1 hm2 (q_n ρ 3) 0 (Nat.zero_add _) M (fun _ _ => rfl) (fun a ha => absurd ha (by omega))).mono (fun r M9 h9 => ⟨_, h9.1, rfl, h9.2⟩)
theorem l_harmByR {l : Launch} {X : ZX} {M : ZM} {ρ : Nat → Int} (hW : zWm M) (hE : ∀ i, i < 421 → M 127 i = ρ i) (hR : wfR ρ) {v : Nat → Int} (hv : ∀ i, i < q_n ρ 2 → M 133 (0 + i) = v i) (hv1 : ∀ i, i < q_n ρ 2 → 0 ≤ v i) (hv2 : ∀ i, i < q_n ρ 2 → v i ≤ 1000) {S : Nat} (hS : ∀ i, i < q_n ρ 2 → (S.testBit i = true ↔ 0 < v i)) {s : Nat} (hs : s < q_n ρ 2) (hb : ¬ S.testBit s = true) : ∀ (j i : Nat), i + j = q_n ρ 2 → zP l X 2 tX12_harmBy 16 [some (zr 124), some (zr 133), some (zi 0), some (zi (s : Int)), some (zi (if ρ (8 + 3 * s) = 3 ∧ q_any (q_n ρ) S i = true then 1 else 0)), some (zi (i : Int))] [] M (fun r M' => ∃ a, r = some (zi a) ∧ (a = (q_harm (q_n ρ) S s : Int) ∧ M' = M)) := by
  have e2 : ρ 2 = (q_n ρ 2 : Int) := hR.n (by decide)
  have b7 := hR.2.1.2.2.1
  obtain ⟨b1, b2, b3⟩ := hR.2.2.1 s (by omega)
  have n1 := hR.1 (8 + 3 * s) (by omega)
  have n2 := hR.1 (8 + 3 * s + 1) (by omega)
  have n3 := hR.1 (8 + 3 * s + 2) (by omega)
  have e2 : ρ 2 = (q_n ρ 2 : Int) := hR.n (by decide)
  have b7 := hR.2.1.2.2.1
  intro j
  induction j with
  | zero =>
    intro i hi
    refine p_iload 18 dX12_harmBy_16 rfl ?_
    refine p_aload_n 19 dX12_harmBy_18 rfl rfl (by decide) ?_
    refine p_getR 124 22 dX12_harmBy_19 fX12_20 rfl (hW (124, 15, 127) (by decide)) ?_
    refine p_iconst 23 dX12_harmBy_22 ?_
    refine p_iald 127 24 dX12_harmBy_23 rfl (by omega) (by omega) ?_
    try simp only [Int.toNat_natCast, Int.reduceToNat]
    rw [hE 2 (by decide)]
    refine p_icmp_ge 73 27 dX12_harmBy_24 (by omega) (by omega) (by omega) (by omega) (fun h24 => ?_) (fun h24 => absurd (by omega) (fun h9 : False => h9))
    refine p_iload 75 dX12_harmBy_73 rfl ?_
    refine p_if_eq 82 78 dX12_harmBy_75 (by split <;> omega) (by split <;> omega) (fun h75 => ?_) (fun h75 => ?_)
    · refine p_aload_n 83 dX12_harmBy_82 rfl rfl (by decide) ?_
      refine p_iload_n 84 dX12_harmBy_83 rfl rfl ?_
      refine p_callV1i 124 87 dX12_harmBy_84 (s_frailOf hW hE hR (s := s) (by omega)) lk_X12_272 mX12_frailOf rfl rfl (by decide) (Nat.le_of_ble_eq_true rfl) ?_
      rintro _ _ ⟨rfl, rfl⟩
      refine p_iret dX12_harmBy_87 rfl ?_
      refine ⟨_, rfl, ?_, rfl⟩
      rw [Nat.add_zero] at hi
      subst hi
      unfold q_harm
      rw [if_neg hb]
      first
        | (rw [if_neg]
           rintro ⟨g1, g2⟩
           rw [if_pos ⟨by unfold q_n at g1; omega, g2⟩] at h75
           exact absurd h75 (by decide))
        | (rw [if_pos]
           · rfl
           · by_cases g : ρ (8 + 3 * s) = 3 ∧ q_any (q_n ρ) S (q_n ρ 2) = true
             · exact ⟨by unfold q_n; omega, g.2⟩
             · rw [if_neg g] at h75; exact absurd rfl h75)
    · refine p_iconst 79 dX12_harmBy_78 ?_
      refine p_goto 87 dX12_harmBy_79 ?_
      refine p_iret dX12_harmBy_87 rfl ?_
      refine ⟨_, rfl, ?_, rfl⟩
      rw [Nat.add_zero] at hi
      subst hi
      unfold q_harm
      rw [if_neg hb]
      first
        | (rw [if_neg]
           rintro ⟨g1, g2⟩
           rw [if_pos ⟨by unfold q_n at g1; omega, g2⟩] at h75
           exact absurd h75 (by decide))
        | (rw [if_pos]
           · rfl
           · by_cases g : ρ (8 + 3 * s) = 3 ∧ q_any (q_n ρ) S (q_n ρ 2) = true
             · exact ⟨by unfold q_n; omega, g.2⟩
             · rw [if_neg g] at h75; exact absurd rfl h75)
  | succ j ih =>
    intro i hi
    obtain ⟨c1, -, -⟩ := hR.2.2.1 i (by omega)
    have c0 := hR.1 (8 + 3 * i) (by omega)
    have v1 := hv1 i (by omega)
    have v2 := hv2 i (by omega)
    refine p_iload 18 dX12_harmBy_16 rfl ?_
    refine p_aload_n 19 dX12_harmBy_18 rfl rfl (by decide) ?_
    refine p_getR 124 22 dX12_harmBy_19 fX12_20 rfl (hW (124, 15, 127) (by decide)) ?_
    refine p_iconst 23 dX12_harmBy_22 ?_
    refine p_iald 127 24 dX12_harmBy_23 rfl (by omega) (by omega) ?_
    try simp only [Int.toNat_natCast, Int.reduceToNat]
    rw [hE 2 (by decide)]
    refine p_icmp_ge 73 27 dX12_harmBy_24 (by omega) (by omega) (by omega) (by omega) (fun h24 => absurd (by omega) (fun h9 : False => h9)) (fun h24 => ?_)
    refine p_iload 29 dX12_harmBy_27 rfl ?_
    refine p_if_ne 60 32 dX12_harmBy_29 (by split <;> omega) (by split <;> omega) (fun h29 => ?_) (fun h29 => ?_)
    · refine p_iconst 61 dX12_harmBy_60 ?_
      refine p_goto 65 dX12_harmBy_61 ?_
      refine p_istore 67 dX12_harmBy_65 (Nat.le_of_ble_eq_true rfl) rfl rfl ?_
      dsimp only [List.set]
      refine p_iinc 70 dX12_harmBy_67 rfl rfl rfl ?_
      dsimp only [List.set]
      refine p_goto 16 dX12_harmBy_70 ?_
      have e := ih (i + 1) (by omega)
      have er : q_any (q_n ρ) S (i + 1) = (q_any (q_n ρ) S i || (decide (q_n ρ (8 + 3 * i) = 3) && S.testBit i)) := rfl
      rw [er] at e
      have hSi := hS i (by omega)
      first
        | (have g : ρ (8 + 3 * s) = 3 ∧ q_any (q_n ρ) S i = true := by
             by_cases g : ρ (8 + 3 * s) = 3 ∧ q_any (q_n ρ) S i = true
             · exact g
             · rw [if_neg g] at h29; exact absurd rfl h29
           rw [g.2, Bool.true_or, if_pos ⟨g.1, rfl⟩] at e
           exact e)
        | (rw [if_neg (fun g => by omega)] at e
           exact e)
        | (rw [if_pos ⟨by omega, by rw [show decide (q_n ρ (8 + 3 * i) = 3) = true from decide_eq_true (by unfold q_n; omega), hSi.mpr (by omega)]; simp⟩] at e
           exact e)
        | (have g0 : ¬ (ρ (8 + 3 * s) = 3 ∧ q_any (q_n ρ) S i = true) := by
             intro g
             rw [if_pos g] at h29
             exact absurd (by decide) h29
           have g1 : q_any (q_n ρ) S i = false := by
             cases g1 : q_any (q_n ρ) S i
             · rfl
             · exact absurd ⟨by omega, g1⟩ g0
           have g2 : (decide (q_n ρ (8 + 3 * i) = 3) && S.testBit i) = false := by
             first
               | (rw [show decide (q_n ρ (8 + 3 * i) = 3) = false from decide_eq_false (by unfold q_n; omega)]; rfl)
               | (have : S.testBit i = false := by
                    cases g3 : S.testBit i
                    · rfl
                    · have := hSi.mp g3; omega
                  rw [this, Bool.and_false])
           rw [g1, g2, if_neg (by rintro ⟨-, g4⟩; exact absurd g4 (by decide))] at e
           exact e)
    · refine p_aload_n 33 dX12_harmBy_32 rfl rfl (by decide) ?_
      refine p_iload_n 34 dX12_harmBy_33 rfl rfl ?_
      refine p_callV1i 124 37 dX12_harmBy_34 (s_kindOf hW hE hR (s := s) (by omega)) lk_X12_269 mX12_kindOf rfl rfl (by decide) (Nat.le_of_ble_eq_true rfl) ?_
      rintro _ _ ⟨rfl, rfl⟩
      refine p_iconst 38 dX12_harmBy_37 ?_
      refine p_icmp_ne 64 41 dX12_harmBy_38 (by omega) (by omega) (by omega) (by omega) (fun h38 => ?_) (fun h38 => ?_)
      · refine p_iconst 65 dX12_harmBy_64 ?_
        refine p_istore 67 dX12_harmBy_65 (Nat.le_of_ble_eq_true rfl) rfl rfl ?_
        dsimp only [List.set]
        refine p_iinc 70 dX12_harmBy_67 rfl rfl rfl ?_
        dsimp only [List.set]
        refine p_goto 16 dX12_harmBy_70 ?_
        have e := ih (i + 1) (by omega)
        have er : q_any (q_n ρ) S (i + 1) = (q_any (q_n ρ) S i || (decide (q_n ρ (8 + 3 * i) = 3) && S.testBit i)) := rfl
        rw [er] at e
        have hSi := hS i (by omega)
        first
          | (have g : ρ (8 + 3 * s) = 3 ∧ q_any (q_n ρ) S i = true := by
               by_cases g : ρ (8 + 3 * s) = 3 ∧ q_any (q_n ρ) S i = true
               · exact g
               · rw [if_neg g] at h29; exact absurd rfl h29
             rw [g.2, Bool.true_or, if_pos ⟨g.1, rfl⟩] at e
             exact e)
          | (rw [if_neg (fun g => by omega)] at e
             exact e)
          | (rw [if_pos ⟨by omega, by rw [show decide (q_n ρ (8 + 3 * i) = 3) = true from decide_eq_true (by unfold q_n; omega), hSi.mpr (by omega)]; simp⟩] at e
             exact e)
          | (have g0 : ¬ (ρ (8 + 3 * s) = 3 ∧ q_any (q_n ρ) S i = true) := by
               intro g
               rw [if_pos g] at h29
               exact absurd (by decide) h29
             have g1 : q_any (q_n ρ) S i = false := by
               cases g1 : q_any (q_n ρ) S i
               · rfl
               · exact absurd ⟨by omega, g1⟩ g0
             have g2 : (decide (q_n ρ (8 + 3 * i) = 3) && S.testBit i) = false := by
               first
                 | (rw [show decide (q_n ρ (8 + 3 * i) = 3) = false from decide_eq_false (by unfold q_n; omega)]; rfl)
                 | (have : S.testBit i = false := by
                      cases g3 : S.testBit i
                      · rfl
                      · have := hSi.mp g3; omega
                    rw [this, Bool.and_false])
             rw [g1, g2, if_neg (by rintro ⟨-, g4⟩; exact absurd g4 (by decide))] at e
             exact e)
      · refine p_aload_n 42 dX12_harmBy_41 rfl rfl (by decide) ?_
        refine p_iload 44 dX12_harmBy_42 rfl ?_
        refine p_callV1i 124 47 dX12_harmBy_44 (s_kindOf hW hE hR (s := i) (by omega)) lk_X12_269 mX12_kindOf rfl rfl (by decide) (Nat.le_of_ble_eq_true rfl) ?_
        rintro _ _ ⟨rfl, rfl⟩
        refine p_iconst 48 dX12_harmBy_47 ?_
        refine p_icmp_ne 64 51 dX12_harmBy_48 (by omega) (by omega) (by omega) (by omega) (fun h48 => ?_) (fun h48 => ?_)
        · refine p_iconst 65 dX12_harmBy_64 ?_
          refine p_istore 67 dX12_harmBy_65 (Nat.le_of_ble_eq_true rfl) rfl rfl ?_
          dsimp only [List.set]
          refine p_iinc 70 dX12_harmBy_67 rfl rfl rfl ?_
          dsimp only [List.set]
          refine p_goto 16 dX12_harmBy_70 ?_
          have e := ih (i + 1) (by omega)
          have er : q_any (q_n ρ) S (i + 1) = (q_any (q_n ρ) S i || (decide (q_n ρ (8 + 3 * i) = 3) && S.testBit i)) := rfl
          rw [er] at e
          have hSi := hS i (by omega)
          first
            | (have g : ρ (8 + 3 * s) = 3 ∧ q_any (q_n ρ) S i = true := by
                 by_cases g : ρ (8 + 3 * s) = 3 ∧ q_any (q_n ρ) S i = true
                 · exact g
                 · rw [if_neg g] at h29; exact absurd rfl h29
               rw [g.2, Bool.true_or, if_pos ⟨g.1, rfl⟩] at e
               exact e)
            | (rw [if_neg (fun g => by omega)] at e
               exact e)
            | (rw [if_pos ⟨by omega, by rw [show decide (q_n ρ (8 + 3 * i) = 3) = true from decide_eq_true (by unfold q_n; omega), hSi.mpr (by omega)]; simp⟩] at e
               exact e)
            | (have g0 : ¬ (ρ (8 + 3 * s) = 3 ∧ q_any (q_n ρ) S i = true) := by
                 intro g
                 rw [if_pos g] at h29
                 exact absurd (by decide) h29
               have g1 : q_any (q_n ρ) S i = false := by
                 cases g1 : q_any (q_n ρ) S i
                 · rfl
                 · exact absurd ⟨by omega, g1⟩ g0
               have g2 : (decide (q_n ρ (8 + 3 * i) = 3) && S.testBit i) = false := by
                 first
                   | (rw [show decide (q_n ρ (8 + 3 * i) = 3) = false from decide_eq_false (by unfold q_n; omega)]; rfl)
                   | (have : S.testBit i = false := by
                        cases g3 : S.testBit i
                        · rfl
                        · have := hSi.mp g3; omega
                      rw [this, Bool.and_false])
               rw [g1, g2, if_neg (by rintro ⟨-, g4⟩; exact absurd g4 (by decide))] at e
               exact e)
        · refine p_aload_n 52 dX12_harmBy_51 rfl rfl (by decide) ?_
          refine p_iload_n 53 dX12_harmBy_52 rfl rfl ?_
          refine p_iload 55 dX12_harmBy_53 rfl ?_
          refine p_iadd 56 dX12_harmBy_55 ?_
          refine p_ialdn 133 57 (0 + i) dX12_harmBy_56 rfl (by omega) (by omega) ?_
          rw [hv i (by omega)]
          refine p_if_le 64 60 dX12_harmBy_57 (by omega) (by omega) (fun h57 => ?_) (fun h57 => ?_)
          · refine p_iconst 65 dX12_harmBy_64 ?_
            refine p_istore 67 dX12_harmBy_65 (Nat.le_of_ble_eq_true rfl) rfl rfl ?_
            dsimp only [List.set]
            refine p_iinc 70 dX12_harmBy_67 rfl rfl rfl ?_
            dsimp only [List.set]
            refine p_goto 16 dX12_harmBy_70 ?_
            have e := ih (i + 1) (by omega)
            have er : q_any (q_n ρ) S (i + 1) = (q_any (q_n ρ) S i || (decide (q_n ρ (8 + 3 * i) = 3) && S.testBit i)) := rfl
            rw [er] at e
            have hSi := hS i (by omega)
            first
              | (have g : ρ (8 + 3 * s) = 3 ∧ q_any (q_n ρ) S i = true := by
                   by_cases g : ρ (8 + 3 * s) = 3 ∧ q_any (q_n ρ) S i = true
                   · exact g
                   · rw [if_neg g] at h29; exact absurd rfl h29
                 rw [g.2, Bool.true_or, if_pos ⟨g.1, rfl⟩] at e
                 exact e)
              | (rw [if_neg (fun g => by omega)] at e
                 exact e)
              | (rw [if_pos ⟨by omega, by rw [show decide (q_n ρ (8 + 3 * i) = 3) = true from decide_eq_true (by unfold q_n; omega), hSi.mpr (by omega)]; simp⟩] at e
                 exact e)
              | (have g0 : ¬ (ρ (8 + 3 * s) = 3 ∧ q_any (q_n ρ) S i = true) := by
                   intro g
                   rw [if_pos g] at h29
                   exact absurd (by decide) h29
                 have g1 : q_any (q_n ρ) S i = false := by
                   cases g1 : q_any (q_n ρ) S i
                   · rfl
                   · exact absurd ⟨by omega, g1⟩ g0
                 have g2 : (decide (q_n ρ (8 + 3 * i) = 3) && S.testBit i) = false := by
                   first
                     | (rw [show decide (q_n ρ (8 + 3 * i) = 3) = false from decide_eq_false (by unfold q_n; omega)]; rfl)
                     | (have : S.testBit i = false := by
                          cases g3 : S.testBit i
                          · rfl
                          · have := hSi.mp g3; omega
                        rw [this, Bool.and_false])
                 rw [g1, g2, if_neg (by rintro ⟨-, g4⟩; exact absurd g4 (by decide))] at e
                 exact e)
          · refine p_iconst 61 dX12_harmBy_60 ?_
            refine p_goto 65 dX12_harmBy_61 ?_
            refine p_istore 67 dX12_harmBy_65 (Nat.le_of_ble_eq_true rfl) rfl rfl ?_
            dsimp only [List.set]
            refine p_iinc 70 dX12_harmBy_67 rfl rfl rfl ?_
            dsimp only [List.set]
            refine p_goto 16 dX12_harmBy_70 ?_
            have e := ih (i + 1) (by omega)
            have er : q_any (q_n ρ) S (i + 1) = (q_any (q_n ρ) S i || (decide (q_n ρ (8 + 3 * i) = 3) && S.testBit i)) := rfl
            rw [er] at e
            have hSi := hS i (by omega)
            first
              | (have g : ρ (8 + 3 * s) = 3 ∧ q_any (q_n ρ) S i = true := by
                   by_cases g : ρ (8 + 3 * s) = 3 ∧ q_any (q_n ρ) S i = true
                   · exact g
                   · rw [if_neg g] at h29; exact absurd rfl h29
                 rw [g.2, Bool.true_or, if_pos ⟨g.1, rfl⟩] at e
                 exact e)
              | (rw [if_neg (fun g => by omega)] at e
                 exact e)
              | (rw [if_pos ⟨by omega, by rw [show decide (q_n ρ (8 + 3 * i) = 3) = true from decide_eq_true (by unfold q_n; omega), hSi.mpr (by omega)]; simp⟩] at e
                 exact e)
              | (have g0 : ¬ (ρ (8 + 3 * s) = 3 ∧ q_any (q_n ρ) S i = true) := by
                   intro g
                   rw [if_pos g] at h29
                   exact absurd (by decide) h29
                 have g1 : q_any (q_n ρ) S i = false := by
                   cases g1 : q_any (q_n ρ) S i
                   · rfl
                   · exact absurd ⟨by omega, g1⟩ g0
                 have g2 : (decide (q_n ρ (8 + 3 * i) = 3) && S.testBit i) = false := by
                   first
                     | (rw [show decide (q_n ρ (8 + 3 * i) = 3) = false from decide_eq_false (by unfold q_n; omega)]; rfl)
                     | (have : S.testBit i = false := by
                          cases g3 : S.testBit i
                          · rfl
                          · have := hSi.mp g3; omega
                        rw [this, Bool.and_false])
                 rw [g1, g2, if_neg (by rintro ⟨-, g4⟩; exact absurd g4 (by decide))] at e
                 exact e)
theorem s_harmByR {l : Launch} {X : ZX} {M : ZM} {ρ : Nat → Int} (hW : zWm M) (hE : ∀ i, i < 421 → M 127 i = ρ i) (hR : wfR ρ) {v : Nat → Int} (hv : ∀ i, i < q_n ρ 2 → M 133 (0 + i) = v i) (hv1 : ∀ i, i < q_n ρ 2 → 0 ≤ v i) (hv2 : ∀ i, i < q_n ρ 2 → v i ≤ 1000) {S : Nat} (hS : ∀ i, i < q_n ρ 2 → (S.testBit i = true ↔ 0 < v i)) {s : Nat} (hs : s < q_n ρ 2) : zCi l X 2 yX12_harmBy tX12_harmBy [zr 124, zr 133, zi 0, zi (s : Int)] M (fun a M' => a = (q_harm (q_n ρ) S s : Int) ∧ M' = M) := by
  have e2 : ρ 2 = (q_n ρ 2 : Int) := hR.n (by decide)
  have b7 := hR.2.1.2.2.1
  have v1 := hv1 s hs
  have v2 := hv2 s hs
  refine zC.of [some (zr 124), some (zr 133), some (zi 0), some (zi (s : Int)), none, none] (by decide +kernel) rfl rfl (Nat.le_of_ble_eq_true rfl) rfl ?_
  refine p_aload_n 1 dX12_harmBy_0 rfl rfl (by decide) ?_
  refine p_iload_n 2 dX12_harmBy_1 rfl rfl ?_
  refine p_iload_n 3 dX12_harmBy_2 rfl rfl ?_
  refine p_iadd 4 dX12_harmBy_3 ?_
  refine p_ialdn 133 5 (0 + s) dX12_harmBy_4 rfl (by omega) (by omega) ?_
  rw [hv s hs]
  refine p_if_le 10 8 dX12_harmBy_5 (by omega) (by omega) (fun h5 => ?_) (fun h5 => ?_)
  · refine p_iconst 11 dX12_harmBy_10 ?_
    refine p_istore 13 dX12_harmBy_11 (Nat.le_of_ble_eq_true rfl) rfl rfl ?_
    dsimp only [List.set]
    refine p_iconst 14 dX12_harmBy_13 ?_
    refine p_istore 16 dX12_harmBy_14 (Nat.le_of_ble_eq_true rfl) rfl rfl ?_
    dsimp only [List.set]
    have hb : ¬ S.testBit s = true := fun hb => absurd ((hS s hs).mp hb) (by omega)
    have e := l_harmByR (l := l) (X := X) hW hE hR hv hv1 hv2 hS hs hb (q_n ρ 2) 0 (Nat.zero_add _)
    have e0 : (if ρ (8 + 3 * s) = 3 ∧ q_any (q_n ρ) S 0 = true then (1 : Int) else 0) = 0 := if_neg (by rintro ⟨-, g⟩; exact Bool.noConfusion g)
    rw [e0] at e
    exact e
  · refine p_iconst 9 dX12_harmBy_8 ?_
    refine p_iret dX12_harmBy_9 rfl ?_
    refine ⟨_, rfl, ?_, rfl⟩
    unfold q_harm
    rw [if_pos ((hS s hs).mpr (by omega))]
    rfl
