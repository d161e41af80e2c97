/-! TENDING -/
theorem q_max_congr {p p' : Nat → Bool} {g g' : Nat → Nat} {b b' n : Nat} (hb : b = b') (hp : ∀ a, a < n → p a = p' a) (hg : ∀ a, a < n → p a = true → g a = g' a) : q_max p g b n = q_max p' g' b' n := by
  induction n with
  | zero => exact hb
  | succ n ih =>
    show (if p n then max (q_max p g b n) (g n) else q_max p g b n) = (if p' n then max (q_max p' g' b' n) (g' n) else q_max p' g' b' n)
    rw [ih (fun a ha => hp a (by omega)) (fun a ha => hg a (by omega)), ← hp n (by omega)]
    by_cases h : p n = true
    · rw [if_pos h, if_pos h, hg n (by omega) h]
    · rw [if_neg h, if_neg h]
theorem q_max_le {p : Nat → Bool} {g : Nat → Nat} {b n K : Nat} (hb : b ≤ K) (hg : ∀ a, a < n → p a = true → g a ≤ K) : q_max p g b n ≤ K := by
  induction n with
  | zero => exact hb
  | succ n ih =>
    show (if p n then max (q_max p g b n) (g n) else q_max p g b n) ≤ K
    have h1 := ih (fun a ha => hg a (by omega))
    by_cases h : p n = true
    · rw [if_pos h]
      have := hg n (by omega) h
      exact Nat.max_le.mpr ⟨h1, this⟩
    · rw [if_neg h]
      exact h1
theorem q_max_base {p : Nat → Bool} {g : Nat → Nat} {b n : Nat} : b ≤ q_max p g b n := by
  induction n with
  | zero => exact Nat.le_refl b
  | succ n ih =>
    show b ≤ (if p n then max (q_max p g b n) (g n) else q_max p g b n)
    split
    · exact Nat.le_trans ih (Nat.le_max_left _ _)
    · exact ih
theorem q_max_ge {p : Nat → Bool} {g : Nat → Nat} {b n a : Nat} (ha : a < n) (hp : p a = true) : g a ≤ q_max p g b n := by
  induction n with
  | zero => omega
  | succ n ih =>
    show g a ≤ (if p n then max (q_max p g b n) (g n) else q_max p g b n)
    by_cases e : a = n
    · subst e
      rw [if_pos hp]
      exact Nat.le_max_right _ _
    · split
      · exact Nat.le_trans (ih (by omega)) (Nat.le_max_left _ _)
      · exact ih (by omega)
theorem q_max_at {p : Nat → Bool} {g : Nat → Nat} {b n : Nat} : q_max p g b n = b ∨ ∃ a, a < n ∧ p a = true ∧ g a = q_max p g b n := by
  induction n with
  | zero => exact Or.inl rfl
  | succ n ih =>
    have e : q_max p g b (n + 1) = (if p n then max (q_max p g b n) (g n) else q_max p g b n) := rfl
    by_cases h : p n = true
    · rw [if_pos h] at e
      by_cases h2 : q_max p g b n ≤ g n
      · rw [Nat.max_eq_right h2] at e
        exact Or.inr ⟨n, by omega, h, e.symm⟩
      · rw [Nat.max_eq_left (by omega)] at e
        rcases ih with ih | ⟨a, h3, h4, h5⟩
        · exact Or.inl (e.trans ih)
        · exact Or.inr ⟨a, by omega, h4, h5.trans e.symm⟩
    · rw [if_neg h] at e
      rcases ih with ih | ⟨a, h3, h4, h5⟩
      · exact Or.inl (e.trans ih)
      · exact Or.inr ⟨a, by omega, h4, h5.trans e.symm⟩
theorem q_max_pos {p : Nat → Bool} {g : Nat → Nat} {b n : Nat} (h : p n = true) : q_max p g b (n + 1) = max (q_max p g b n) (g n) := by
  show (if p n then max (q_max p g b n) (g n) else q_max p g b n) = _
  rw [if_pos h]
theorem q_max_neg {p : Nat → Bool} {g : Nat → Nat} {b n : Nat} (h : ¬ p n = true) : q_max p g b (n + 1) = q_max p g b n := by
  show (if p n then max (q_max p g b n) (g n) else q_max p g b n) = _
  rw [if_neg h]
theorem q_first_congr {p p' : Nat → Bool} {n : Nat} (h : ∀ a, a < n → p a = p' a) : q_first p n = q_first p' n := by
  induction n with
  | zero => rfl
  | succ n ih =>
    show (match q_first p n with
      | some i => some i
      | none => if p n then some n else none) = (match q_first p' n with
      | some i => some i
      | none => if p' n then some n else none)
    rw [ih (fun a ha => h a (by omega)), h n (by omega)]
def q_hd1 (hd : Nat → Nat) (a : Nat) : Nat → Nat := fun b => if b = a then hd a - 1 else hd b
def q_hdw (hd : Nat → Nat) : Option Nat → Nat → Nat
  | some a => q_hd1 hd a
  | none => hd
def q_tv : Option Nat → Nat
  | some a => a + 1
  | none => 0
theorem q_bt_succ (r : Nat → Nat) (m : Nat) (hd : Nat → Nat) : q_bt r (m + 1) hd = q_max (fun a => decide (0 < hd a) && q_reach r a (r 2 - (m + 1))) (fun a => q_wt r (r 2 - (m + 1)) + q_bt r m (q_hd1 hd a)) (q_bt r m hd) (r 3) := rfl
def q_whop (r : Nat → Nat) (m : Nat) (hd : Nat → Nat) : Nat → Bool := fun a => decide (0 < hd a) && q_reach r a (r 2 - (m + 1)) && decide (q_wt r (r 2 - (m + 1)) + q_bt r m (q_hd1 hd a) = q_bt r (m + 1) hd)
theorem q_who_eq (r : Nat → Nat) (m : Nat) (hd : Nat → Nat) : q_who r m hd = q_first (q_whop r m hd) (r 3) := rfl
theorem q_tends_succ (r : Nat → Nat) (m : Nat) (hd : Nat → Nat) (s : Nat) : q_tends r (m + 1) hd s = if s = r 2 - (m + 1) then q_tv (q_who r m hd) else q_tends r m (q_hdw hd (q_who r m hd)) s := by
  show (if s = r 2 - (m + 1) then (match q_who r m hd with
      | some a => a + 1
      | none => 0) else q_tends r m (match q_who r m hd with
      | some a => fun b => if b = a then hd a - 1 else hd b
      | none => hd) s) = _
  cases q_who r m hd with
  | none => rfl
  | some a => rfl
theorem q_hd1_congr {n a : Nat} {hd hd' : Nat → Nat} (h : ∀ b, b < n → hd b = hd' b) (ha : a < n) : ∀ b, b < n → q_hd1 hd a b = q_hd1 hd' a b := by
  intro b hb
  unfold q_hd1
  rw [h a ha, h b hb]
theorem q_bt_congr {r : Nat → Nat} : ∀ (m : Nat) {hd hd' : Nat → Nat}, (∀ b, b < r 3 → hd b = hd' b) → q_bt r m hd = q_bt r m hd' := by
  intro m
  induction m with
  | zero => intro hd hd' _; rfl
  | succ m ih =>
    intro hd hd' h
    rw [q_bt_succ, q_bt_succ]
    refine q_max_congr (ih h) (fun a ha => ?_) (fun a ha _ => ?_)
    · show (decide (0 < hd a) && _) = (decide (0 < hd' a) && _)
      rw [h a ha]
    · show q_wt r _ + q_bt r m (q_hd1 hd a) = q_wt r _ + q_bt r m (q_hd1 hd' a)
      rw [ih (q_hd1_congr h ha)]
theorem q_who_congr {r : Nat → Nat} {m : Nat} {hd hd' : Nat → Nat} (h : ∀ b, b < r 3 → hd b = hd' b) : q_who r m hd = q_who r m hd' := by
  rw [q_who_eq, q_who_eq]
  refine q_first_congr (fun a ha => ?_)
  unfold q_whop
  rw [h a ha, q_bt_congr m (q_hd1_congr h ha), q_bt_congr (m + 1) h]
theorem q_tends_congr {r : Nat → Nat} : ∀ (m : Nat) {hd hd' : Nat → Nat}, (∀ b, b < r 3 → hd b = hd' b) → ∀ s, q_tends r m hd s = q_tends r m hd' s := by
  intro m
  induction m with
  | zero => intro hd hd' _ s; rfl
  | succ m ih =>
    intro hd hd' h s
    rw [q_tends_succ, q_tends_succ, q_who_congr h]
    split
    · rfl
    · refine ih (fun b hb => ?_) s
      cases hq : q_who r m hd' with
      | none => exact h b hb
      | some a =>
        obtain ⟨ha, -, -⟩ := q_first_some hq
        exact q_hd1_congr h ha b hb
theorem q_bt_le {ρ : Nat → Int} (hR : wfR ρ) : ∀ (m : Nat) (hd : Nat → Nat), q_bt (q_n ρ) m hd ≤ 40 * m := by
  have e2 : ρ 2 = (q_n ρ 2 : Int) := hR.n (by decide)
  have b2 := hR.2.1.2.2.1
  intro m
  induction m with
  | zero => intro hd; exact Nat.le_refl 0
  | succ m ih =>
    intro hd
    rw [q_bt_succ]
    refine q_max_le (by have := ih hd; omega) (fun a ha _ => ?_)
    show q_wt (q_n ρ) _ + q_bt (q_n ρ) m (q_hd1 hd a) ≤ _
    have h1 := ih (q_hd1 hd a)
    have h2 := q_wt_le hR (s := q_n ρ 2 - (m + 1)) (by omega)
    omega
theorem q_dg_sub : ∀ st, st < 512 → ∀ a, a < 3 → 0 < q_dg st a → 8 ^ a ≤ st ∧ ∀ b, b < 3 → q_dg (st - 8 ^ a) b = if b = a then q_dg st a - 1 else q_dg st b := by decide +kernel
theorem q_dg_sum {f : Nat → Nat} {n b : Nat} (hn : n ≤ 3) (hf : ∀ a, a < 3 → f a < 8) (hb : b < 3) : q_dg (q_sum (fun a => f a * 8 ^ a) n) b = if b < n then f b else 0 := by
  have h0 := hf 0 (by decide)
  have h1 := hf 1 (by decide)
  have h2 := hf 2 (by decide)
  have hn' : n = 0 ∨ n = 1 ∨ n = 2 ∨ n = 3 := by omega
  have hb' : b = 0 ∨ b = 1 ∨ b = 2 := by omega
  rcases hn' with rfl | rfl | rfl | rfl <;> rcases hb' with rfl | rfl | rfl <;> simp only [q_sum, q_dg] <;> (split <;> omega)
def q_T (ρ : Nat → Int) : Nat := q_sum (fun a => (q_n ρ (29 + 3 * a + 1) + 1) * 8 ^ a) (q_n ρ 3)
theorem q_hand4 {ρ : Nat → Int} (hR : wfR ρ) {a : Nat} (ha : a < 3) : q_n ρ (29 + 3 * a + 1) ≤ 4 := by
  have := (hR.2.2.2.1 a ha).2.1
  unfold q_n
  omega
theorem q_sum3_le {f : Nat → Nat} {n : Nat} (hn : n ≤ 3) (hf : ∀ a, a < 3 → f a ≤ 5) : q_sum (fun a => f a * 8 ^ a) n ≤ 365 := by
  have h0 := hf 0 (by decide)
  have h1 := hf 1 (by decide)
  have h2 := hf 2 (by decide)
  have hn' : n = 0 ∨ n = 1 ∨ n = 2 ∨ n = 3 := by omega
  rcases hn' with rfl | rfl | rfl | rfl <;> simp only [q_sum] <;> omega
theorem q_T_le {ρ : Nat → Int} (hR : wfR ρ) {n : Nat} (hn : n ≤ 3) : q_sum (fun a => (q_n ρ (29 + 3 * a + 1) + 1) * 8 ^ a) n ≤ 365 := q_sum3_le hn (fun a ha => by have := q_hand4 hR ha; omega)
theorem q_sum_mono {f g : Nat → Nat} {n : Nat} (h : ∀ i, i < n → f i ≤ g i) : q_sum f n ≤ q_sum g n := by
  induction n with
  | zero => exact Nat.le_refl _
  | succ n ih =>
    show q_sum f n + f n ≤ q_sum g n + g n
    have h1 := ih (fun i hi => h i (by omega))
    have h2 := h n (by omega)
    omega
theorem q_all_le_T (ρ : Nat → Int) : q_allHands (q_n ρ) ≤ q_T ρ := q_sum_mono (fun a _ => Nat.mul_le_mul_right _ (by omega))
theorem q_dg_all {ρ : Nat → Int} (hR : wfR ρ) : ∀ b, b < q_n ρ 3 → q_hands (q_n ρ) b = q_dg (q_allHands (q_n ρ)) b := by
  have e3 : ρ 3 = (q_n ρ 3 : Int) := hR.n (by decide)
  have b3 := hR.2.1.2.2.2.1
  intro b hb
  unfold q_allHands q_hands
  rw [q_dg_sum (f := fun a => q_n ρ (29 + 3 * a + 1)) (by omega) (fun a ha => by have := q_hand4 hR ha; show q_n ρ _ < 8; omega) (by omega)]
theorem z_dg {st a : Nat} (ha : a < 3) (hs : st < 2147483648) : z_iand (z_ishr (st : Int) (3 * (a : Int))) 7 = (q_dg st a : Int) := by
  have e : (3 * (a : Int)) = ((3 * a : Nat) : Int) := by omega
  rw [e, z_ishr_n st (3 * a) (by omega) hs]
  have h7 : st / 2 ^ (3 * a) < 2147483648 := Nat.lt_of_le_of_lt (Nat.div_le_self _ _) hs
  have h := z_iand_n (st / 2 ^ (3 * a)) 7 h7 (by decide)
  refine h.trans ?_
  unfold q_dg
  rw [show (7 : Nat) = 2 ^ 3 - 1 from rfl, Nat.and_two_pow_sub_one_eq_mod, Nat.pow_mul]
theorem q_dg_lt (st a : Nat) : q_dg st a < 8 := Nat.mod_lt _ (by decide)
theorem isC.tt2 {c : Nat} (h : isC c) : zTT[c]? = some (.inl 0) ∧ zTT[c + 1]? = some (.inl 8) ∧ zTT[c + 6]? = some (.inl 2) ∧ zTT[c + 9]? = some (.inr (0, 3)) := by
  rcases h with rfl | rfl <;> exact ⟨rfl, rfl, rfl, rfl⟩
theorem isC.wire2 {c : Nat} (h : isC c) {M : ZM} (hW : zWc M) : M c 3 = ((c + 1 : Nat) : Int) ∧ M c 4 = ((c + 6 : Nat) : Int) ∧ M (c + 6) 3 = ((c + 9 : Nat) : Int) := by
  rcases h with rfl | rfl
  · exact ⟨hW (2, 3, 3) (by decide +kernel), hW (2, 4, 8) (by decide +kernel), hW (8, 3, 11) (by decide +kernel)⟩
  · exact ⟨hW (25, 3, 26) (by decide +kernel), hW (25, 4, 31) (by decide +kernel), hW (31, 3, 34) (by decide +kernel)⟩
theorem s_reaches_c {l : Launch} {X : ZX} {M : ZM} {c : Nat} (hc : isC c) {ρ : Nat → Int} {h : Int} (hW : zWc M) (hC : ICc ρ h c M) (hR : wfR ρ) {a s : Nat} (ha : (a : Int) < ρ 3) (hs : (s : Int) < ρ 2) : zCi l X 1 yX0_reaches tX0_reaches [zr (c : Int), zi (a : Int), zi (s : Int)] M (fun x M' => x = (if q_reach (q_n ρ) a s = true then 1 else 0) ∧ M' = M) := by
  rcases hc with rfl | rfl
  · exact s_reaches_2 hW hC hR ha hs
  · exact s_reaches_25 hW hC hR ha hs
theorem s_weight_c {l : Launch} {X : ZX} {M : ZM} {c : Nat} (hc : isC c) {ρ : Nat → Int} {h : Int} (hW : zWc M) (hC : ICc ρ h c M) (hR : wfR ρ) {s : Nat} (hs : (s : Int) < ρ 2) : zCi l X 0 yX8_weight tX8_weight [zr ((c + 1 : Nat) : Int), zi (s : Int)] M (fun a M' => a = (q_wt (q_n ρ) s : Int) ∧ M' = M) := by
  rcases hc with rfl | rfl
  · exact s_weight_2 hW hC hR hs
  · exact s_weight_25 hW hC hR hs
theorem s_canTake {l : Launch} {X : ZX} {M : ZM} {c : Nat} (hc : isC c) {ρ : Nat → Int} {h : Int} (hW : zWc M) (hC : ICc ρ h c M) (hR : wfR ρ) {u s st : Nat} (ha : (u : Int) < ρ 3) (hs : (s : Int) < ρ 2) (hst : st < 2147483648) : zCi l X 2 yX9_canTake tX9_canTake [zr (c : Int), zi (u : Int), zi (s : Int), zi (st : Int)] M (fun a M' => a = (if (decide (0 < q_dg st u) && q_reach (q_n ρ) u s) = true then 1 else 0) ∧ M' = M) := by
  have e2 : ρ 2 = (q_n ρ 2 : Int) := hR.n (by decide)
  have b2 := hR.2.1.2.2.1
  have e3 : ρ 3 = (q_n ρ 3 : Int) := hR.n (by decide)
  have b3 := hR.2.1.2.2.2.1
  have hcl := hc.lt
  refine zC.of [some (zr (c : Int)), some (zi (u : Int)), some (zi (s : Int)), some (zi (st : Int))] (by decide +kernel) rfl rfl (Nat.le_of_ble_eq_true rfl) rfl ?_
  refine p_iload_n 1 dX9_canTake_0 rfl rfl ?_
  refine p_iconst 2 dX9_canTake_1 ?_
  refine p_iload_n 3 dX9_canTake_2 rfl rfl ?_
  refine p_imul 4 dX9_canTake_3 ?_
  refine p_ishr 5 dX9_canTake_4 ?_
  refine p_bipush 7 dX9_canTake_5 rfl ?_
  refine p_iand 8 dX9_canTake_7 ?_
  rw [z_dg (by omega) hst]
  refine p_if_le 24 11 dX9_canTake_8 (by omega) (by have := q_dg_lt st u; omega) (fun h8 => ?_) (fun h8 => ?_)
  · refine p_iconst 25 dX9_canTake_24 ?_
    refine p_zret dX9_canTake_25 rfl (by decide) ?_
    refine ⟨_, rfl, ?_, rfl⟩
    first | (rw [if_neg (by rw [decide_eq_false (by omega)]; simp)]; done) | (rw [if_neg (by rw [Bool.eq_false_iff.mpr hr, Bool.and_false]; decide)]; done) | (rw [if_pos (by rw [decide_eq_true (by omega), hr]; rfl)]; done)
  · refine p_aload_n 12 dX9_canTake_11 rfl rfl (by omega) ?_
    refine p_iload_n 13 dX9_canTake_12 rfl rfl ?_
    refine p_iload_n 14 dX9_canTake_13 rfl rfl ?_
    refine p_callV2i (c) 17 dX9_canTake_14 (s_reaches_c hc hW hC hR ha hs) lk_X9_72 mX0_reaches hc.tt2.1 rfl (by decide) (Nat.le_of_ble_eq_true rfl) ?_
    rintro _ _ ⟨rfl, e9⟩
    have e9 := e9.symm
    subst e9
    refine p_if_eq 24 20 dX9_canTake_17 (by split <;> omega) (by split <;> omega) (fun h17 => ?_) (fun h17 => ?_)
    · have hr := if_eq0 h17
      refine p_iconst 25 dX9_canTake_24 ?_
      refine p_zret dX9_canTake_25 rfl (by decide) ?_
      refine ⟨_, rfl, ?_, rfl⟩
      first | (rw [if_neg (by rw [decide_eq_false (by omega)]; simp)]; done) | (rw [if_neg (by rw [Bool.eq_false_iff.mpr hr, Bool.and_false]; decide)]; done) | (rw [if_pos (by rw [decide_eq_true (by omega), hr]; rfl)]; done)
    · have hr := if_neq0 h17
      refine p_iconst 21 dX9_canTake_20 ?_
      refine p_goto 25 dX9_canTake_21 ?_
      refine p_zret dX9_canTake_25 rfl (by decide) ?_
      refine ⟨_, rfl, ?_, rfl⟩
      first | (rw [if_neg (by rw [decide_eq_false (by omega)]; simp)]; done) | (rw [if_neg (by rw [Bool.eq_false_iff.mpr hr, Bool.and_false]; decide)]; done) | (rw [if_pos (by rw [decide_eq_true (by omega), hr]; rfl)]; done)
theorem s_tendedFor {l : Launch} {X : ZX} {M : ZM} {c : Nat} (hc : isC c) {ρ : Nat → Int} {h : Int} (hW : zWc M) (hC : ICc ρ h c M) (hR : wfR ρ) {a s st m p : Nat} (ha : (a : Int) < ρ 3) (hm : s + (m + 1) = q_n ρ 2) (hst : st ≤ q_T ρ) (hp : 8 ^ a = p) (h8 : p ≤ st) (hk : M 114 ((s + 1) * 366 + (st - p)) = (q_bt (q_n ρ) m (q_dg (st - p)) : Int)) : zCi l X 1 yX9_tendedFor tX9_tendedFor [zr 112, zr (c : Int), zi (a : Int), zi (s : Int), zi (st : Int)] M (fun a M' => a = ((q_wt (q_n ρ) s + q_bt (q_n ρ) m (q_dg (st - p)) : Nat) : Int) ∧ M' = M) := by
  have e2 : ρ 2 = (q_n ρ 2 : Int) := hR.n (by decide)
  have b2 := hR.2.1.2.2.1
  have e3 : ρ 3 = (q_n ρ 3 : Int) := hR.n (by decide)
  have b3 := hR.2.1.2.2.2.1
  have hcl := hc.lt
  have hT := q_T_le hR (n := q_n ρ 3) (by omega)
  change q_T ρ ≤ 365 at hT
  refine zC.of [some (zr 112), some (zr (c : Int)), some (zi (a : Int)), some (zi (s : Int)), some (zi (st : Int))] (by decide +kernel) rfl rfl (Nat.le_of_ble_eq_true rfl) rfl ?_
  refine p_aload_n 1 dX9_tendedFor_0 rfl rfl (by omega) ?_
  refine p_getR (c) 4 dX9_tendedFor_1 fX9_44 hc.tt2.1 (hc.wire2 hW).1 ?_
  refine p_iload_n 5 dX9_tendedFor_4 rfl rfl ?_
  refine p_callV1i (c + 1) 8 dX9_tendedFor_5 (s_weight_c hc hW hC hR (s := s) (by omega)) lk_X9_76 mX8_weight hc.tt2.2.1 rfl (by decide) (Nat.le_of_ble_eq_true rfl) ?_
  rintro _ _ ⟨rfl, e9⟩
  have e9 := e9.symm
  subst e9
  refine p_aload_n 9 dX9_tendedFor_8 rfl rfl (by decide) ?_
  refine p_getR 112 12 dX9_tendedFor_9 fX9_15 rfl (hW (112, 4, 114) (by decide)) ?_
  refine p_iload_n 13 dX9_tendedFor_12 rfl rfl ?_
  refine p_iconst 14 dX9_tendedFor_13 ?_
  refine p_iadd 15 dX9_tendedFor_14 ?_
  refine p_sipush 18 dX9_tendedFor_15 rfl ?_
  refine p_imul 19 dX9_tendedFor_18 ?_
  refine p_iload 21 dX9_tendedFor_19 rfl ?_
  refine p_iadd 22 dX9_tendedFor_21 ?_
  refine p_iload_n 23 dX9_tendedFor_22 rfl rfl ?_
  refine p_iconst 24 dX9_tendedFor_23 ?_
  refine p_callN2i 27 dX9_tendedFor_24 (s_handsAt (i := a) (v := 1) (by omega) (by decide)) ln_X9_40 mX11_handsAt (by decide) (Nat.le_of_ble_eq_true rfl) ?_
  rintro _ _ ⟨rfl, e9⟩
  have e9 := e9.symm
  subst e9
  rw [Nat.one_mul, hp]
  refine p_isub 28 dX9_tendedFor_27 ?_
  refine p_ialdn 114 29 ((s + 1) * 366 + (st - p)) dX9_tendedFor_28 rfl (by omega) (by omega) ?_
  rw [hk]
  refine p_iadd 30 dX9_tendedFor_29 ?_
  refine p_iret dX9_tendedFor_30 rfl ?_
  exact ⟨_, rfl, rfl, rfl⟩
theorem q_bt_sub {ρ : Nat → Int} {m a st : Nat} (h3 : q_n ρ 3 ≤ 3) (ha : a < q_n ρ 3) (hst : st < 512) (h0 : 0 < q_dg st a) : 8 ^ a ≤ st ∧ (∀ b, b < q_n ρ 3 → q_dg (st - 8 ^ a) b = q_hd1 (q_dg st) a b) ∧ q_bt (q_n ρ) m (q_dg (st - 8 ^ a)) = q_bt (q_n ρ) m (q_hd1 (q_dg st) a) := by
  obtain ⟨h1, h2⟩ := q_dg_sub st hst a (by omega) h0
  have h3 : ∀ b, b < q_n ρ 3 → q_dg (st - 8 ^ a) b = q_hd1 (q_dg st) a b := fun b hb => h2 b (by omega)
  exact ⟨h1, h3, q_bt_congr m h3⟩
theorem l_bestOf {l : Launch} {X : ZX} {M : ZM} {c : Nat} (hc : isC c) {ρ : Nat → Int} {h : Int} (hW : zWc M) (hC : ICc ρ h c M) (hR : wfR ρ) {s st m : Nat} (hm : s + (m + 1) = q_n ρ 2) (hst : st ≤ q_T ρ) (hB : ∀ x, x ≤ q_T ρ → M 114 ((s + 1) * 366 + x) = (q_bt (q_n ρ) m (q_dg x) : Int)) : ∀ (j i : Nat), i + j = q_n ρ 3 → zP l X 3 tX9_bestOf 19 [some (zr 112), some (zr (c : Int)), some (zi (s : Int)), some (zi (st : Int)), some (zi ((q_max (fun a => decide (0 < q_dg st a) && q_reach (q_n ρ) a (q_n ρ 2 - (m + 1))) (fun a => q_wt (q_n ρ) (q_n ρ 2 - (m + 1)) + q_bt (q_n ρ) m (q_hd1 (q_dg st) a)) (q_bt (q_n ρ) m (q_dg st)) i) : Int)), some (zi (i : Int))] [] M (fun r M' => ∃ a, r = some (zi a) ∧ (a = (q_bt (q_n ρ) (m + 1) (q_dg st) : Int) ∧ M' = M)) := by
  have e2 : ρ 2 = (q_n ρ 2 : Int) := hR.n (by decide)
  have b2 := hR.2.1.2.2.1
  have e3 : ρ 3 = (q_n ρ 3 : Int) := hR.n (by decide)
  have b3 := hR.2.1.2.2.2.1
  have hcl := hc.lt
  have hT := q_T_le hR (n := q_n ρ 3) (by omega)
  change q_T ρ ≤ 365 at hT
  have hse : s = q_n ρ 2 - (m + 1) := by omega
  intro j
  induction j with
  | zero =>
    intro i hi
    refine p_iload 21 dX9_bestOf_19 rfl ?_
    refine p_aload_n 22 dX9_bestOf_21 rfl rfl (by omega) ?_
    refine p_getR (c) 25 dX9_bestOf_22 fX9_26 hc.tt2.1 (hc.wire2 hW).2.1 ?_
    refine p_getI (c + 6) 28 dX9_bestOf_25 fX9_32 hc.tt2.2.2.1 ?_
    rw [hC.1.2.2.2.2.1]
    refine p_icmp_ge 64 31 dX9_bestOf_28 (by omega) (by omega) (by omega) (by omega) (fun h28 => ?_) (fun h28 => absurd (by omega) (fun h9 : False => h9))
    refine p_iload 66 dX9_bestOf_64 rfl ?_
    refine p_iret dX9_bestOf_66 rfl ?_
    rw [Nat.add_zero] at hi
    subst hi
    exact ⟨_, rfl, rfl, rfl⟩
  | succ j ih =>
    intro i hi
    have hmx : (q_max (fun a => decide (0 < q_dg st a) && q_reach (q_n ρ) a (q_n ρ 2 - (m + 1))) (fun a => q_wt (q_n ρ) (q_n ρ 2 - (m + 1)) + q_bt (q_n ρ) m (q_hd1 (q_dg st) a)) (q_bt (q_n ρ) m (q_dg st)) i) ≤ 40 * (m + 1) := by
      refine q_max_le (by have := q_bt_le hR m (q_dg st); omega) (fun a ha _ => ?_)
      show q_wt (q_n ρ) _ + q_bt (q_n ρ) m (q_hd1 (q_dg st) a) ≤ _
      have h1 := q_bt_le hR m (q_hd1 (q_dg st) a)
      have h2 := q_wt_le hR (s := q_n ρ 2 - (m + 1)) (by omega)
      omega
    refine p_iload 21 dX9_bestOf_19 rfl ?_
    refine p_aload_n 22 dX9_bestOf_21 rfl rfl (by omega) ?_
    refine p_getR (c) 25 dX9_bestOf_22 fX9_26 hc.tt2.1 (hc.wire2 hW).2.1 ?_
    refine p_getI (c + 6) 28 dX9_bestOf_25 fX9_32 hc.tt2.2.2.1 ?_
    rw [hC.1.2.2.2.2.1]
    refine p_icmp_ge 64 31 dX9_bestOf_28 (by omega) (by omega) (by omega) (by omega) (fun h28 => absurd (by omega) (fun h9 : False => h9)) (fun h28 => ?_)
    refine p_aload_n 32 dX9_bestOf_31 rfl rfl (by omega) ?_
    refine p_iload 34 dX9_bestOf_32 rfl ?_
    refine p_iload_n 35 dX9_bestOf_34 rfl rfl ?_
    refine p_iload_n 36 dX9_bestOf_35 rfl rfl ?_
    refine p_callS4i 39 dX9_bestOf_36 (s_canTake hc hW hC hR (u := i) (s := s) (st := st) (by omega) (by omega) (by omega)) lk_X9_59 mX9_canTake (by decide) (Nat.le_of_ble_eq_true rfl) ?_
    rintro _ _ ⟨rfl, e9⟩
    have e9 := e9.symm
    subst e9
    refine p_if_eq 58 42 dX9_bestOf_39 (by split <;> omega) (by split <;> omega) (fun h39 => ?_) (fun h39 => ?_)
    · have hn : ¬ (decide (0 < q_dg st i) && q_reach (q_n ρ) i s) = true := if_eq0 h39
      rw [hse] at hn
      refine p_iinc 61 dX9_bestOf_58 rfl rfl rfl ?_
      dsimp only [List.set]
      refine p_goto 19 dX9_bestOf_61 ?_
      first
        | (have e := ih (i + 1) (by omega)
           rw [q_max_neg hn] at e
           exact e)
        | (have e := ih (i + 1) (by omega)
           rw [q_max_pos hy, ← hse] at e
           rw [← hse]
           have em : ((max (q_max (fun a => decide (0 < q_dg st a) && q_reach (q_n ρ) a s) (fun a => q_wt (q_n ρ) s + q_bt (q_n ρ) m (q_hd1 (q_dg st) a)) (q_bt (q_n ρ) m (q_dg st)) i) (q_wt (q_n ρ) s + q_bt (q_n ρ) m (q_hd1 (q_dg st) i)) : Nat) : Int) = if ((q_max (fun a => decide (0 < q_dg st a) && q_reach (q_n ρ) a s) (fun a => q_wt (q_n ρ) s + q_bt (q_n ρ) m (q_hd1 (q_dg st) a)) (q_bt (q_n ρ) m (q_dg st)) i : Nat) : Int) < ((q_wt (q_n ρ) s + q_bt (q_n ρ) m (q_hd1 (q_dg st) i) : Nat) : Int) then ((q_wt (q_n ρ) s + q_bt (q_n ρ) m (q_hd1 (q_dg st) i) : Nat) : Int) else ((q_max (fun a => decide (0 < q_dg st a) && q_reach (q_n ρ) a s) (fun a => q_wt (q_n ρ) s + q_bt (q_n ρ) m (q_hd1 (q_dg st) a)) (q_bt (q_n ρ) m (q_dg st)) i : Nat) : Int) := by
             split <;> omega
           rw [em] at e
           exact e)
    · have hy : (decide (0 < q_dg st i) && q_reach (q_n ρ) i s) = true := if_neq0 h39
      have hy0 : 0 < q_dg st i := by
        rw [Bool.and_eq_true, decide_eq_true_eq] at hy
        exact hy.1
      obtain ⟨hq8, -, hq3⟩ := q_bt_sub (ρ := ρ) (m := m) (a := i) (st := st) (by omega) (by omega) (by omega) hy0
      rw [hse] at hy
      have hbl := q_bt_le hR m (q_hd1 (q_dg st) i)
      have hwl := q_wt_le hR (s := s) (by omega)
      refine p_iload 44 dX9_bestOf_42 rfl ?_
      refine p_aload_n 45 dX9_bestOf_44 rfl rfl (by decide) ?_
      refine p_aload_n 46 dX9_bestOf_45 rfl rfl (by omega) ?_
      refine p_iload 48 dX9_bestOf_46 rfl ?_
      refine p_iload_n 49 dX9_bestOf_48 rfl rfl ?_
      refine p_iload_n 50 dX9_bestOf_49 rfl rfl ?_
      refine p_callV4i 112 53 dX9_bestOf_50 (s_tendedFor hc hW hC hR (a := i) (s := s) (st := st) (m := m) (p := 8 ^ i) (by omega) hm hst rfl hq8 (hB _ (Nat.le_trans (Nat.sub_le _ _) hst))) lk_X9_63 mX9_tendedFor rfl rfl (by decide) (Nat.le_of_ble_eq_true rfl) ?_
      rintro _ _ ⟨rfl, e9⟩
      have e9 := e9.symm
      subst e9
      rw [hq3]
      refine p_mmax 56 dX9_bestOf_53 lk_X9_67 (by decide) (Nat.le_of_ble_eq_true rfl) (by omega) (by omega) (by omega) (by omega) ?_
      refine p_istore 58 dX9_bestOf_56 (Nat.le_of_ble_eq_true rfl) rfl rfl ?_
      dsimp only [List.set]
      refine p_iinc 61 dX9_bestOf_58 rfl rfl rfl ?_
      dsimp only [List.set]
      refine p_goto 19 dX9_bestOf_61 ?_
      first
        | (have e := ih (i + 1) (by omega)
           rw [q_max_neg hn] at e
           exact e)
        | (have e := ih (i + 1) (by omega)
           rw [q_max_pos hy, ← hse] at e
           rw [← hse]
           have em : ((max (q_max (fun a => decide (0 < q_dg st a) && q_reach (q_n ρ) a s) (fun a => q_wt (q_n ρ) s + q_bt (q_n ρ) m (q_hd1 (q_dg st) a)) (q_bt (q_n ρ) m (q_dg st)) i) (q_wt (q_n ρ) s + q_bt (q_n ρ) m (q_hd1 (q_dg st) i)) : Nat) : Int) = if ((q_max (fun a => decide (0 < q_dg st a) && q_reach (q_n ρ) a s) (fun a => q_wt (q_n ρ) s + q_bt (q_n ρ) m (q_hd1 (q_dg st) a)) (q_bt (q_n ρ) m (q_dg st)) i : Nat) : Int) < ((q_wt (q_n ρ) s + q_bt (q_n ρ) m (q_hd1 (q_dg st) i) : Nat) : Int) then ((q_wt (q_n ρ) s + q_bt (q_n ρ) m (q_hd1 (q_dg st) i) : Nat) : Int) else ((q_max (fun a => decide (0 < q_dg st a) && q_reach (q_n ρ) a s) (fun a => q_wt (q_n ρ) s + q_bt (q_n ρ) m (q_hd1 (q_dg st) a)) (q_bt (q_n ρ) m (q_dg st)) i : Nat) : Int) := by
             split <;> omega
           rw [em] at e
           exact e)
theorem s_bestOf {l : Launch} {X : ZX} {M : ZM} {c : Nat} (hc : isC c) {ρ : Nat → Int} {h : Int} (hW : zWc M) (hC : ICc ρ h c M) (hR : wfR ρ) {s st m : Nat} (hm : s + (m + 1) = q_n ρ 2) (hst : st ≤ q_T ρ) (hB : ∀ x, x ≤ q_T ρ → M 114 ((s + 1) * 366 + x) = (q_bt (q_n ρ) m (q_dg x) : Int)) : zCi l X 3 yX9_bestOf tX9_bestOf [zr 112, zr (c : Int), zi (s : Int), zi (st : Int)] M (fun a M' => a = (q_bt (q_n ρ) (m + 1) (q_dg st) : Int) ∧ M' = M) := by
  have e2 : ρ 2 = (q_n ρ 2 : Int) := hR.n (by decide)
  have b2 := hR.2.1.2.2.1
  have e3 : ρ 3 = (q_n ρ 3 : Int) := hR.n (by decide)
  have b3 := hR.2.1.2.2.2.1
  have hcl := hc.lt
  have hT := q_T_le hR (n := q_n ρ 3) (by omega)
  change q_T ρ ≤ 365 at hT
  refine zC.of [some (zr 112), some (zr (c : Int)), some (zi (s : Int)), some (zi (st : Int)), none, none] (by decide +kernel) rfl rfl (Nat.le_of_ble_eq_true rfl) rfl ?_
  refine p_aload_n 1 dX9_bestOf_0 rfl rfl (by decide) ?_
  refine p_getR 112 4 dX9_bestOf_1 fX9_15 rfl (hW (112, 4, 114) (by decide)) ?_
  refine p_iload_n 5 dX9_bestOf_4 rfl rfl ?_
  refine p_iconst 6 dX9_bestOf_5 ?_
  refine p_iadd 7 dX9_bestOf_6 ?_
  refine p_sipush 10 dX9_bestOf_7 rfl ?_
  refine p_imul 11 dX9_bestOf_10 ?_
  refine p_iload_n 12 dX9_bestOf_11 rfl rfl ?_
  refine p_iadd 13 dX9_bestOf_12 ?_
  refine p_ialdn 114 14 ((s + 1) * 366 + st) dX9_bestOf_13 rfl (by omega) (by omega) ?_
  rw [hB st hst]
  refine p_istore 16 dX9_bestOf_14 (Nat.le_of_ble_eq_true rfl) rfl rfl ?_
  dsimp only [List.set]
  refine p_iconst 17 dX9_bestOf_16 ?_
  refine p_istore 19 dX9_bestOf_17 (Nat.le_of_ble_eq_true rfl) rfl rfl ?_
  dsimp only [List.set]
  exact l_bestOf hc hW hC hR hm hst hB (q_n ρ 3) 0 (Nat.zero_add _)
theorem s_greatest {l : Launch} {X : ZX} {M : ZM} (hW : zWc M) {st : Nat} (hst : st ≤ 365) : zCi l X 0 yX9_greatest tX9_greatest [zr 112, zi (st : Int)] M (fun a M' => a = M 114 st ∧ M' = M) := by
  refine zC.of [some (zr 112), some (zi (st : Int))] (by decide +kernel) rfl rfl (Nat.le_of_ble_eq_true rfl) rfl ?_
  refine p_aload_n 1 dX9_greatest_0 rfl rfl (by decide) ?_
  refine p_getR 112 4 dX9_greatest_1 fX9_15 rfl (hW (112, 4, 114) (by decide)) ?_
  refine p_iload_n 5 dX9_greatest_4 rfl rfl ?_
  refine p_ialdn 114 6 (st) dX9_greatest_5 rfl (by omega) (by omega) ?_
  refine p_iret dX9_greatest_6 rfl ?_
  exact ⟨_, rfl, rfl, rfl⟩
