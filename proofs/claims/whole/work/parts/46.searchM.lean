/-! SEARCH, the model's -/
theorem q_abK2_lt {r : Nat → Nat} {n : Nat} (hr : ∀ k, k < n → r (38 + 3 * k + 2) < 2 ^ n) {S : Nat} (hS : S < 2 ^ n) : ∀ k, q_abK r S k < 2 ^ n := by
  intro k
  induction k with
  | zero => exact hS
  | succ k ih =>
    show q_abS r (q_abK r S k) k < 2 ^ n
    unfold q_abS
    split
    · rename_i hb
      exact Nat.or_lt_two_pow ih (hr k (testBit_lt ih hb))
    · exact ih
theorem q_ab_lt2 {r : Nat → Nat} {n : Nat} (hr : ∀ k, k < n → r (38 + 3 * k + 2) < 2 ^ n) {w : Nat} (hw : w < n) : q_ab r w < 2 ^ n := by
  have h : ∀ m, q_abN r (r (38 + 3 * w + 2)) m < 2 ^ n := by
    intro m
    induction m with
    | zero => exact hr w hw
    | succ m ih => exact q_abK2_lt hr ih 7
  exact h 7
theorem wfR1.ab {ρ : Nat → Int} (hR : wfR ρ) (h : wfR1 ρ) {w : Nat} (hw : w < q_n ρ 4) : q_ab (q_n ρ) w < 2 ^ q_n ρ 4 := by
  have e4 : ρ 4 = (q_n ρ 4 : Int) := hR.n (by decide)
  refine q_ab_lt2 (fun k hk => ?_) hw
  have h1 := (h.2.2.2.2.1 k (by omega)).2.2
  have h2 : (0 : Int) ≤ ρ (38 + 3 * k + 2) := hR.1 _ (by have := hR.2.1.2.2.2.2.1; omega)
  have h3 : ((q_n ρ (38 + 3 * k + 2) : Nat) : Int) < ((2 ^ (ρ 4).toNat : Nat) : Int) := by
    have e : ((q_n ρ (38 + 3 * k + 2) : Nat) : Int) = ρ (38 + 3 * k + 2) := by unfold q_n; omega
    rw [e]
    have e5 : ((2 ^ (ρ 4).toNat : Nat) : Int) = 2 ^ (ρ 4).toNat := by rw [Int.natCast_pow]; rfl
    rw [e5]
    exact h1
  exact Int.ofNat_lt.mp h3
theorem wfR1.ex {ρ : Nat → Int} (h : wfR1 ρ) : ∀ S, S ≠ 0 → S < 2 ^ q_n ρ 4 → ∃ w, w < q_n ρ 4 ∧ q_can (q_n ρ) S w = true := h.2.2.2.2.2.2.2
theorem q_unb {n D : Nat} (hn : n ≤ 7) (i : Nat) : (q_un n D).testBit i = (decide (i < n) && !(D.testBit i)) := by
  unfold q_un
  rw [Nat.testBit_and, Nat.testBit_xor, Nat.testBit_two_pow_sub_one, show (2147483647 : Nat) = 2 ^ 31 - 1 from rfl, Nat.testBit_two_pow_sub_one]
  by_cases h : i < n
  · simp [h, show i < 31 by omega]
  · simp [h]
theorem q_un_or {n D w : Nat} (hn : n ≤ 7) : q_un n (D ||| 2 ^ w) = q_del (q_un n D) w := by
  apply Nat.eq_of_testBit_eq
  intro i
  have hl := q_un_lt n D
  have hp := p7 hn
  rw [q_unb hn, q_del_bit (by omega), q_unb hn, Nat.testBit_or, Nat.testBit_two_pow]
  by_cases e : w = i
  · simp [e]
  · simp [e, show ¬ i = w from fun h => e h.symm]
theorem and_zero_iff {a b : Nat} : a &&& b = 0 ↔ ∀ i, (a.testBit i && b.testBit i) = false := by
  constructor
  · intro h i
    rw [← Nat.testBit_and, h, Nat.zero_testBit]
  · intro h
    apply Nat.eq_of_testBit_eq
    intro i
    rw [Nat.testBit_and, h i, Nat.zero_testBit]
/-- what may be said now is what may be the first of what isn't said -/
theorem q_can_un {r : Nat → Nat} {n D w : Nat} (hn : n ≤ 7) (hw : w < n) (ha : q_ab r w < 2 ^ n) : q_can r (q_un n D) w = (!(D.testBit w) && decide (q_ab r w &&& (2147483647 ^^^ D) = 0)) := by
  unfold q_can
  rw [q_unb hn, decide_eq_true hw, Bool.true_and]
  congr 1
  apply decide_eq_decide.mpr
  rw [and_zero_iff, and_zero_iff]
  have key : ∀ i, ((q_ab r w).testBit i && (q_un n D).testBit i) = ((q_ab r w).testBit i && (2147483647 ^^^ D).testBit i) := by
    intro i
    by_cases hi : i < n
    · rw [q_unb hn, Nat.testBit_xor, show (2147483647 : Nat) = 2 ^ 31 - 1 from rfl, Nat.testBit_two_pow_sub_one]
      simp [hi, show i < 31 by omega]
    · have : q_ab r w < 2 ^ i := Nat.lt_of_lt_of_le ha (Nat.pow_le_pow_right (by decide) (by omega))
      rw [Nat.testBit_lt_two_pow this]
      rfl
  constructor
  · intro h i; rw [← key]; exact h i
  · intro h i; rw [key]; exact h i
theorem q_rem_shift {r : Nat → Nat} {S w : Nat} (h : q_firstW r S = some w) : ∀ i, q_rem r S (i + 1) = q_rem r (q_del S w) i := by
  intro i
  induction i with
  | zero =>
    show q_del (q_rem r S 0) ((q_firstW r (q_rem r S 0)).getD 7) = q_del S w
    show q_del S ((q_firstW r S).getD 7) = _
    rw [h]
    rfl
  | succ i ih =>
    show q_del (q_rem r S (i + 1)) ((q_firstW r (q_rem r S (i + 1))).getD 7) = q_del (q_rem r (q_del S w) i) ((q_firstW r (q_rem r (q_del S w) i)).getD 7)
    rw [ih]
theorem q_seq_shift {r : Nat → Nat} {S w : Nat} (h : q_firstW r S = some w) (i : Nat) : q_seq r S (i + 1) = q_seq r (q_del S w) i := by
  unfold q_seq
  rw [q_rem_shift h]
def q_tot (ρ : Nat → Int) (S m s : Nat) : Nat := s + m * q_odds (q_n ρ) S + q_cost (q_n ρ) 7 S
def TRs (ρ : Nat → Int) (k S m s : Nat) (M M' : ZM) : Prop :=
  (∀ a, a ≠ 124 → a ≠ 135 → a ≠ 136 → M' a = M a) ∧ (∀ b, b ≠ 28 → b ≠ 29 → M' 124 b = M 124 b) ∧ (∀ b, b < k → M' 135 b = M 135 b) ∧ M' 124 29 = M 124 29 + (q_rows (q_n ρ) 7 S : Int) ∧
  ((q_tot ρ S m s : Int) < M 124 28 → M' 124 28 = (q_tot ρ S m s : Int) ∧ (∀ x, x < k → M' 136 x = M 135 x) ∧ ∀ x, x < q_c7 S → M' 136 (k + x) = (q_seq (q_n ρ) S x : Int)) ∧
  (¬ (q_tot ρ S m s : Int) < M 124 28 → M' 124 28 = M 124 28 ∧ ∀ x, x < 7 → M' 136 x = M 136 x)
def q_rsum (ρ : Nat → Int) (S i : Nat) : Nat := q_sum (fun w => if q_can (q_n ρ) S w then q_rows (q_n ρ) 7 (q_del S w) else 0) i
def LPs (ρ : Nat → Int) (k S m s : Nat) (M N : ZM) (i : Nat) (g : Int) : Prop :=
  (∀ a, a ≠ 124 → a ≠ 135 → a ≠ 136 → N a = M a) ∧ (∀ b, b ≠ 28 → b ≠ 29 → N 124 b = M 124 b) ∧ (∀ b, b < k → N 135 b = M 135 b) ∧ N 124 29 = M 124 29 + (q_rsum ρ S i : Int) ∧
  ((q_min (q_can (q_n ρ) S) (q_cf (q_n ρ) S) i = none ∧ g = 0 ∧ N 124 28 = M 124 28 ∧ ∀ x, x < 7 → N 136 x = M 136 x) ∨
   ∃ b, q_min (q_can (q_n ρ) S) (q_cf (q_n ρ) S) i = some b ∧ g = 1 ∧
    (((s + m * q_odds (q_n ρ) S + b : Nat) : Int) < M 124 28 → N 124 28 = ((s + m * q_odds (q_n ρ) S + b : Nat) : Int) ∧ (∀ x, x < k → N 136 x = M 135 x) ∧ ∃ w, w < i ∧ q_can (q_n ρ) S w = true ∧ q_cf (q_n ρ) S w = b ∧ (∀ v, v < w → q_can (q_n ρ) S v = true → b < q_cf (q_n ρ) S v) ∧ N 136 k = (w : Int) ∧ ∀ x, x < q_c7 (q_del S w) → N 136 (k + 1 + x) = (q_seq (q_n ρ) (q_del S w) x : Int)) ∧
    (¬ ((s + m * q_odds (q_n ρ) S + b : Nat) : Int) < M 124 28 → N 124 28 = M 124 28 ∧ ∀ x, x < 7 → N 136 x = M 136 x))
theorem LPs.start {ρ : Nat → Int} {k S m s : Nat} {M : ZM} : LPs ρ k S m s M M 0 0 := ⟨fun _ _ _ _ => rfl, fun _ _ _ => rfl, fun _ _ => rfl, (Int.add_zero _).symm, Or.inl ⟨rfl, rfl, rfl, fun _ _ => rfl⟩⟩
theorem LPs.skip {ρ : Nat → Int} {k S m s i : Nat} {M N : ZM} {g : Int} (h : LPs ρ k S m s M N i g) (hn : ¬ q_can (q_n ρ) S i = true) : LPs ρ k S m s M N (i + 1) g := by
  obtain ⟨h1, h2, h3, h4, h5⟩ := h
  have er : q_rsum ρ S (i + 1) = q_rsum ρ S i := by
    show q_rsum ρ S i + (if q_can (q_n ρ) S i = true then _ else 0) = _
    rw [if_neg hn]
    rfl
  have em : q_min (q_can (q_n ρ) S) (q_cf (q_n ρ) S) (i + 1) = q_min (q_can (q_n ρ) S) (q_cf (q_n ρ) S) i := by
    show (if q_can (q_n ρ) S i = true then _ else _) = _
    rw [if_neg hn]
  refine ⟨h1, h2, h3, by rw [er]; exact h4, ?_⟩
  rw [em]
  rcases h5 with h5 | ⟨b, b1, b2, b3, b4⟩
  · exact Or.inl h5
  · refine Or.inr ⟨b, b1, b2, fun hb => ?_, b4⟩
    obtain ⟨c1, c2, w, c3, c4⟩ := b3 hb
    exact ⟨c1, c2, w, by omega, c4⟩
theorem q_min_take {p : Nat → Bool} {g : Nat → Nat} {i : Nat} (h : p i = true) : q_min p g (i + 1) = some (match q_min p g i with
    | none => g i
    | some b => if g i < b then g i else b) := by
  show (if p i then (match q_min p g i with
      | none => some (g i)
      | some b => some (if g i < b then g i else b)) else q_min p g i) = _
  rw [if_pos h]
  cases q_min p g i with
  | none => rfl
  | some b => rfl
theorem q_min_none {p : Nat → Bool} {g : Nat → Nat} {n : Nat} (h : q_min p g n = none) : ∀ v, v < n → p v = true → False := by
  intro v hv hp
  obtain ⟨b, hb⟩ := q_min_some (g := g) ⟨v, hv, hp⟩
  rw [h] at hb
  cases hb
theorem q_tot_del {ρ : Nat → Int} {S m s i : Nat} (hS : S < 128) (hi : i < q_n ρ 4) (hb : S.testBit i = true) : q_tot ρ (q_del S i) (m + q_n ρ (38 + 3 * i + 1)) (s + (m + q_n ρ (38 + 3 * i + 1)) * q_n ρ (38 + 3 * i)) = s + m * q_odds (q_n ρ) S + q_cf (q_n ρ) S i := by
  unfold q_tot q_cf
  have h := q_odds_del (r := q_n ρ) hS hi hb
  rw [h]
  generalize q_odds (q_n ρ) (q_del S i) = o
  generalize q_n ρ (38 + 3 * i) = ow
  generalize q_n ρ (38 + 3 * i + 1) = mw
  rw [Nat.mul_add, Nat.mul_add, Nat.add_mul, Nat.add_mul]
  omega
theorem LPs.take {ρ : Nat → Int} {k S m s i : Nat} {M N N' : ZM} {g : Int} (hS : S < 128) (hi : i < q_n ρ 4) (hk : k + q_c7 S ≤ 7) (h : LPs ρ k S m s M N i g) (hc : q_can (q_n ρ) S i = true)
    (ht : TRs ρ (k + 1) (q_del S i) (m + q_n ρ (38 + 3 * i + 1)) (s + (m + q_n ρ (38 + 3 * i + 1)) * q_n ρ (38 + 3 * i)) (zset N 135 k (i : Int)) N') : LPs ρ k S m s M N' (i + 1) 1 := by
  obtain ⟨h1, h2, h3, h4, h5⟩ := h
  obtain ⟨t1, t2, t3, t4, t5, t6⟩ := ht
  have hb := q_can_bit hc
  rw [q_tot_del hS hi hb] at t5 t6
  have n28 : zset N 135 k (i : Int) 124 28 = N 124 28 := rfl
  have n29 : zset N 135 k (i : Int) 124 29 = N 124 29 := rfl
  rw [n28] at t5 t6
  rw [n29] at t4
  have n136 : ∀ x, zset N 135 k (i : Int) 136 x = N 136 x := fun x => rfl
  have d1 := q_c7_del hS hb
  have er : q_rsum ρ S (i + 1) = q_rsum ρ S i + q_rows (q_n ρ) 7 (q_del S i) := by
    show q_rsum ρ S i + (if q_can (q_n ρ) S i = true then _ else 0) = _
    rw [if_pos hc]
  refine ⟨fun a g1 g2 g3 => by rw [t1 a g1 g2 g3, zset_ne _ g2]; exact h1 a g1 g2 g3, fun b g1 g2 => by rw [t2 b g1 g2]; exact h2 b g1 g2, fun b hb2 => by rw [t3 b (by omega), zset_k (by omega)]; exact h3 b hb2, by rw [t4, h4, er]; omega, Or.inr ?_⟩
  have hkx : ∀ x, x < k → zset N 135 k (i : Int) 135 x = M 135 x := fun x hx => by rw [zset_k (by omega)]; exact h3 x hx
  have hkk : zset N 135 k (i : Int) 135 k = (i : Int) := zset_at _ _ _ _
  rw [q_min_take hc]
  -- the answer when this word is the first of the best
  have hnew : ∀ L : Int, N 124 28 = L → ((s + m * q_odds (q_n ρ) S + q_cf (q_n ρ) S i : Nat) : Int) < L → (∀ v, v < i → q_can (q_n ρ) S v = true → q_cf (q_n ρ) S i < q_cf (q_n ρ) S v) → N' 124 28 = ((s + m * q_odds (q_n ρ) S + q_cf (q_n ρ) S i : Nat) : Int) ∧ (∀ x, x < k → N' 136 x = M 135 x) ∧ ∃ w, w < i + 1 ∧ q_can (q_n ρ) S w = true ∧ q_cf (q_n ρ) S w = q_cf (q_n ρ) S i ∧ (∀ v, v < w → q_can (q_n ρ) S v = true → q_cf (q_n ρ) S i < q_cf (q_n ρ) S v) ∧ N' 136 k = (w : Int) ∧ ∀ x, x < q_c7 (q_del S w) → N' 136 (k + 1 + x) = (q_seq (q_n ρ) (q_del S w) x : Int) := by
    intro L hL hlt hv
    obtain ⟨u1, u2, u3⟩ := t5 (by rw [hL]; exact hlt)
    exact ⟨u1, fun x hx => (u2 x (by omega)).trans (hkx x hx), i, by omega, hc, rfl, hv, (u2 k (by omega)).trans hkk, u3⟩
  have hold : ∀ L : Int, N 124 28 = L → ¬ ((s + m * q_odds (q_n ρ) S + q_cf (q_n ρ) S i : Nat) : Int) < L → N' 124 28 = L ∧ ∀ x, x < 7 → N' 136 x = N 136 x := by
    intro L hL hlt
    obtain ⟨u1, u2⟩ := t6 (by rw [hL]; exact hlt)
    exact ⟨u1.trans hL, fun x hx => (u2 x hx).trans (n136 x)⟩
  rcases h5 with ⟨a1, a2, a3, a4⟩ | ⟨b, b1, b2, b3, b4⟩
  · rw [a1]
    refine ⟨q_cf (q_n ρ) S i, rfl, rfl, fun hlt => ?_, fun hlt => ?_⟩
    · exact hnew _ a3 hlt (fun v hv hp => (q_min_none a1 v hv hp).elim)
    · obtain ⟨u1, u2⟩ := hold _ a3 hlt
      exact ⟨u1, fun x hx => (u2 x hx).trans (a4 x hx)⟩
  · rw [b1]
    obtain ⟨-, bl⟩ := q_min_at b1
    by_cases hlt : ((s + m * q_odds (q_n ρ) S + b : Nat) : Int) < M 124 28
    · obtain ⟨c1, c2, w, c3, c4, c5, c6, c7, c8⟩ := b3 hlt
      by_cases hci : q_cf (q_n ρ) S i < b
      · refine ⟨q_cf (q_n ρ) S i, by show some (if q_cf (q_n ρ) S i < b then q_cf (q_n ρ) S i else b) = _; rw [if_pos hci], rfl, fun h9 => ?_, fun h9 => absurd h9 (by omega)⟩
        exact hnew _ c1 (by omega) (fun v hv hp => Nat.lt_of_lt_of_le hci (bl v hv hp))
      · refine ⟨b, by show some (if q_cf (q_n ρ) S i < b then q_cf (q_n ρ) S i else b) = _; rw [if_neg hci], rfl, fun h9 => ?_, fun h9 => absurd hlt h9⟩
        obtain ⟨u1, u2⟩ := hold _ c1 (by omega)
        have dw := q_c7_del hS (q_can_bit c4)
        exact ⟨u1, fun x hx => (u2 x (by omega)).trans (c2 x hx), w, by omega, c4, c5, c6, (u2 k (by omega)).trans c7, fun x hx => (u2 _ (by omega)).trans (c8 x hx)⟩
    · obtain ⟨c1, c2⟩ := b4 hlt
      by_cases hci : q_cf (q_n ρ) S i < b
      · refine ⟨q_cf (q_n ρ) S i, by show some (if q_cf (q_n ρ) S i < b then q_cf (q_n ρ) S i else b) = _; rw [if_pos hci], rfl, fun h9 => ?_, fun h9 => ?_⟩
        · exact hnew _ c1 h9 (fun v hv hp => Nat.lt_of_lt_of_le hci (bl v hv hp))
        · obtain ⟨u1, u2⟩ := hold _ c1 h9
          exact ⟨u1, fun x hx => (u2 x hx).trans (c2 x hx)⟩
      · refine ⟨b, by show some (if q_cf (q_n ρ) S i < b then q_cf (q_n ρ) S i else b) = _; rw [if_neg hci], rfl, fun h9 => absurd h9 hlt, fun h9 => ?_⟩
        obtain ⟨u1, u2⟩ := hold _ c1 (by omega)
        exact ⟨u1, fun x hx => (u2 x hx).trans (c2 x hx)⟩
theorem LPs.done {ρ : Nat → Int} {k S m s : Nat} {M N : ZM} {g : Int} (hS : S < 128) (h0 : S ≠ 0) (hex : ∃ w, w < q_n ρ 4 ∧ q_can (q_n ρ) S w = true) (h : LPs ρ k S m s M N (q_n ρ 4) g) : g = 1 ∧ TRs ρ k S m s M N := by
  obtain ⟨h1, h2, h3, h4, h5⟩ := h
  obtain ⟨b, hb⟩ := q_min_some (g := q_cf (q_n ρ) S) hex
  have hcst : q_cost (q_n ρ) 7 S = b := by rw [q_cost_rec hS h0, hb]; rfl
  rcases h5 with ⟨a1, -⟩ | ⟨b', b1, b2, b3, b4⟩
  · rw [a1] at hb; cases hb
  · have e : b' = b := by rw [hb] at b1; exact (Option.some.inj b1).symm
    subst e
    refine ⟨b2, h1, h2, h3, by rw [q_rows_rec hS h0]; exact h4, fun hlt => ?_, fun hlt => ?_⟩
    · unfold q_tot at hlt ⊢
      rw [hcst] at hlt ⊢
      obtain ⟨c1, c2, w, c3, c4, c5, c6, c7, c8⟩ := b3 hlt
      have hf : q_firstW (q_n ρ) S = some w := by
        rw [q_firstW_eq]
        refine q_first_is c3 ?_ (fun v hv => ?_)
        · show (q_can (q_n ρ) S w && decide (q_cf (q_n ρ) S w = q_cost (q_n ρ) 7 S)) = true
          rw [c4, c5, hcst]
          simp
        · show (q_can (q_n ρ) S v && decide (q_cf (q_n ρ) S v = q_cost (q_n ρ) 7 S)) = false
          cases hcv : q_can (q_n ρ) S v with
          | false => rfl
          | true =>
            have := c6 v hv hcv
            rw [hcst, decide_eq_false (by omega)]
            rfl
      refine ⟨c1, c2, fun x hx => ?_⟩
      have dw := q_c7_del hS (q_can_bit c4)
      cases x with
      | zero =>
        rw [Nat.add_zero, c7]
        unfold q_seq
        show _ = (((q_firstW (q_n ρ) S).getD 7 : Nat) : Int)
        rw [hf]
        rfl
      | succ x =>
        rw [show k + (x + 1) = k + 1 + x by omega, c8 x (by omega), q_seq_shift hf]
    · unfold q_tot at hlt
      rw [hcst] at hlt
      exact b4 hlt
theorem q_can_zero {r : Nat → Nat} {w : Nat} : ¬ q_can r 0 w = true := fun h => by
  have := q_can_bit h
  rw [Nat.zero_testBit] at this
  cases this
theorem LPs.zero {ρ : Nat → Int} {k m s : Nat} {M N : ZM} {g : Int} (h : LPs ρ k 0 m s M N (q_n ρ 4) g) : g = 0 ∧ (∀ a, a ≠ 124 → a ≠ 135 → a ≠ 136 → N a = M a) ∧ (∀ b, b ≠ 29 → N 124 b = M 124 b) ∧ (∀ b, b < k → N 135 b = M 135 b) ∧ N 124 29 = M 124 29 ∧ ∀ x, x < 7 → N 136 x = M 136 x := by
  obtain ⟨h1, h2, h3, h4, h5⟩ := h
  have er : q_rsum ρ 0 (q_n ρ 4) = 0 := q_sum_zero (fun i _ => by rw [if_neg q_can_zero])
  rcases h5 with ⟨a1, a2, a3, a4⟩ | ⟨b, b1, -⟩
  · refine ⟨a2, h1, fun b hb => ?_, h3, by rw [h4, er]; exact Int.add_zero _, a4⟩
    by_cases e : b = 28
    · subst e; exact a3
    · exact h2 b e hb
  · obtain ⟨⟨w, -, hw, -⟩, -⟩ := q_min_at b1
    exact (q_can_zero hw).elim
/-- what a call of so many words left comes to -/
def TRok (l : Launch) (X : ZX) (ρ : Nat → Int) (f : Nat) : Prop := ∀ (M : ZM) (k D m s : Nat), zWm M → (∀ i, i < 421 → M 127 i = ρ i) → D < 2 ^ q_n ρ 4 → q_c7 (q_un (q_n ρ 4) D) = f → k + f ≤ 7 → m + 30 * f ≤ 210 → s + 20790 * f ≤ 300000 → 0 ≤ M 124 28 → M 124 28 ≤ 1000000000 → zCv l X (f + 2) yX12_tryRows tX12_tryRows [zr 124, zi (k : Int), zi (D : Int), zi (m : Int), zi (s : Int)] M (fun M' => TRs ρ k (q_un (q_n ρ 4) D) m s M M')
theorem l_tryRows {l : Launch} {X : ZX} {M : ZM} {ρ : Nat → Int} (hR : wfR ρ) (hR1 : wfR1 ρ) {f : Nat} (hrec : ∀ f9, f9 + 1 = f → TRok l X ρ f9) {k D m s : Nat} (hW : zWm M) (hE : ∀ i, i < 421 → M 127 i = ρ i) (hD : D < 2 ^ q_n ρ 4) (hf : q_c7 (q_un (q_n ρ 4) D) = f) (hk : k + f ≤ 7) (hm : m + 30 * f ≤ 210) (hs : s + 20790 * f ≤ 300000) (hl0 : 0 ≤ M 124 28) (hl1 : M 124 28 ≤ 1000000000) : ∀ (j i : Nat), i + j = q_n ρ 4 → ∀ (N : ZM) (g : Int) (o9 : Option ZV), LPs ρ k (q_un (q_n ρ 4) D) m s M N i g → zP l X (f + 2) tX12_tryRows 6 [some (zr 124), some (zi (k : Int)), some (zi (D : Int)), some (zi (m : Int)), some (zi (s : Int)), some (zi g), some (zi (i : Int)), o9] [] N (fun r M' => r = none ∧ TRs ρ k (q_un (q_n ρ 4) D) m s M M') := by
  have e4 : ρ 4 = (q_n ρ 4 : Int) := hR.n (by decide)
  have b4 := hR.2.1.2.2.2.2.1
  have hp7 := p7 (n := q_n ρ 4) (by omega)
  have hunl := q_un_lt (q_n ρ 4) D
  have hB128 : ∀ k, k < 7 → q_n ρ (38 + 3 * k + 2) < 128 := fun k hk => by have h := (hR.2.2.2.2.1 k hk).2.2; unfold q_n; omega
  intro j
  induction j with
  | zero =>
    intro i hi N g o9 hLP
    have hW9 : zWm N := hW.hid (fun a b g1 g2 g3 => by
      by_cases e : a = 124
      · subst e
        exact hLP.2.1 b (fun e => by subst e; revert g1; decide) (fun e => by subst e; revert g1; decide)
      · exact congrFun (hLP.1 a e (fun e => by subst e; revert g1; simp [q_hid]) (fun e => by subst e; revert g1; simp [q_hid])) b)
    have hE9 : ∀ i, i < 421 → N 127 i = ρ i := fun i hi => by rw [hLP.1 127 (by decide) (by decide) (by decide)]; exact hE i hi
    have hg : g = 0 ∨ g = 1 := by
      rcases hLP.2.2.2.2 with h | ⟨b, h1, h2, h3⟩
      · exact Or.inl h.2.1
      · exact Or.inr h2
    have hn28 : 0 ≤ N 124 28 ∧ N 124 28 ≤ 1000000000 := by
      rcases hLP.2.2.2.2 with h | ⟨b, h1, h2, h3, h4⟩
      · rw [h.2.2.1]; exact ⟨hl0, hl1⟩
      · by_cases hlt : ((s + m * q_odds (q_n ρ) (q_un (q_n ρ 4) D) + b : Nat) : Int) < M 124 28
        · rw [(h3 hlt).1]; omega
        · rw [(h4 hlt).1]; exact ⟨hl0, hl1⟩
    refine p_iload 8 dX12_tryRows_6 rfl ?_
    refine p_aload_n 9 dX12_tryRows_8 rfl rfl (by decide) ?_
    refine p_getR 124 12 dX12_tryRows_9 fX12_20 rfl (hW9 (124, 15, 127) (by decide)) ?_
    refine p_iconst 13 dX12_tryRows_12 ?_
    refine p_iald 127 14 dX12_tryRows_13 rfl (by omega) (by omega) ?_
    try simp only [Int.toNat_natCast, Int.reduceToNat]
    rw [hE9 4 (by decide)]
    rw [Nat.add_zero] at hi
    subst hi
    refine p_icmp_ge 99 17 dX12_tryRows_14 (by omega) (by omega) (by omega) (by omega) (fun h14 => ?_) (fun h14 => absurd (by omega) (fun h9 : False => h9))
    refine p_iload 101 dX12_tryRows_99 rfl ?_
    refine p_if_eq 105 104 dX12_tryRows_101 (by omega) (by omega) (fun h101 => ?_) (fun h101 => ?_)
    · have h0 : q_un (q_n ρ 4) D = 0 := by
        by_cases e : q_un (q_n ρ 4) D = 0
        · exact e
        · have := (LPs.done (by omega) e (hR1.ex _ e (q_un_lt _ _)) hLP).1
          omega
      rw [h0] at hLP
      obtain ⟨z1, z2, z3, z4, z5, z6⟩ := hLP.zero
      have ht : q_tot ρ 0 m s = s := by
        unfold q_tot q_odds
        rw [q_sum_zero (fun i _ => by rw [Nat.zero_testBit]; rfl)]
        show s + m * 0 + 0 = s
        omega
      have z28 := z3 28 (by decide)
      have hWb : zWm (zset (zset N 124 29 (N 124 29 + 1)) 124 28 (s : Int)) := (hW9.set (by decide +kernel)).set (by decide +kernel)
      refine p_aload_n 106 dX12_tryRows_105 rfl rfl (by decide) ?_
      refine p_dupR 107 dX12_tryRows_106 ?_
      refine p_getI 124 110 dX12_tryRows_107 fX12_332 rfl ?_
      refine p_iconst 111 dX12_tryRows_110 ?_
      refine p_iadd 112 dX12_tryRows_111 ?_
      refine p_putI 124 115 dX12_tryRows_112 wX12_332 rfl ?_
      refine p_iload 117 dX12_tryRows_115 rfl ?_
      refine p_aload_n 118 dX12_tryRows_117 rfl rfl (by decide) ?_
      refine p_getI 124 121 dX12_tryRows_118 fX12_335 rfl ?_
      refine p_icmp_lt 125 124 dX12_tryRows_121 (by omega) (by omega) (by show _ ≤ N 124 28; omega) (by show N 124 28 < _; omega) (fun h121 => ?_) (fun h121 => ?_)
      · have h121 : (s : Int) < N 124 28 := h121
        refine p_aload_n 126 dX12_tryRows_125 rfl rfl (by decide) ?_
        refine p_iload 128 dX12_tryRows_126 rfl ?_
        refine p_putI 124 131 dX12_tryRows_128 wX12_335 rfl ?_
        refine p_aload_n 132 dX12_tryRows_131 rfl rfl (by decide) ?_
        refine p_getR 124 135 dX12_tryRows_132 fX12_44 rfl (hWb (124, 26, 135) (by decide +kernel)) ?_
        refine p_iconst 136 dX12_tryRows_135 ?_
        refine p_aload_n 137 dX12_tryRows_136 rfl rfl (by decide) ?_
        refine p_getR 124 140 dX12_tryRows_137 fX12_47 rfl (hWb (124, 27, 136) (by decide +kernel)) ?_
        refine p_iconst 141 dX12_tryRows_140 ?_
        refine p_bipush 143 dX12_tryRows_141 rfl ?_
        refine p_callS5v 146 dX12_tryRows_143 (s_copy (f := 135) (t := 136) (a := 0) (i := 0) (m := 7) rfl rfl (by decide) (by decide) (by decide) (by decide)) lk_X12_174 mX12_copy (by omega) (Nat.le_of_ble_eq_true rfl) ?_
        rintro _ rfl
        refine p_vret dX12_tryRows_146 rfl ?_
        refine ⟨rfl, ?_⟩
        rw [h0]
        refine ⟨fun a g1 g2 g3 => by rw [zcopy_ne _ g3, zset_ne _ g1, zset_ne _ g1]; exact z2 a g1 g2 g3, fun b g1 g2 => by rw [zcopy_ne _ (by decide), zset_k g1, zset_k g2]; exact z3 b g2, fun b hb => by rw [zcopy_ne _ (by decide)]; exact z4 b hb, ?_, fun hlt => ?_, fun hlt => ?_⟩
        · rw [zcopy_ne _ (by decide)]
          show N 124 29 + 1 = _
          rw [z5]
          rfl
        · refine ⟨?_, fun x hx => ?_, fun x hx => absurd hx (by show ¬ x < q_c7 0; rw [show q_c7 0 = 0 from (by decide)]; omega)⟩
          · rw [zcopy_ne _ (by decide), ht]
            rfl
          · have hzc := zcopy_at (M := zset (zset N 124 29 (N 124 29 + 1)) 124 28 (s : Int)) (f := 135) (a := 0) (t := 136) (i := 0) (m := 7) (b := x) (by omega)
            rw [Nat.zero_add] at hzc
            rw [hzc]
            exact z4 x hx
        · rw [ht] at hlt
          exact absurd hlt (by omega)
      · have h121 : ¬ (s : Int) < N 124 28 := h121
        refine p_vret dX12_tryRows_124 rfl ?_
        refine ⟨rfl, ?_⟩
        rw [h0]
        refine ⟨fun a g1 g2 g3 => by rw [zset_ne _ g1]; exact z2 a g1 g2 g3, fun b g1 g2 => by rw [zset_k g2]; exact z3 b g2, z4, ?_, fun hlt => ?_, fun hlt => ?_⟩
        · show N 124 29 + 1 = _
          rw [z5]
          rfl
        · rw [ht] at hlt
          exact absurd hlt (by omega)
        · exact ⟨z28, z6⟩
    · have h0 : q_un (q_n ρ 4) D ≠ 0 := fun e => by
        rw [e] at hLP
        have := hLP.zero.1
        omega
      refine p_vret dX12_tryRows_104 rfl ?_
      exact ⟨rfl, (LPs.done (by omega) h0 (hR1.ex _ h0 (q_un_lt _ _)) hLP).2⟩
  | succ j ih =>
    intro i hi N g o9 hLP
    have hW9 : zWm N := hW.hid (fun a b g1 g2 g3 => by
      by_cases e : a = 124
      · subst e
        exact hLP.2.1 b (fun e => by subst e; revert g1; decide) (fun e => by subst e; revert g1; decide)
      · exact congrFun (hLP.1 a e (fun e => by subst e; revert g1; simp [q_hid]) (fun e => by subst e; revert g1; simp [q_hid])) b)
    have hE9 : ∀ i, i < 421 → N 127 i = ρ i := fun i hi => by rw [hLP.1 127 (by decide) (by decide) (by decide)]; exact hE i hi
    have hg : g = 0 ∨ g = 1 := by
      rcases hLP.2.2.2.2 with h | ⟨b, h1, h2, h3⟩
      · exact Or.inl h.2.1
      · exact Or.inr h2
    have hn28 : 0 ≤ N 124 28 ∧ N 124 28 ≤ 1000000000 := by
      rcases hLP.2.2.2.2 with h | ⟨b, h1, h2, h3, h4⟩
      · rw [h.2.2.1]; exact ⟨hl0, hl1⟩
      · by_cases hlt : ((s + m * q_odds (q_n ρ) (q_un (q_n ρ 4) D) + b : Nat) : Int) < M 124 28
        · rw [(h3 hlt).1]; omega
        · rw [(h4 hlt).1]; exact ⟨hl0, hl1⟩
    have h2i : 2 ^ i < 128 := p7w (by omega)
    have h2n : 2 ^ i < 2 ^ q_n ρ 4 := Nat.pow_lt_pow_right (by decide) (by omega)
    have hab2 := hR1.ab hR (w := i) (by omega)
    have hab := q_ab128 hR (w := i) (by omega)
    have hal1 : q_ab (q_n ρ) i &&& (2147483647 ^^^ D) ≤ q_ab (q_n ρ) i := Nat.and_le_left
    refine p_iload 8 dX12_tryRows_6 rfl ?_
    refine p_aload_n 9 dX12_tryRows_8 rfl rfl (by decide) ?_
    refine p_getR 124 12 dX12_tryRows_9 fX12_20 rfl (hW9 (124, 15, 127) (by decide)) ?_
    refine p_iconst 13 dX12_tryRows_12 ?_
    refine p_iald 127 14 dX12_tryRows_13 rfl (by omega) (by omega) ?_
    try simp only [Int.toNat_natCast, Int.reduceToNat]
    rw [hE9 4 (by decide)]
    refine p_icmp_ge 99 17 dX12_tryRows_14 (by omega) (by omega) (by omega) (by omega) (fun h14 => absurd (by omega) (fun h9 : False => h9)) (fun h14 => ?_)
    refine p_iload_n 18 dX12_tryRows_17 rfl rfl ?_
    refine p_iload 20 dX12_tryRows_18 rfl ?_
    refine p_callS2i 23 dX12_tryRows_20 (s_hasBit (S := D) (k := i) (by omega) (by omega)) lk_X12_241 mX12_hasBit (by omega) (Nat.le_of_ble_eq_true rfl) ?_
    rintro _ _ ⟨rfl, e9⟩
    have e9 := e9.symm
    subst e9
    refine p_if_ne 93 26 dX12_tryRows_23 (by split <;> omega) (by split <;> omega) (fun h23 => ?_) (fun h23 => ?_)
    · have hqn : ¬ q_can (q_n ρ) (q_un (q_n ρ 4) D) i = true := by
        rw [q_can_un (by omega) (by omega) hab2, if_ne0 h23]
        simp
      refine p_iinc 96 dX12_tryRows_93 rfl rfl rfl ?_
      dsimp only [List.set]
      refine p_goto 6 dX12_tryRows_96 ?_
      first
        | exact ih (i + 1) (by omega) _ _ _ (hLP.skip hqn)
        | exact ih (i + 1) (by omega) _ _ _ hLP2
    · have hnb : D.testBit i = false := Bool.eq_false_iff.mpr (if_nne0 h23)
      refine p_aload_n 27 dX12_tryRows_26 rfl rfl (by decide) ?_
      refine p_getR 124 30 dX12_tryRows_27 fX12_20 rfl (hW9 (124, 15, 127) (by decide)) ?_
      refine p_iload 32 dX12_tryRows_30 rfl ?_
      refine p_callS2i 35 dX12_tryRows_32 (s_allBefore_127 hE9 hB128 hR.1 (w := i) (by omega)) lk_X12_248 mX12_allBefore (by omega) (Nat.le_of_ble_eq_true rfl) ?_
      rintro _ _ ⟨rfl, e9⟩
      have e9 := e9.symm
      subst e9
      refine p_iload_n 36 dX12_tryRows_35 rfl rfl ?_
      refine p_iconst 37 dX12_tryRows_36 ?_
      refine p_ixor 38 dX12_tryRows_37 ?_
      refine p_iand 39 dX12_tryRows_38 ?_
      rw [z_andn_n (q_ab (q_n ρ) i) D (by omega) (by omega)]
      refine p_if_eq 45 42 dX12_tryRows_39 (by omega) (by omega) (fun h39 => ?_) (fun h39 => ?_)
      · have hqc : q_can (q_n ρ) (q_un (q_n ρ 4) D) i = true := by
          rw [q_can_un (by omega) (by omega) hab2, hnb, decide_eq_true (by omega)]
          rfl
        have hd1 := q_c7_del (by omega) (q_can_bit hqc)
        have hWr : zWm (zset N 135 k (i : Int)) := hW9.setc (by decide +kernel)
        have hEr : ∀ x, x < 421 → zset N 135 k (i : Int) 127 x = ρ x := fun x hx => by rw [zset_ne _ (by decide)]; exact hE9 x hx
        have hbm := (hR.2.2.2.2.1 i (by omega)).1
        have hbn := (hR.2.2.2.2.1 i (by omega)).2.1
        have emi : ρ (38 + 3 * i + 1) = (q_n ρ (38 + 3 * i + 1) : Int) := hR.n (by omega)
        have eoi : ρ (38 + 3 * i) = (q_n ρ (38 + 3 * i) : Int) := hR.n (by omega)
        have hmo : (m + q_n ρ (38 + 3 * i + 1)) * q_n ρ (38 + 3 * i) ≤ 210 * 99 := Nat.mul_le_mul (by omega) (by omega)
        refine p_iconst 46 dX12_tryRows_45 ?_
        refine p_istore 48 dX12_tryRows_46 (Nat.le_of_ble_eq_true rfl) rfl rfl ?_
        dsimp only [List.set]
        refine p_aload_n 49 dX12_tryRows_48 rfl rfl (by decide) ?_
        refine p_getR 124 52 dX12_tryRows_49 fX12_44 rfl (hW9 (124, 26, 135) (by decide)) ?_
        refine p_iload_n 53 dX12_tryRows_52 rfl rfl ?_
        refine p_iload 55 dX12_tryRows_53 rfl ?_
        refine p_iastn 135 56 (k) dX12_tryRows_55 rfl (by omega) (by omega) ?_
        refine p_iload_n 57 dX12_tryRows_56 rfl rfl ?_
        refine p_aload_n 58 dX12_tryRows_57 rfl rfl (by decide) ?_
        refine p_iload 60 dX12_tryRows_58 rfl ?_
        refine p_callV1i 124 63 dX12_tryRows_60 (s_minutesOf hWr hEr hR (w := i) (by omega)) lk_X12_325 mX12_minutesOf rfl rfl (by omega) (Nat.le_of_ble_eq_true rfl) ?_
        rintro _ _ ⟨rfl, e9⟩
        have e9 := e9.symm
        subst e9
        rw [emi]
        refine p_iadd 64 dX12_tryRows_63 ?_
        refine p_istore 66 dX12_tryRows_64 (Nat.le_of_ble_eq_true rfl) rfl rfl ?_
        dsimp only [List.set]
        refine p_aload_n 67 dX12_tryRows_66 rfl rfl (by decide) ?_
        refine p_iload_n 68 dX12_tryRows_67 rfl rfl ?_
        refine p_iconst 69 dX12_tryRows_68 ?_
        refine p_iadd 70 dX12_tryRows_69 ?_
        refine p_iload_n 71 dX12_tryRows_70 rfl rfl ?_
        refine p_iconst 72 dX12_tryRows_71 ?_
        refine p_iload 74 dX12_tryRows_72 rfl ?_
        refine p_ishl 75 dX12_tryRows_74 ?_
        rw [z_bit i (by omega)]
        refine p_ior 76 dX12_tryRows_75 ?_
        rw [z_ior_n D (2 ^ i) (by omega) (by omega)]
        refine p_iload 78 dX12_tryRows_76 rfl ?_
        refine p_iload 80 dX12_tryRows_78 rfl ?_
        refine p_iload 82 dX12_tryRows_80 rfl ?_
        refine p_aload_n 83 dX12_tryRows_82 rfl rfl (by decide) ?_
        refine p_iload 85 dX12_tryRows_83 rfl ?_
        refine p_callV1i 124 88 dX12_tryRows_85 (s_oddsOf hWr hEr hR (w := i) (by omega)) lk_X12_309 mX12_oddsOf rfl rfl (by omega) (Nat.le_of_ble_eq_true rfl) ?_
        rintro _ _ ⟨rfl, e9⟩
        have e9 := e9.symm
        subst e9
        rw [eoi]
        refine p_imul 89 dX12_tryRows_88 ?_
        refine p_iadd 90 dX12_tryRows_89 ?_
        refine p_callV4v 124 93 dX12_tryRows_90 (hrec (f - 1) (by omega) (zset N 135 k (i : Int)) (k + 1) (D ||| 2 ^ i) (m + q_n ρ (38 + 3 * i + 1)) (s + (m + q_n ρ (38 + 3 * i + 1)) * q_n ρ (38 + 3 * i)) hWr hEr (Nat.or_lt_two_pow hD h2n) (by rw [q_un_or (by omega)]; omega) (by omega) (by omega) (by omega) (by show 0 ≤ N 124 28; omega) (by show N 124 28 ≤ _; omega)) lk_X12_328 mX12_tryRows rfl rfl (by omega) (Nat.le_of_ble_eq_true rfl) ?_
        intro N9 hT9
        rw [q_un_or (by omega)] at hT9
        have hLP2 := LPs.take (by omega) (by omega) (by omega) hLP hqc hT9
        refine p_iinc 96 dX12_tryRows_93 rfl rfl rfl ?_
        dsimp only [List.set]
        refine p_goto 6 dX12_tryRows_96 ?_
        first
          | exact ih (i + 1) (by omega) _ _ _ (hLP.skip hqn)
          | exact ih (i + 1) (by omega) _ _ _ hLP2
      · have hqn : ¬ q_can (q_n ρ) (q_un (q_n ρ 4) D) i = true := by
          rw [q_can_un (by omega) (by omega) hab2, hnb, decide_eq_false (by omega)]
          simp
        refine p_goto 93 dX12_tryRows_42 ?_
        refine p_iinc 96 dX12_tryRows_93 rfl rfl rfl ?_
        dsimp only [List.set]
        refine p_goto 6 dX12_tryRows_96 ?_
        first
          | exact ih (i + 1) (by omega) _ _ _ (hLP.skip hqn)
          | exact ih (i + 1) (by omega) _ _ _ hLP2
theorem s_tryRows {l : Launch} {X : ZX} {ρ : Nat → Int} (hR : wfR ρ) (hR1 : wfR1 ρ) : ∀ f, TRok l X ρ f := by
  intro f
  induction f with
  | zero =>
    intro M k D m s hW hE hD hf hk hm hs hl0 hl1
    refine zC.of [some (zr 124), some (zi (k : Int)), some (zi (D : Int)), some (zi (m : Int)), some (zi (s : Int)), none, none, none] (by decide +kernel) rfl rfl (Nat.le_of_ble_eq_true rfl) rfl ?_
    refine p_iconst 1 dX12_tryRows_0 ?_
    refine p_istore 3 dX12_tryRows_1 (Nat.le_of_ble_eq_true rfl) rfl rfl ?_
    dsimp only [List.set]
    refine p_iconst 4 dX12_tryRows_3 ?_
    refine p_istore 6 dX12_tryRows_4 (Nat.le_of_ble_eq_true rfl) rfl rfl ?_
    dsimp only [List.set]
    exact l_tryRows hR hR1 (fun f9 h9 => absurd h9 (by omega)) hW hE hD hf hk hm hs hl0 hl1 (q_n ρ 4) 0 (Nat.zero_add _) M 0 none LPs.start
  | succ f ih =>
    intro M k D m s hW hE hD hf hk hm hs hl0 hl1
    refine zC.of [some (zr 124), some (zi (k : Int)), some (zi (D : Int)), some (zi (m : Int)), some (zi (s : Int)), none, none, none] (by decide +kernel) rfl rfl (Nat.le_of_ble_eq_true rfl) rfl ?_
    refine p_iconst 1 dX12_tryRows_0 ?_
    refine p_istore 3 dX12_tryRows_1 (Nat.le_of_ble_eq_true rfl) rfl rfl ?_
    dsimp only [List.set]
    refine p_iconst 4 dX12_tryRows_3 ?_
    refine p_istore 6 dX12_tryRows_4 (Nat.le_of_ble_eq_true rfl) rfl rfl ?_
    dsimp only [List.set]
    exact l_tryRows hR hR1 (fun f9 h9 => by
      have e : f9 = f := by omega
      subst e
      exact ih) hW hE hD hf hk hm hs hl0 hl1 (q_n ρ 4) 0 (Nat.zero_add _) M 0 none LPs.start
theorem wfT.said2 {ρ τ : Nat → Int} (hT : wfT ρ τ) (hR : wfR ρ) : (τ 14).toNat < 2 ^ q_n ρ 4 := by
  have h := hT.2.2.1
  have h0 := hT.1 14 (by decide)
  have h3 : (((τ 14).toNat : Nat) : Int) < ((2 ^ q_n ρ 4 : Nat) : Int) := by
    rw [show (((τ 14).toNat : Nat) : Int) = τ 14 by omega, Int.natCast_pow]
    exact h
  exact Int.ofNat_lt.mp h3
/-- how the model's search ends: what is seen of it -/
def SKs (ρ : Nat → Int) (S : Nat) (M M' : ZM) : Prop := Hid M M' ∧ M' 124 11 = M 124 11 ∧ M' 124 29 = (q_rows (q_n ρ) 7 S : Int) ∧ M' 124 28 = (q_cost (q_n ρ) 7 S : Int) ∧ ∀ x, x < q_c7 S → M' 136 x = (q_seq (q_n ρ) S x : Int)
theorem TRs.hid {ρ : Nat → Int} {k S m s : Nat} {M M' : ZM} (h : TRs ρ k S m s M M') : Hid M M' := by
  obtain ⟨h1, h2, -⟩ := h
  refine ⟨fun c b hc => congrFun (h1 c (by omega) (by omega) (by omega)) b, fun c b g1 g2 g3 => ?_⟩
  by_cases e : c = 124
  · subst e
    exact h2 b (fun e => by subst e; revert g1; decide) (fun e => by subst e; revert g1; decide)
  · exact congrFun (h1 c e (fun e => by subst e; revert g1; simp [q_hid]) (fun e => by subst e; revert g1; simp [q_hid])) b
theorem s_seekRows {l : Launch} {X : ZX} {M : ZM} {ρ : Nat → Int} (hR : wfR ρ) (hR1 : wfR1 ρ) (hW : zWm M) (hE : ∀ i, i < 421 → M 127 i = ρ i) {τ : Nat → Int} (hU : ∀ i, i < 18 → M 129 i = τ i) (hT : wfT ρ τ) : zCv l X 10 yX12_seekRows tX12_seekRows [zr 124] M (fun M' => SKs ρ (q_un (q_n ρ 4) (τ 14).toNat) M M') := by
  have e4 : ρ 4 = (q_n ρ 4 : Int) := hR.n (by decide)
  have b4 := hR.2.1.2.2.2.2.1
  have hp7 := p7 (n := q_n ρ 4) (by omega)
  have hD : (τ 14).toNat < 2 ^ q_n ρ 4 := hT.said2 hR
  have e14 : τ 14 = ((τ 14).toNat : Int) := by have := hT.1 14 (by decide); omega
  have hc7 := q_c7_le (q_un (q_n ρ 4) (τ 14).toNat)
  have hWa : zWm (zset (zset M 124 28 1000000000) 124 29 0) := (hW.set (by decide +kernel)).set (by decide +kernel)
  refine zC.of [some (zr 124)] (by decide +kernel) rfl rfl (Nat.le_of_ble_eq_true rfl) rfl ?_
  refine p_aload_n 1 dX12_seekRows_0 rfl rfl (by decide) ?_
  refine p_ldcw (z := 1000000000) 4 dX12_seekRows_1 kk_X12_338 rfl ?_
  refine p_putI 124 7 dX12_seekRows_4 wX12_335 rfl ?_
  refine p_aload_n 8 dX12_seekRows_7 rfl rfl (by decide) ?_
  refine p_iconst 9 dX12_seekRows_8 ?_
  refine p_putI 124 12 dX12_seekRows_9 wX12_332 rfl ?_
  refine p_aload_n 13 dX12_seekRows_12 rfl rfl (by decide) ?_
  refine p_iconst 14 dX12_seekRows_13 ?_
  refine p_aload_n 15 dX12_seekRows_14 rfl rfl (by decide) ?_
  refine p_getR 124 18 dX12_seekRows_15 fX12_26 rfl (hWa (124, 17, 129) (by decide +kernel)) ?_
  refine p_bipush 20 dX12_seekRows_18 rfl ?_
  refine p_ialdn 129 21 (14) dX12_seekRows_20 rfl (by omega) (by omega) ?_
  rw [show zset (zset M 124 28 1000000000) 124 29 0 129 14 = ((τ 14).toNat : Int) from (hU 14 (by decide)).trans e14]
  refine p_iconst 22 dX12_seekRows_21 ?_
  refine p_iconst 23 dX12_seekRows_22 ?_
  refine p_callV4v 124 26 dX12_seekRows_23 (s_tryRows (l := l) (X := X) hR hR1 (q_c7 (q_un (q_n ρ 4) (τ 14).toNat)) (zset (zset M 124 28 1000000000) 124 29 0) 0 (τ 14).toNat 0 0 hWa (fun i hi => hE i hi) hD rfl (by omega) (by omega) (by omega) (by show (0 : Int) ≤ 1000000000; decide) (by show (1000000000 : Int) ≤ 1000000000; decide)) lk_X12_328 mX12_tryRows rfl rfl (by omega) (Nat.le_of_ble_eq_true rfl) ?_
  intro M9 h9
  refine p_vret dX12_seekRows_26 rfl ?_
  refine ⟨rfl, ?_⟩
  have hcl := q_cost_le hR 7 (q_un (q_n ρ 4) (τ 14).toNat)
  have htot : q_tot ρ (q_un (q_n ρ 4) (τ 14).toNat) 0 0 = q_cost (q_n ρ) 7 (q_un (q_n ρ 4) (τ 14).toNat) := by
    unfold q_tot
    rw [Nat.zero_mul]
    omega
  have hh := h9.hid
  obtain ⟨h1, h2, h3, h4, h5, h6⟩ := h9
  obtain ⟨u1, u2, u3⟩ := h5 (by rw [htot]; show _ < (1000000000 : Int); omega)
  refine ⟨Hid.trans ((Hid.rfl.set (c := 124) (k := 28) (Or.inl (by decide +kernel)) (by decide)).set (c := 124) (k := 29) (Or.inl (by decide +kernel)) (by decide)) hh, h2 11 (by decide) (by decide), ?_, ?_, fun x hx => ?_⟩
  · rw [h4]
    show (0 : Int) + _ = _
    omega
  · rw [u1, htot]
  · have := u3 x hx
    rw [Nat.zero_add] at this
    exact this
theorem s_isOver {l : Launch} {X : ZX} {M : ZM} {ρ : Nat → Int} (hR : wfR ρ) (hR1 : wfR1 ρ) (hW : zWm M) (hE : ∀ i, i < 421 → M 127 i = ρ i) {τ : Nat → Int} (hU : ∀ i, i < 18 → M 129 i = τ i) (hT : wfT ρ τ) : zCi l X 1 yX12_isOver tX12_isOver [zr 124] M (fun a M' => a = (if 0 < τ 16 ∨ q_un (q_n ρ 4) (τ 14).toNat = 0 then 1 else 0) ∧ M' = M) := by
  have e4 : ρ 4 = (q_n ρ 4 : Int) := hR.n (by decide)
  have b4 := hR.2.1.2.2.2.2.1
  have hp7 := p7 (n := q_n ρ 4) (by omega)
  have hD : (τ 14).toNat < 2 ^ q_n ρ 4 := hT.said2 hR
  have e14 : τ 14 = ((τ 14).toNat : Int) := by have := hT.1 14 (by decide); omega
  have t0 := hT.1 16 (by decide)
  have t1 := hT.2.2.2.2.1
  have hul := q_un_lt (q_n ρ 4) (τ 14).toNat
  refine zC.of [some (zr 124)] (by decide +kernel) rfl rfl (Nat.le_of_ble_eq_true rfl) rfl ?_
  refine p_aload_n 1 dX12_isOver_0 rfl rfl (by decide) ?_
  refine p_getR 124 4 dX12_isOver_1 fX12_26 rfl (hW (124, 17, 129) (by decide)) ?_
  refine p_bipush 6 dX12_isOver_4 rfl ?_
  refine p_ialdn 129 7 (16) dX12_isOver_6 rfl (by omega) (by omega) ?_
  rw [hU 16 (by decide)]
  refine p_if_gt 17 10 dX12_isOver_7 (by omega) (by omega) (fun h7 => ?_) (fun h7 => ?_)
  · refine p_iconst 18 dX12_isOver_17 ?_
    refine p_goto 22 dX12_isOver_18 ?_
    refine p_zret dX12_isOver_22 rfl (by decide) ?_
    refine ⟨_, rfl, ?_, rfl⟩
    first | (rw [if_pos (by omega)]; done) | (rw [if_neg (by omega)]; done)
  · refine p_aload_n 11 dX12_isOver_10 rfl rfl (by decide) ?_
    refine p_callV0i 124 14 dX12_isOver_11 (s_unsaid hW hE hR hU hT) lk_X12_319 mX12_unsaid rfl rfl (by decide) (Nat.le_of_ble_eq_true rfl) ?_
    rintro _ _ ⟨rfl, e9⟩
    have e9 := e9.symm
    subst e9
    refine p_if_ne 21 17 dX12_isOver_14 (by omega) (by omega) (fun h14 => ?_) (fun h14 => ?_)
    · refine p_iconst 22 dX12_isOver_21 ?_
      refine p_zret dX12_isOver_22 rfl (by decide) ?_
      refine ⟨_, rfl, ?_, rfl⟩
      first | (rw [if_pos (by omega)]; done) | (rw [if_neg (by omega)]; done)
    · refine p_iconst 18 dX12_isOver_17 ?_
      refine p_goto 22 dX12_isOver_18 ?_
      refine p_zret dX12_isOver_22 rfl (by decide) ?_
      refine ⟨_, rfl, ?_, rfl⟩
      first | (rw [if_pos (by omega)]; done) | (rw [if_neg (by omega)]; done)
theorem s_minutesWhy {l : Launch} {X : ZX} {M : ZM} (hW : zWm M) (hh : M 124 14 = 0 ∨ M 124 14 = 1) {v : Int} (hv1 : -2147483648 ≤ v) (hv2 : v < 2147483648) : zCi l X 1 yX12_minutesWhy tX12_minutesWhy [zr 124, zi v] M (fun a M' => a = (if M 124 14 = 0 then 1 else if 0 ≤ v ∧ v ≤ 300 then 0 else 2) ∧ M' = M) := by
  refine zC.of [some (zr 124), some (zi v)] (by decide +kernel) rfl rfl (Nat.le_of_ble_eq_true rfl) rfl ?_
  refine p_aload_n 1 dX12_minutesWhy_0 rfl rfl (by decide) ?_
  refine p_getI 124 4 dX12_minutesWhy_1 fX12_178 rfl ?_
  refine p_if_ne 11 7 dX12_minutesWhy_4 (by omega) (by omega) (fun h4 => ?_) (fun h4 => ?_)
  · refine p_iload_n 12 dX12_minutesWhy_11 rfl rfl ?_
    refine p_iconst 13 dX12_minutesWhy_12 ?_
    refine p_sipush 16 dX12_minutesWhy_13 rfl ?_
    refine p_callS3i 19 dX12_minutesWhy_16 (s_in (by omega) (by omega) (by omega) (by omega) (by omega) (by omega)) lk_X12_146 mX12_in (by decide) (Nat.le_of_ble_eq_true rfl) ?_
    rintro _ _ ⟨rfl, e9⟩
    have e9 := e9.symm
    subst e9
    refine p_if_eq 26 22 dX12_minutesWhy_19 (by split <;> omega) (by split <;> omega) (fun h19 => ?_) (fun h19 => ?_)
    · have h19 := if_eq0 h19
      refine p_iconst 27 dX12_minutesWhy_26 ?_
      refine p_iret dX12_minutesWhy_27 rfl ?_
      refine ⟨_, rfl, ?_, rfl⟩
      first | (rw [if_pos (by omega)]; done) | (rw [if_neg (by omega), if_pos (by omega)]; done) | (rw [if_neg (by omega), if_neg (by omega)]; done)
    · have h19 := if_neq0 h19
      refine p_iconst 23 dX12_minutesWhy_22 ?_
      refine p_goto 27 dX12_minutesWhy_23 ?_
      refine p_iret dX12_minutesWhy_27 rfl ?_
      refine ⟨_, rfl, ?_, rfl⟩
      first | (rw [if_pos (by omega)]; done) | (rw [if_neg (by omega), if_pos (by omega)]; done) | (rw [if_neg (by omega), if_neg (by omega)]; done)
  · refine p_iconst 8 dX12_minutesWhy_7 ?_
    refine p_goto 27 dX12_minutesWhy_8 ?_
    refine p_iret dX12_minutesWhy_27 rfl ?_
    refine ⟨_, rfl, ?_, rfl⟩
    first | (rw [if_pos (by omega)]; done) | (rw [if_neg (by omega), if_pos (by omega)]; done) | (rw [if_neg (by omega), if_neg (by omega)]; done)
theorem or_and_zero {a b c : Nat} : (a ||| b) &&& c = 0 ↔ a &&& c = 0 ∧ b &&& c = 0 := by
  rw [and_zero_iff, and_zero_iff, and_zero_iff]
  constructor
  · intro h
    refine ⟨fun i => ?_, fun i => ?_⟩
    · have := h i
      rw [Nat.testBit_or] at this
      revert this
      cases a.testBit i <;> cases b.testBit i <;> cases c.testBit i <;> decide
    · have := h i
      rw [Nat.testBit_or] at this
      revert this
      cases a.testBit i <;> cases b.testBit i <;> cases c.testBit i <;> decide
  · intro h i
    have h1 := h.1 i
    have h2 := h.2 i
    rw [Nat.testBit_or]
    revert h1 h2
    cases a.testBit i <;> cases b.testBit i <;> cases c.testBit i <;> decide
theorem q_needs_lt2 {ρ : Nat → Int} (hR : wfR ρ) (hR1 : wfR1 ρ) (S : Nat) : ∀ k, k ≤ q_n ρ 4 → q_needs (q_n ρ) S k < 2 ^ q_n ρ 4 := by
  intro k
  induction k with
  | zero => intro _; exact Nat.two_pow_pos _
  | succ k ih =>
    intro hk
    show (if S.testBit k = true then _ else _) < _
    split
    · exact Nat.or_lt_two_pow (ih (by omega)) (hR1.ab hR (by omega))
    · exact ih (by omega)
/-- what a set needs besides is said: told in the model's words and in the class's -/
theorem needs_said {n D a S : Nat} (hn : n ≤ 7) (ha : a < 2 ^ n) : a &&& (2147483647 ^^^ (S ||| D)) = 0 ↔ (a &&& q_un n D) &&& (2147483647 ^^^ S) = 0 := by
  rw [and_zero_iff, and_zero_iff]
  have key : ∀ i, (a.testBit i && (2147483647 ^^^ (S ||| D)).testBit i) = ((a &&& q_un n D).testBit i && (2147483647 ^^^ S).testBit i) := by
    intro i
    rw [Nat.testBit_and]
    by_cases hi : i < n
    · rw [q_unb hn, Nat.testBit_xor, Nat.testBit_xor, Nat.testBit_or, show (2147483647 : Nat) = 2 ^ 31 - 1 from rfl, Nat.testBit_two_pow_sub_one, decide_eq_true hi, decide_eq_true (show i < 31 by omega)]
      cases a.testBit i <;> cases S.testBit i <;> cases D.testBit i <;> rfl
    · have h2 : a < 2 ^ i := Nat.lt_of_lt_of_le ha (Nat.pow_le_pow_right (by decide) (by omega))
      rw [Nat.testBit_lt_two_pow h2]
      rfl
  constructor
  · intro h i; rw [← key]; exact h i
  · intro h i; rw [key]; exact h i
def q_mk (r : Nat → Nat) (S i : Nat) : Nat := q_sum (fun w => if S.testBit w then r (38 + 3 * w + 1) else 0) i
def q_nk (r : Nat → Nat) (S D : Nat) : Nat → Int
  | 0 => 1
  | i + 1 => if S.testBit i = true then (if q_nk r S D i ≠ 0 ∧ q_ab r i &&& (2147483647 ^^^ (S ||| D)) = 0 then 1 else 0) else q_nk r S D i
theorem q_nk_eq (r : Nat → Nat) (S D : Nat) : ∀ i, q_nk r S D i = if q_needs r S i &&& (2147483647 ^^^ (S ||| D)) = 0 then 1 else 0 := by
  intro i
  induction i with
  | zero =>
    rw [show q_needs r S 0 = 0 from rfl, Nat.zero_and, if_pos rfl]
    rfl
  | succ i ih =>
    have en : q_needs r S (i + 1) = if S.testBit i = true then q_needs r S i ||| q_ab r i else q_needs r S i := rfl
    have ek : q_nk r S D (i + 1) = if S.testBit i = true then (if q_nk r S D i ≠ 0 ∧ q_ab r i &&& (2147483647 ^^^ (S ||| D)) = 0 then 1 else 0) else q_nk r S D i := rfl
    rw [en, ek]
    by_cases h : S.testBit i = true
    · rw [if_pos h, if_pos h, ih]
      by_cases h1 : q_needs r S i &&& (2147483647 ^^^ (S ||| D)) = 0
      · rw [if_pos h1]
        by_cases h2 : q_ab r i &&& (2147483647 ^^^ (S ||| D)) = 0
        · rw [if_pos ⟨by decide, h2⟩, if_pos (or_and_zero.mpr ⟨h1, h2⟩)]
        · rw [if_neg (fun g => h2 g.2), if_neg (fun g => h2 (or_and_zero.mp g).2)]
      · rw [if_neg h1, if_neg (fun g => g.1 rfl), if_neg (fun g => h1 (or_and_zero.mp g).1)]
    · rw [if_neg h, if_neg h]
      exact ih
theorem q_nk01 (r : Nat → Nat) (S D i : Nat) : q_nk r S D i = 0 ∨ q_nk r S D i = 1 := by
  rw [q_nk_eq]
  split
  · exact Or.inr rfl
  · exact Or.inl rfl
theorem q_nk_skip {r : Nat → Nat} {S D i : Nat} (h : S.testBit i = false) : q_nk r S D (i + 1) = q_nk r S D i ∧ q_mk r S (i + 1) = q_mk r S i := by
  refine ⟨?_, ?_⟩
  · show (if S.testBit i = true then _ else _) = _
    rw [if_neg (by rw [h]; decide)]
  · show q_mk r S i + (if S.testBit i = true then _ else 0) = _
    rw [if_neg (by rw [h]; decide)]
    rfl
theorem q_nk_take {r : Nat → Nat} {S D i : Nat} (h : S.testBit i = true) : q_nk r S D (i + 1) = (if q_nk r S D i ≠ 0 ∧ q_ab r i &&& (2147483647 ^^^ (S ||| D)) = 0 then 1 else 0) ∧ q_mk r S (i + 1) = q_mk r S i + r (38 + 3 * i + 1) := by
  refine ⟨?_, ?_⟩
  · show (if S.testBit i = true then _ else _) = _
    rw [if_pos h]
  · show q_mk r S i + (if S.testBit i = true then _ else 0) = _
    rw [if_pos h]
theorem l_wordsI {l : Launch} {X : ZX} {M : ZM} {ρ : Nat → Int} (hR : wfR ρ) (hR1 : wfR1 ρ) (hW : zWm M) (hE : ∀ i, i < 421 → M 127 i = ρ i) {τ : Nat → Int} (hU : ∀ i, i < 18 → M 129 i = τ i) (hT : wfT ρ τ) {S : Nat} (hS : S < 2 ^ q_n ρ 4) {m : Int} {x : Int} {Q : Option ZV → ZM → Prop} (hQ : zP l X 2 tX12_wordsIn 111 [some (zr 124), some (zi m), some (zi x), some (zi (S : Int)), some (zi (q_mins (q_n ρ) S : Int)), some (zi (q_nk (q_n ρ) S (τ 14).toNat (q_n ρ 4))), some (zi (q_n ρ 4 : Int))] [] M Q) : ∀ (j i : Nat), i + j = q_n ρ 4 → zP l X 2 tX12_wordsIn 35 [some (zr 124), some (zi m), some (zi x), some (zi (S : Int)), some (zi (q_mk (q_n ρ) S i : Int)), some (zi (q_nk (q_n ρ) S (τ 14).toNat i)), some (zi (i : Int))] [] M (Q) := by
  have e4 : ρ 4 = (q_n ρ 4 : Int) := hR.n (by decide)
  have b4 := hR.2.1.2.2.2.2.1
  have hp7 := p7 (n := q_n ρ 4) (by omega)
  have hD : (τ 14).toNat < 2 ^ q_n ρ 4 := hT.said2 hR
  have e14 : τ 14 = ((τ 14).toNat : Int) := by have := hT.1 14 (by decide); omega
  have hB128 : ∀ k, k < 7 → q_n ρ (38 + 3 * k + 2) < 128 := fun k hk => by have h := (hR.2.2.2.2.1 k hk).2.2; unfold q_n; omega
  intro j
  induction j with
  | zero =>
    intro i hi
    refine p_iload 37 dX12_wordsIn_35 rfl ?_
    refine p_aload_n 38 dX12_wordsIn_37 rfl rfl (by decide) ?_
    refine p_getR 124 41 dX12_wordsIn_38 fX12_20 rfl (hW (124, 15, 127) (by decide)) ?_
    refine p_iconst 42 dX12_wordsIn_41 ?_
    refine p_iald 127 43 dX12_wordsIn_42 rfl (by omega) (by omega) ?_
    try simp only [Int.toNat_natCast, Int.reduceToNat]
    rw [hE 4 (by decide)]
    refine p_icmp_ge 111 46 dX12_wordsIn_43 (by omega) (by omega) (by omega) (by omega) (fun h43 => ?_) (fun h43 => absurd (by omega) (fun h9 : False => h9))
    rw [Nat.add_zero] at hi
    subst hi
    exact hQ
  | succ j ih =>
    intro i hi
    have hk01 := q_nk01 (q_n ρ) S (τ 14).toNat i
    have hab := q_ab128 hR (w := i) (by omega)
    have hal1 : q_ab (q_n ρ) i &&& (2147483647 ^^^ (S ||| (τ 14).toNat)) ≤ q_ab (q_n ρ) i := Nat.and_le_left
    have hor : S ||| (τ 14).toNat < 128 := Nat.or_lt_two_pow (n := 7) (by omega) (by omega)
    have emi : ρ (38 + 3 * i + 1) = (q_n ρ (38 + 3 * i + 1) : Int) := hR.n (by omega)
    refine p_iload 37 dX12_wordsIn_35 rfl ?_
    refine p_aload_n 38 dX12_wordsIn_37 rfl rfl (by decide) ?_
    refine p_getR 124 41 dX12_wordsIn_38 fX12_20 rfl (hW (124, 15, 127) (by decide)) ?_
    refine p_iconst 42 dX12_wordsIn_41 ?_
    refine p_iald 127 43 dX12_wordsIn_42 rfl (by omega) (by omega) ?_
    try simp only [Int.toNat_natCast, Int.reduceToNat]
    rw [hE 4 (by decide)]
    refine p_icmp_ge 111 46 dX12_wordsIn_43 (by omega) (by omega) (by omega) (by omega) (fun h43 => absurd (by omega) (fun h9 : False => h9)) (fun h43 => ?_)
    refine p_iload_n 47 dX12_wordsIn_46 rfl rfl ?_
    refine p_iload 49 dX12_wordsIn_47 rfl ?_
    refine p_callS2i 52 dX12_wordsIn_49 (s_hasBit (S := S) (k := i) (by omega) (by omega)) lk_X12_241 mX12_hasBit (by decide) (Nat.le_of_ble_eq_true rfl) ?_
    rintro _ _ ⟨rfl, e9⟩
    have e9 := e9.symm
    subst e9
    refine p_if_ne 58 55 dX12_wordsIn_52 (by split <;> omega) (by split <;> omega) (fun h52 => ?_) (fun h52 => ?_)
    · have hb : S.testBit i = true := if_ne0 h52
      refine p_iload 60 dX12_wordsIn_58 rfl ?_
      refine p_aload_n 61 dX12_wordsIn_60 rfl rfl (by decide) ?_
      refine p_iload 63 dX12_wordsIn_61 rfl ?_
      refine p_callV1i 124 66 dX12_wordsIn_63 (s_minutesOf hW hE hR (w := i) (by omega)) lk_X12_325 mX12_minutesOf rfl rfl (by decide) (Nat.le_of_ble_eq_true rfl) ?_
      rintro _ _ ⟨rfl, e9⟩
      have e9 := e9.symm
      subst e9
      rw [emi]
      refine p_iadd 67 dX12_wordsIn_66 ?_
      refine p_istore 69 dX12_wordsIn_67 (Nat.le_of_ble_eq_true rfl) rfl rfl ?_
      dsimp only [List.set]
      refine p_iload 71 dX12_wordsIn_69 rfl ?_
      refine p_if_eq 102 74 dX12_wordsIn_71 (by omega) (by omega) (fun h71 => ?_) (fun h71 => ?_)
      · refine p_iconst 103 dX12_wordsIn_102 ?_
        refine p_istore 105 dX12_wordsIn_103 (Nat.le_of_ble_eq_true rfl) rfl rfl ?_
        dsimp only [List.set]
        refine p_iinc 108 dX12_wordsIn_105 rfl rfl rfl ?_
        dsimp only [List.set]
        refine p_goto 35 dX12_wordsIn_108 ?_
        have e := ih (i + 1) (by omega)
        first
          | (rw [(q_nk_skip (D := (τ 14).toNat) hb).1, (q_nk_skip (D := (τ 14).toNat) hb).2] at e; exact e)
          | (rw [(q_nk_take (D := (τ 14).toNat) hb).1, (q_nk_take (D := (τ 14).toNat) hb).2, if_pos (by omega)] at e; exact e)
          | (rw [(q_nk_take (D := (τ 14).toNat) hb).1, (q_nk_take (D := (τ 14).toNat) hb).2, if_neg (by omega)] at e; exact e)
      · refine p_aload_n 75 dX12_wordsIn_74 rfl rfl (by decide) ?_
        refine p_getR 124 78 dX12_wordsIn_75 fX12_20 rfl (hW (124, 15, 127) (by decide)) ?_
        refine p_iload 80 dX12_wordsIn_78 rfl ?_
        refine p_callS2i 83 dX12_wordsIn_80 (s_allBefore_127 hE hB128 hR.1 (w := i) (by omega)) lk_X12_248 mX12_allBefore (by decide) (Nat.le_of_ble_eq_true rfl) ?_
        rintro _ _ ⟨rfl, e9⟩
        have e9 := e9.symm
        subst e9
        refine p_iload_n 84 dX12_wordsIn_83 rfl rfl ?_
        refine p_aload_n 85 dX12_wordsIn_84 rfl rfl (by decide) ?_
        refine p_getR 124 88 dX12_wordsIn_85 fX12_26 rfl (hW (124, 17, 129) (by decide)) ?_
        refine p_bipush 90 dX12_wordsIn_88 rfl ?_
        refine p_ialdn 129 91 (14) dX12_wordsIn_90 rfl (by omega) (by omega) ?_
        rw [show M 129 14 = ((τ 14).toNat : Int) from (hU 14 (by decide)).trans e14]
        refine p_ior 92 dX12_wordsIn_91 ?_
        rw [z_ior_n S (τ 14).toNat (by omega) (by omega)]
        refine p_iconst 93 dX12_wordsIn_92 ?_
        refine p_ixor 94 dX12_wordsIn_93 ?_
        refine p_iand 95 dX12_wordsIn_94 ?_
        rw [z_andn_n (q_ab (q_n ρ) i) (S ||| (τ 14).toNat) (by omega) (by omega)]
        refine p_if_ne 102 98 dX12_wordsIn_95 (by omega) (by omega) (fun h95 => ?_) (fun h95 => ?_)
        · refine p_iconst 103 dX12_wordsIn_102 ?_
          refine p_istore 105 dX12_wordsIn_103 (Nat.le_of_ble_eq_true rfl) rfl rfl ?_
          dsimp only [List.set]
          refine p_iinc 108 dX12_wordsIn_105 rfl rfl rfl ?_
          dsimp only [List.set]
          refine p_goto 35 dX12_wordsIn_108 ?_
          have e := ih (i + 1) (by omega)
          first
            | (rw [(q_nk_skip (D := (τ 14).toNat) hb).1, (q_nk_skip (D := (τ 14).toNat) hb).2] at e; exact e)
            | (rw [(q_nk_take (D := (τ 14).toNat) hb).1, (q_nk_take (D := (τ 14).toNat) hb).2, if_pos (by omega)] at e; exact e)
            | (rw [(q_nk_take (D := (τ 14).toNat) hb).1, (q_nk_take (D := (τ 14).toNat) hb).2, if_neg (by omega)] at e; exact e)
        · refine p_iconst 99 dX12_wordsIn_98 ?_
          refine p_goto 103 dX12_wordsIn_99 ?_
          refine p_istore 105 dX12_wordsIn_103 (Nat.le_of_ble_eq_true rfl) rfl rfl ?_
          dsimp only [List.set]
          refine p_iinc 108 dX12_wordsIn_105 rfl rfl rfl ?_
          dsimp only [List.set]
          refine p_goto 35 dX12_wordsIn_108 ?_
          have e := ih (i + 1) (by omega)
          first
            | (rw [(q_nk_skip (D := (τ 14).toNat) hb).1, (q_nk_skip (D := (τ 14).toNat) hb).2] at e; exact e)
            | (rw [(q_nk_take (D := (τ 14).toNat) hb).1, (q_nk_take (D := (τ 14).toNat) hb).2, if_pos (by omega)] at e; exact e)
            | (rw [(q_nk_take (D := (τ 14).toNat) hb).1, (q_nk_take (D := (τ 14).toNat) hb).2, if_neg (by omega)] at e; exact e)
    · have hb : S.testBit i = false := Bool.eq_false_iff.mpr (if_nne0 h52)
      refine p_goto 105 dX12_wordsIn_55 ?_
      refine p_iinc 108 dX12_wordsIn_105 rfl rfl rfl ?_
      dsimp only [List.set]
      refine p_goto 35 dX12_wordsIn_108 ?_
      have e := ih (i + 1) (by omega)
      first
        | (rw [(q_nk_skip (D := (τ 14).toNat) hb).1, (q_nk_skip (D := (τ 14).toNat) hb).2] at e; exact e)
        | (rw [(q_nk_take (D := (τ 14).toNat) hb).1, (q_nk_take (D := (τ 14).toNat) hb).2, if_pos (by omega)] at e; exact e)
        | (rw [(q_nk_take (D := (τ 14).toNat) hb).1, (q_nk_take (D := (τ 14).toNat) hb).2, if_neg (by omega)] at e; exact e)
theorem l_wordsIn {l : Launch} {X : ZX} {M : ZM} {ρ : Nat → Int} (hR : wfR ρ) (hR1 : wfR1 ρ) (hW : zWm M) (hE : ∀ i, i < 421 → M 127 i = ρ i) {τ : Nat → Int} (hU : ∀ i, i < 18 → M 129 i = τ i) (hT : wfT ρ τ) {m : Int} (hm1 : -2147483648 ≤ m) (hm2 : m < 2147483648) : ∀ (j i : Nat), i + j = (q_un (q_n ρ 4) (τ 14).toNat) + 1 → ∀ o4 o5 o6 : Option ZV, zP l X 2 tX12_wordsIn 4 [some (zr 124), some (zi m), some (zi (q_lk ρ (q_un (q_n ρ 4) (τ 14).toNat) m i : Int)), some (zi (i : Int)), o4, o5, o6] [] M (fun r M' => ∃ a, r = some (zi a) ∧ (a = (if 0 < τ 16 then 0 else (q_lk ρ (q_un (q_n ρ 4) (τ 14).toNat) m ((q_un (q_n ρ 4) (τ 14).toNat) + 1) : Int)) ∧ M' = M)) := by
  have e4 : ρ 4 = (q_n ρ 4 : Int) := hR.n (by decide)
  have b4 := hR.2.1.2.2.2.2.1
  have hp7 := p7 (n := q_n ρ 4) (by omega)
  have hD : (τ 14).toNat < 2 ^ q_n ρ 4 := hT.said2 hR
  have e14 : τ 14 = ((τ 14).toNat : Int) := by have := hT.1 14 (by decide); omega
  have t0 := hT.1 16 (by decide)
  have t1 := hT.2.2.2.2.1
  have hul := q_un_lt (q_n ρ 4) (τ 14).toNat
  intro j
  induction j with
  | zero =>
    intro i hi o4 o5 o6
    refine p_iload_n 5 dX12_wordsIn_4 rfl rfl ?_
    refine p_aload_n 6 dX12_wordsIn_5 rfl rfl (by decide) ?_
    refine p_callV0i 124 9 dX12_wordsIn_6 (s_unsaid hW hE hR hU hT) lk_X12_319 mX12_unsaid rfl rfl (by decide) (Nat.le_of_ble_eq_true rfl) ?_
    rintro _ _ ⟨rfl, e9⟩
    have e9 := e9.symm
    subst e9
    refine p_icmp_gt 143 12 dX12_wordsIn_9 (by omega) (by omega) (by omega) (by omega) (fun h9 => ?_) (fun h9 => absurd (by omega) (fun h9 : False => h9))
    refine p_aload_n 144 dX12_wordsIn_143 rfl rfl (by decide) ?_
    refine p_getR 124 147 dX12_wordsIn_144 fX12_26 rfl (hW (124, 17, 129) (by decide)) ?_
    refine p_bipush 149 dX12_wordsIn_147 rfl ?_
    refine p_ialdn 129 150 (16) dX12_wordsIn_149 rfl (by omega) (by omega) ?_
    rw [hU 16 (by decide)]
    refine p_if_le 157 153 dX12_wordsIn_150 (by omega) (by omega) (fun h150 => ?_) (fun h150 => ?_)
    · refine p_iload_n 158 dX12_wordsIn_157 rfl rfl ?_
      refine p_iret dX12_wordsIn_158 rfl ?_
      rw [Nat.add_zero] at hi
      refine ⟨_, rfl, ?_, rfl⟩
      first | (rw [if_neg (by omega), hi]; done) | (rw [if_pos (by omega)]; done)
    · refine p_iconst 154 dX12_wordsIn_153 ?_
      refine p_goto 158 dX12_wordsIn_154 ?_
      refine p_iret dX12_wordsIn_158 rfl ?_
      rw [Nat.add_zero] at hi
      refine ⟨_, rfl, ?_, rfl⟩
      first | (rw [if_neg (by omega), hi]; done) | (rw [if_pos (by omega)]; done)
  | succ j ih =>
    intro i hi o4 o5 o6
    have hl := q_lk_le ρ (q_un (q_n ρ 4) (τ 14).toNat) m i
    have ha1 : i &&& (2147483647 ^^^ (q_un (q_n ρ 4) (τ 14).toNat)) ≤ i := Nat.and_le_left
    have hk01 := q_nk01 (q_n ρ) i (τ 14).toNat (q_n ρ 4)
    have ho1 := q_odds_le hR i
    have ho2 := q_odds_le hR (q_lk ρ (q_un (q_n ρ 4) (τ 14).toNat) m i)
    have hmm := q_mins_le hR i
    refine p_iload_n 5 dX12_wordsIn_4 rfl rfl ?_
    refine p_aload_n 6 dX12_wordsIn_5 rfl rfl (by decide) ?_
    refine p_callV0i 124 9 dX12_wordsIn_6 (s_unsaid hW hE hR hU hT) lk_X12_319 mX12_unsaid rfl rfl (by decide) (Nat.le_of_ble_eq_true rfl) ?_
    rintro _ _ ⟨rfl, e9⟩
    have e9 := e9.symm
    subst e9
    refine p_icmp_gt 143 12 dX12_wordsIn_9 (by omega) (by omega) (by omega) (by omega) (fun h9 => absurd (by omega) (fun h9 : False => h9)) (fun h9 => ?_)
    refine p_iload_n 13 dX12_wordsIn_12 rfl rfl ?_
    refine p_aload_n 14 dX12_wordsIn_13 rfl rfl (by decide) ?_
    refine p_callV0i 124 17 dX12_wordsIn_14 (s_unsaid hW hE hR hU hT) lk_X12_319 mX12_unsaid rfl rfl (by decide) (Nat.le_of_ble_eq_true rfl) ?_
    rintro _ _ ⟨rfl, e9⟩
    have e9 := e9.symm
    subst e9
    refine p_iconst 18 dX12_wordsIn_17 ?_
    refine p_ixor 19 dX12_wordsIn_18 ?_
    refine p_iand 20 dX12_wordsIn_19 ?_
    rw [z_andn_n i (q_un (q_n ρ 4) (τ 14).toNat) (by omega) (by omega)]
    refine p_if_eq 26 23 dX12_wordsIn_20 (by omega) (by omega) (fun h20 => ?_) (fun h20 => ?_)
    · refine p_iconst 27 dX12_wordsIn_26 ?_
      refine p_istore 29 dX12_wordsIn_27 (Nat.le_of_ble_eq_true rfl) rfl rfl ?_
      dsimp only [List.set]
      refine p_iconst 30 dX12_wordsIn_29 ?_
      refine p_istore 32 dX12_wordsIn_30 (Nat.le_of_ble_eq_true rfl) rfl rfl ?_
      dsimp only [List.set]
      refine p_iconst 33 dX12_wordsIn_32 ?_
      refine p_istore 35 dX12_wordsIn_33 (Nat.le_of_ble_eq_true rfl) rfl rfl ?_
      dsimp only [List.set]
      have h20 : i &&& (2147483647 ^^^ (q_un (q_n ρ 4) (τ 14).toNat)) = 0 := by omega
      refine l_wordsI hR hR1 hW hE hU hT (S := i) (by omega) ?_ (q_n ρ 4) 0 (Nat.zero_add _)
      refine p_iload 113 dX12_wordsIn_111 rfl ?_
      refine p_if_eq 137 116 dX12_wordsIn_113 (by omega) (by omega) (fun h113 => ?_) (fun h113 => ?_)
      · refine p_iinc 140 dX12_wordsIn_137 rfl rfl rfl ?_
        dsimp only [List.set]
        refine p_goto 4 dX12_wordsIn_140 ?_
        have er : q_lk ρ (q_un (q_n ρ 4) (τ 14).toNat) m (i + 1) = if q_lkok ρ (q_un (q_n ρ 4) (τ 14).toNat) m i = true ∧ q_odds (q_n ρ) (q_lk ρ (q_un (q_n ρ 4) (τ 14).toNat) m i) < q_odds (q_n ρ) i then i else q_lk ρ (q_un (q_n ρ 4) (τ 14).toNat) m i := rfl
        have ek : q_lkok ρ (q_un (q_n ρ 4) (τ 14).toNat) m i = true ↔ q_nk (q_n ρ) i (τ 14).toNat (q_n ρ 4) = 1 ∧ (q_mins (q_n ρ) i : Int) ≤ m := by
          unfold q_lkok
          rw [q_nk_eq, Bool.and_eq_true, Bool.and_eq_true, decide_eq_true_eq, decide_eq_true_eq, decide_eq_true_eq]
          have hn := needs_said (S := i) (D := (τ 14).toNat) (n := q_n ρ 4) (by omega) (q_needs_lt2 hR hR1 i _ (Nat.le_refl _))
          by_cases gq : q_needs (q_n ρ) i (q_n ρ 4) &&& (2147483647 ^^^ (i ||| (τ 14).toNat)) = 0
          · rw [if_pos gq]
            exact ⟨fun g => ⟨rfl, g.2⟩, fun g => ⟨⟨h20, hn.mp gq⟩, g.2⟩⟩
          · rw [if_neg gq]
            exact ⟨fun g => absurd (hn.mpr g.1.2) gq, fun g => absurd g.1 (by decide)⟩
        first
          | (have e := ih (i + 1) (by omega) (some (zi (q_mins (q_n ρ) i : Int))) (some (zi (q_nk (q_n ρ) i (τ 14).toNat (q_n ρ 4)))) (some (zi (q_n ρ 4 : Int)))
             rw [er, if_pos (by rw [ek]; omega)] at e
             exact e)
          | (have e := ih (i + 1) (by omega) (some (zi (q_mins (q_n ρ) i : Int))) (some (zi (q_nk (q_n ρ) i (τ 14).toNat (q_n ρ 4)))) (some (zi (q_n ρ 4 : Int)))
             rw [er, if_neg (by rw [ek]; omega)] at e
             exact e)
      · refine p_iload 118 dX12_wordsIn_116 rfl ?_
        refine p_iload_n 119 dX12_wordsIn_118 rfl rfl ?_
        refine p_icmp_gt 137 122 dX12_wordsIn_119 (by omega) (by omega) (by omega) (by omega) (fun h119 => ?_) (fun h119 => ?_)
        · refine p_iinc 140 dX12_wordsIn_137 rfl rfl rfl ?_
          dsimp only [List.set]
          refine p_goto 4 dX12_wordsIn_140 ?_
          have er : q_lk ρ (q_un (q_n ρ 4) (τ 14).toNat) m (i + 1) = if q_lkok ρ (q_un (q_n ρ 4) (τ 14).toNat) m i = true ∧ q_odds (q_n ρ) (q_lk ρ (q_un (q_n ρ 4) (τ 14).toNat) m i) < q_odds (q_n ρ) i then i else q_lk ρ (q_un (q_n ρ 4) (τ 14).toNat) m i := rfl
          have ek : q_lkok ρ (q_un (q_n ρ 4) (τ 14).toNat) m i = true ↔ q_nk (q_n ρ) i (τ 14).toNat (q_n ρ 4) = 1 ∧ (q_mins (q_n ρ) i : Int) ≤ m := by
            unfold q_lkok
            rw [q_nk_eq, Bool.and_eq_true, Bool.and_eq_true, decide_eq_true_eq, decide_eq_true_eq, decide_eq_true_eq]
            have hn := needs_said (S := i) (D := (τ 14).toNat) (n := q_n ρ 4) (by omega) (q_needs_lt2 hR hR1 i _ (Nat.le_refl _))
            by_cases gq : q_needs (q_n ρ) i (q_n ρ 4) &&& (2147483647 ^^^ (i ||| (τ 14).toNat)) = 0
            · rw [if_pos gq]
              exact ⟨fun g => ⟨rfl, g.2⟩, fun g => ⟨⟨h20, hn.mp gq⟩, g.2⟩⟩
            · rw [if_neg gq]
              exact ⟨fun g => absurd (hn.mpr g.1.2) gq, fun g => absurd g.1 (by decide)⟩
          first
            | (have e := ih (i + 1) (by omega) (some (zi (q_mins (q_n ρ) i : Int))) (some (zi (q_nk (q_n ρ) i (τ 14).toNat (q_n ρ 4)))) (some (zi (q_n ρ 4 : Int)))
               rw [er, if_pos (by rw [ek]; omega)] at e
               exact e)
            | (have e := ih (i + 1) (by omega) (some (zi (q_mins (q_n ρ) i : Int))) (some (zi (q_nk (q_n ρ) i (τ 14).toNat (q_n ρ 4)))) (some (zi (q_n ρ 4 : Int)))
               rw [er, if_neg (by rw [ek]; omega)] at e
               exact e)
        · refine p_aload_n 123 dX12_wordsIn_122 rfl rfl (by decide) ?_
          refine p_iload_n 124 dX12_wordsIn_123 rfl rfl ?_
          refine p_callV1i 124 127 dX12_wordsIn_124 (s_oddsIn hW hE hR (S := i) (by omega)) lk_X12_322 mX12_oddsIn rfl rfl (by decide) (Nat.le_of_ble_eq_true rfl) ?_
          rintro _ _ ⟨rfl, e9⟩
          have e9 := e9.symm
          subst e9
          refine p_aload_n 128 dX12_wordsIn_127 rfl rfl (by decide) ?_
          refine p_iload_n 129 dX12_wordsIn_128 rfl rfl ?_
          refine p_callV1i 124 132 dX12_wordsIn_129 (s_oddsIn hW hE hR (S := q_lk ρ (q_un (q_n ρ 4) (τ 14).toNat) m i) (by omega)) lk_X12_322 mX12_oddsIn rfl rfl (by decide) (Nat.le_of_ble_eq_true rfl) ?_
          rintro _ _ ⟨rfl, e9⟩
          have e9 := e9.symm
          subst e9
          refine p_icmp_le 137 135 dX12_wordsIn_132 (by omega) (by omega) (by omega) (by omega) (fun h132 => ?_) (fun h132 => ?_)
          · refine p_iinc 140 dX12_wordsIn_137 rfl rfl rfl ?_
            dsimp only [List.set]
            refine p_goto 4 dX12_wordsIn_140 ?_
            have er : q_lk ρ (q_un (q_n ρ 4) (τ 14).toNat) m (i + 1) = if q_lkok ρ (q_un (q_n ρ 4) (τ 14).toNat) m i = true ∧ q_odds (q_n ρ) (q_lk ρ (q_un (q_n ρ 4) (τ 14).toNat) m i) < q_odds (q_n ρ) i then i else q_lk ρ (q_un (q_n ρ 4) (τ 14).toNat) m i := rfl
            have ek : q_lkok ρ (q_un (q_n ρ 4) (τ 14).toNat) m i = true ↔ q_nk (q_n ρ) i (τ 14).toNat (q_n ρ 4) = 1 ∧ (q_mins (q_n ρ) i : Int) ≤ m := by
              unfold q_lkok
              rw [q_nk_eq, Bool.and_eq_true, Bool.and_eq_true, decide_eq_true_eq, decide_eq_true_eq, decide_eq_true_eq]
              have hn := needs_said (S := i) (D := (τ 14).toNat) (n := q_n ρ 4) (by omega) (q_needs_lt2 hR hR1 i _ (Nat.le_refl _))
              by_cases gq : q_needs (q_n ρ) i (q_n ρ 4) &&& (2147483647 ^^^ (i ||| (τ 14).toNat)) = 0
              · rw [if_pos gq]
                exact ⟨fun g => ⟨rfl, g.2⟩, fun g => ⟨⟨h20, hn.mp gq⟩, g.2⟩⟩
              · rw [if_neg gq]
                exact ⟨fun g => absurd (hn.mpr g.1.2) gq, fun g => absurd g.1 (by decide)⟩
            first
              | (have e := ih (i + 1) (by omega) (some (zi (q_mins (q_n ρ) i : Int))) (some (zi (q_nk (q_n ρ) i (τ 14).toNat (q_n ρ 4)))) (some (zi (q_n ρ 4 : Int)))
                 rw [er, if_pos (by rw [ek]; omega)] at e
                 exact e)
              | (have e := ih (i + 1) (by omega) (some (zi (q_mins (q_n ρ) i : Int))) (some (zi (q_nk (q_n ρ) i (τ 14).toNat (q_n ρ 4)))) (some (zi (q_n ρ 4 : Int)))
                 rw [er, if_neg (by rw [ek]; omega)] at e
                 exact e)
          · refine p_iload_n 136 dX12_wordsIn_135 rfl rfl ?_
            refine p_istore_n 137 dX12_wordsIn_136 rfl (Nat.le_of_ble_eq_true rfl) rfl rfl ?_
            dsimp only [List.set]
            refine p_iinc 140 dX12_wordsIn_137 rfl rfl rfl ?_
            dsimp only [List.set]
            refine p_goto 4 dX12_wordsIn_140 ?_
            have er : q_lk ρ (q_un (q_n ρ 4) (τ 14).toNat) m (i + 1) = if q_lkok ρ (q_un (q_n ρ 4) (τ 14).toNat) m i = true ∧ q_odds (q_n ρ) (q_lk ρ (q_un (q_n ρ 4) (τ 14).toNat) m i) < q_odds (q_n ρ) i then i else q_lk ρ (q_un (q_n ρ 4) (τ 14).toNat) m i := rfl
            have ek : q_lkok ρ (q_un (q_n ρ 4) (τ 14).toNat) m i = true ↔ q_nk (q_n ρ) i (τ 14).toNat (q_n ρ 4) = 1 ∧ (q_mins (q_n ρ) i : Int) ≤ m := by
              unfold q_lkok
              rw [q_nk_eq, Bool.and_eq_true, Bool.and_eq_true, decide_eq_true_eq, decide_eq_true_eq, decide_eq_true_eq]
              have hn := needs_said (S := i) (D := (τ 14).toNat) (n := q_n ρ 4) (by omega) (q_needs_lt2 hR hR1 i _ (Nat.le_refl _))
              by_cases gq : q_needs (q_n ρ) i (q_n ρ 4) &&& (2147483647 ^^^ (i ||| (τ 14).toNat)) = 0
              · rw [if_pos gq]
                exact ⟨fun g => ⟨rfl, g.2⟩, fun g => ⟨⟨h20, hn.mp gq⟩, g.2⟩⟩
              · rw [if_neg gq]
                exact ⟨fun g => absurd (hn.mpr g.1.2) gq, fun g => absurd g.1 (by decide)⟩
            first
              | (have e := ih (i + 1) (by omega) (some (zi (q_mins (q_n ρ) i : Int))) (some (zi (q_nk (q_n ρ) i (τ 14).toNat (q_n ρ 4)))) (some (zi (q_n ρ 4 : Int)))
                 rw [er, if_pos (by rw [ek]; omega)] at e
                 exact e)
              | (have e := ih (i + 1) (by omega) (some (zi (q_mins (q_n ρ) i : Int))) (some (zi (q_nk (q_n ρ) i (τ 14).toNat (q_n ρ 4)))) (some (zi (q_n ρ 4 : Int)))
                 rw [er, if_neg (by rw [ek]; omega)] at e
                 exact e)
    · refine p_goto 137 dX12_wordsIn_23 ?_
      refine p_iinc 140 dX12_wordsIn_137 rfl rfl rfl ?_
      dsimp only [List.set]
      refine p_goto 4 dX12_wordsIn_140 ?_
      have er : q_lk ρ (q_un (q_n ρ 4) (τ 14).toNat) m (i + 1) = if q_lkok ρ (q_un (q_n ρ 4) (τ 14).toNat) m i = true ∧ q_odds (q_n ρ) (q_lk ρ (q_un (q_n ρ 4) (τ 14).toNat) m i) < q_odds (q_n ρ) i then i else q_lk ρ (q_un (q_n ρ 4) (τ 14).toNat) m i := rfl
      have e := ih (i + 1) (by omega) o4 o5 o6
      rw [er, if_neg (fun g => h20 (by
        have g1 := g.1
        unfold q_lkok at g1
        rw [Bool.and_eq_true, Bool.and_eq_true, decide_eq_true_eq] at g1
        omega))] at e
      exact e
theorem s_wordsIn {l : Launch} {X : ZX} {M : ZM} {ρ : Nat → Int} (hR : wfR ρ) (hR1 : wfR1 ρ) (hW : zWm M) (hE : ∀ i, i < 421 → M 127 i = ρ i) {τ : Nat → Int} (hU : ∀ i, i < 18 → M 129 i = τ i) (hT : wfT ρ τ) {m : Int} (hm1 : -2147483648 ≤ m) (hm2 : m < 2147483648) : zCi l X 2 yX12_wordsIn tX12_wordsIn [zr 124, zi m] M (fun a M' => a = (if 0 < τ 16 then 0 else (q_lk ρ (q_un (q_n ρ 4) (τ 14).toNat) m ((q_un (q_n ρ 4) (τ 14).toNat) + 1) : Int)) ∧ M' = M) := by
  refine zC.of [some (zr 124), some (zi m), none, none, none, none, none] (by decide +kernel) rfl rfl (Nat.le_of_ble_eq_true rfl) rfl ?_
  refine p_iconst 1 dX12_wordsIn_0 ?_
  refine p_istore_n 2 dX12_wordsIn_1 rfl (Nat.le_of_ble_eq_true rfl) rfl rfl ?_
  dsimp only [List.set]
  refine p_iconst 3 dX12_wordsIn_2 ?_
  refine p_istore_n 4 dX12_wordsIn_3 rfl (Nat.le_of_ble_eq_true rfl) rfl rfl ?_
  dsimp only [List.set]
  exact l_wordsIn hR hR1 hW hE hU hT hm1 hm2 ((q_un (q_n ρ 4) (τ 14).toNat) + 1) 0 (Nat.zero_add _) none none none
