/-! THE STATE. s (a table of integers) is read by the model's cells: 124 the model's own fields, 125 its tape, 127 the county's row r, 129 what is now (st), 130 what was (undone), 131 the images. -/
def zwC : List (Nat × Nat × Int) := zwl.filter (fun q => decide (q.1 < 124))
def zwM : List (Nat × Nat × Int) := zwl.filter (fun q => decide (124 ≤ q.1))
def zWc (M : ZM) : Prop := ∀ q ∈ zwC, M q.1 q.2.1 = q.2.2
def zWm (M : ZM) : Prop := ∀ q ∈ zwM, M q.1 q.2.1 = q.2.2
theorem zWc.fr {M M' : ZM} (h : zWc M) (hf : ∀ q ∈ zwC, M' q.1 q.2.1 = M q.1 q.2.1) : zWc M' := fun q hq => (hf q hq).trans (h q hq)
theorem zWc.set {M : ZM} {c k : Nat} {v : Int} (h : zWc M) (hk : zwC.all (fun q => !(q.1 == c && q.2.1 == k)) = true) : zWc (zset M c k v) := by
  intro q hq
  have h1 := List.all_eq_true.mp hk q hq
  have h2 := h q hq
  unfold zset
  by_cases a1 : q.1 = c
  · rw [if_pos a1]
    by_cases a2 : q.2.1 = k
    · simp [a1, a2] at h1
    · rw [if_neg a2]
      exact h2
  · rw [if_neg a1]
    exact h2
theorem zWm.set {M : ZM} {c k : Nat} {v : Int} (h : zWm M) (hk : zwM.all (fun q => !(q.1 == c && q.2.1 == k)) = true) : zWm (zset M c k v) := by
  intro q hq
  have h1 := List.all_eq_true.mp hk q hq
  have h2 := h q hq
  unfold zset
  by_cases a1 : q.1 = c
  · rw [if_pos a1]
    by_cases a2 : q.2.1 = k
    · simp [a1, a2] at h1
    · rw [if_neg a2]
      exact h2
  · rw [if_neg a1]
    exact h2
/-- sums and sets, counted up -/
def q_sum (f : Nat → Nat) : Nat → Nat
  | 0 => 0
  | n + 1 => q_sum f n + f n
def q_set (p : Nat → Bool) : Nat → Nat
  | 0 => 0
  | n + 1 => if p n then q_set p n ||| 2 ^ n else q_set p n
theorem q_set_lt (p : Nat → Bool) : ∀ n, q_set p n < 2 ^ n := by
  intro n
  induction n with
  | zero => simp [q_set]
  | succ n ih =>
    have h2 : 2 ^ n < 2 ^ (n + 1) := Nat.pow_lt_pow_right (by decide) (Nat.lt_succ_self n)
    unfold q_set
    split
    · exact Nat.or_lt_two_pow (Nat.lt_trans ih h2) h2
    · exact Nat.lt_trans ih h2
theorem q_set_bit (p : Nat → Bool) : ∀ n i, (q_set p n).testBit i = (decide (i < n) && p i) := by
  intro n
  induction n with
  | zero => intro i; simp [q_set]
  | succ n ih =>
    intro i
    unfold q_set
    by_cases hp : p n = true
    · rw [if_pos hp, Nat.testBit_or, ih, Nat.testBit_two_pow]
      by_cases h : n = i
      · subst h
        simp [hp]
      · simp [h]
        by_cases h1 : i < n
        · simp [h1, Nat.lt_succ_of_lt h1]
        · simp [h1, show ¬ i < n + 1 by omega]
    · rw [if_neg hp, ih]
      by_cases h : n = i
      · subst h
        simp [hp]
      · by_cases h1 : i < n
        · simp [h1, Nat.lt_succ_of_lt h1]
        · simp [h1, show ¬ i < n + 1 by omega]
theorem q_sum_le (f : Nat → Nat) (b : Nat) (h : ∀ i, f i ≤ b) : ∀ n, q_sum f n ≤ n * b := by
  intro n
  induction n with
  | zero => simp [q_sum]
  | succ n ih =>
    unfold q_sum
    have := h n
    rw [Nat.succ_mul]
    omega
theorem q_sum_le' (f : Nat → Nat) (b n : Nat) (h : ∀ i, i < n → f i ≤ b) : q_sum f n ≤ n * b := by
  induction n with
  | zero => simp [q_sum]
  | succ n ih =>
    unfold q_sum
    have h1 := h n (Nat.lt_succ_self n)
    have h2 := ih (fun i hi => h i (Nat.lt_succ_of_lt hi))
    rw [Nat.succ_mul]
    omega
theorem q_sum_congr {f g : Nat → Nat} {n : Nat} (h : ∀ i, i < n → f i = g i) : q_sum f n = q_sum g n := by
  induction n with
  | zero => rfl
  | succ n ih =>
    unfold q_sum
    rw [ih (fun i hi => h i (Nat.lt_succ_of_lt hi)), h n (Nat.lt_succ_self n)]
theorem q_set_congr {f g : Nat → Bool} {n : Nat} (h : ∀ i, i < n → f i = g i) : q_set f n = q_set g n := by
  induction n with
  | zero => rfl
  | succ n ih =>
    unfold q_set
    rw [ih (fun i hi => h i (Nat.lt_succ_of_lt hi)), h n (Nat.lt_succ_self n)]
/-- a word of letters at place f of a row is well formed -/
def q_wordOk (ρ : Nat → Int) (f : Nat) : Prop := ρ f ≤ 8 ∧ ∀ j : Nat, (j : Int) < ρ f → 97 ≤ ρ (f + 1 + j) ∧ ρ (f + 1 + j) ≤ 122
/-- a county's row is well formed: what holds of an empty one too -/
def wfR (ρ : Nat → Int) : Prop := (∀ i, i < 421 → 0 ≤ ρ i) ∧ (ρ 0 ≤ 9 ∧ ρ 1 ≤ 100 ∧ ρ 2 ≤ 7 ∧ ρ 3 ≤ 3 ∧ ρ 4 ≤ 7 ∧ ρ 5 ≤ 8 ∧ ρ 6 ≤ 6 ∧ ρ 7 ≤ 5) ∧ (∀ s, s < 7 → ρ (8 + 3 * s) ≤ 3 ∧ ρ (8 + 3 * s + 1) ≤ 9 ∧ ρ (8 + 3 * s + 2) ≤ 20) ∧ (∀ a, a < 3 → ρ (29 + 3 * a) ≤ 9 ∧ ρ (29 + 3 * a + 1) ≤ 4 ∧ ρ (29 + 3 * a + 2) ≤ 9) ∧ (∀ w, w < 7 → ρ (38 + 3 * w) ≤ 99 ∧ ρ (38 + 3 * w + 1) ≤ 30 ∧ ρ (38 + 3 * w + 2) ≤ 127) ∧ (∀ k, k < 6 → ρ (59 + 19 * k) ≤ 9 ∧ q_wordOk ρ (59 + 19 * k + 1) ∧ q_wordOk ρ (59 + 19 * k + 10)) ∧ (∀ k, k < 5 → ρ (173 + 19 * k) ≤ 1 ∧ q_wordOk ρ (173 + 19 * k + 1) ∧ q_wordOk ρ (173 + 19 * k + 10))
/-- what is now is well formed, over a county's row -/
def wfT (ρ τ : Nat → Int) : Prop := (∀ i, i < 18 → 0 ≤ τ i) ∧ (∀ s : Nat, s < 7 → τ s ≤ 40 * τ 15 ∧ τ (7 + s) ≤ ρ 3 ∧ (ρ 2 ≤ (s : Int) → τ s = 0 ∧ τ (7 + s) = 0)) ∧ τ 14 < 2 ^ (ρ 4).toNat ∧ τ 15 ≤ 999 ∧ τ 16 ≤ 1 ∧ τ 17 ≤ 65536 ∧ ∀ a : Nat, (a : Int) < ρ 3 → (q_sum (fun s => if τ (7 + s) = (a : Int) + 1 then 1 else 0) 7 : Int) ≤ ρ (29 + 3 * a + 1)
