/-! all that must come before a word: the least closed set -/
def q_row (r : Nat → Nat) (k : Nat) : Nat := r (38 + 3 * k + 2)
def q_sub (S T : Nat) : Prop := ∀ i, S.testBit i = true → T.testBit i = true
def q_clo (r : Nat → Nat) (T : Nat) : Prop := ∀ k, k < 7 → T.testBit k = true → q_sub (q_row r k) T
theorem q_sub.rfl {S : Nat} : q_sub S S := fun _ h => h
theorem q_sub.trans {A B C : Nat} (h1 : q_sub A B) (h2 : q_sub B C) : q_sub A C := fun i h => h2 i (h1 i h)
theorem q_sub.eq {A B : Nat} (h1 : q_sub A B) (h2 : q_sub B A) : A = B := by
  apply Nat.eq_of_testBit_eq
  intro i
  cases ha : A.testBit i with
  | true => exact (h1 i ha).symm
  | false =>
    cases hb : B.testBit i with
    | true => rw [h2 i hb] at ha; cases ha
    | false => rfl
theorem q_abS_sub (r : Nat → Nat) (S k : Nat) : q_sub S (q_abS r S k) := by
  intro i h
  unfold q_abS
  split
  · rw [Nat.testBit_or, h]; rfl
  · exact h
theorem q_abK_step (r : Nat → Nat) (S k : Nat) : q_abK r S (k + 1) = q_abS r (q_abK r S k) k := Eq.refl _
theorem q_abK_sub (r : Nat → Nat) (S : Nat) : ∀ k, q_sub S (q_abK r S k) := by
  intro k
  induction k with
  | zero => exact q_sub.rfl
  | succ k ih =>
    rw [q_abK_step]
    exact ih.trans (q_abS_sub r _ k)
theorem q_abK_mono (r : Nat → Nat) (S : Nat) {j : Nat} : ∀ k, j ≤ k → q_sub (q_abK r S j) (q_abK r S k) := by
  intro k
  induction k with
  | zero =>
    intro h
    rw [show j = 0 by omega]
    exact q_sub.rfl
  | succ k ih =>
    intro h
    by_cases e : j = k + 1
    · rw [e]
      exact q_sub.rfl
    · rw [q_abK_step]
      exact (ih (by omega)).trans (q_abS_sub r _ k)
theorem q_abK_fix {r : Nat → Nat} {S : Nat} (h : q_abK r S 7 = S) : q_clo r S := by
  intro k hk hb
  have h1 : q_abK r S k = S := q_sub.eq (by have := q_abK_mono r S (j := k) 7 (by omega); rw [h] at this; exact this) (q_abK_sub r S k)
  have h2 : q_abK r S (k + 1) = S := q_sub.eq (by have := q_abK_mono r S (j := k + 1) 7 (by omega); rw [h] at this; exact this) (q_abK_sub r S (k + 1))
  rw [q_abK_step, h1] at h2
  unfold q_abS at h2
  rw [if_pos hb] at h2
  intro i hi
  rw [← h2, Nat.testBit_or]
  have : (r (38 + 3 * k + 2)).testBit i = true := hi
  rw [this]
  simp
theorem q_abK_in {r : Nat → Nat} {S T : Nat} (hT : q_clo r T) (hS : q_sub S T) : ∀ k, k ≤ 7 → q_sub (q_abK r S k) T := by
  intro k
  induction k with
  | zero => intro _; exact hS
  | succ k ih =>
    intro hk
    rw [q_abK_step]
    have h1 := ih (by omega)
    unfold q_abS
    split
    · rename_i hb
      intro i hi
      rw [Nat.testBit_or, Bool.or_eq_true] at hi
      rcases hi with hi | hi
      · exact h1 i hi
      · exact hT k (by omega) (h1 k hb) i hi
    · exact h1
theorem q_abN_in {r : Nat → Nat} {S T : Nat} (hT : q_clo r T) (hS : q_sub S T) : ∀ n, q_sub (q_abN r S n) T := by
  intro n
  induction n with
  | zero => exact hS
  | succ n ih => exact q_abK_in hT ih 7 (Nat.le_refl 7)
theorem q_abN_sub (r : Nat → Nat) (S : Nat) : ∀ n, q_sub S (q_abN r S n) := by
  intro n
  induction n with
  | zero => exact q_sub.rfl
  | succ n ih => exact ih.trans (q_abK_sub r _ 7)
theorem q_cntp_mono {p q : Nat → Bool} (h : ∀ i, p i = true → q i = true) : ∀ n, q_cntp p n ≤ q_cntp q n := by
  intro n
  induction n with
  | zero => exact Nat.le_refl _
  | succ n ih =>
    show q_cntp p n + (if p n then 1 else 0) ≤ q_cntp q n + (if q n then 1 else 0)
    by_cases hp : p n = true
    · rw [if_pos hp, if_pos (h n hp)]
      omega
    · rw [if_neg hp]
      split <;> omega
theorem q_cntp_lt {p q : Nat → Bool} (h : ∀ i, p i = true → q i = true) {k : Nat} (hk : p k = false) (hq : q k = true) : ∀ n, k < n → q_cntp p n < q_cntp q n := by
  intro n
  induction n with
  | zero => intro h; omega
  | succ n ih =>
    intro hn
    show q_cntp p n + (if p n then 1 else 0) < q_cntp q n + (if q n then 1 else 0)
    by_cases e : k = n
    · subst e
      have := q_cntp_mono h k
      rw [hk, hq, if_neg (by decide), if_pos (Eq.refl _)]
      omega
    · have := ih (by omega)
      by_cases hp : p n = true
      · rw [if_pos hp, if_pos (h n hp)]
        omega
      · rw [if_neg hp]
        split <;> omega
theorem q_c7_lt {S T : Nat} (hT : T < 128) (h : q_sub S T) {k : Nat} (hk : S.testBit k = false) (hq : T.testBit k = true) : q_c7 S < q_c7 T := q_cntp_lt h hk hq 7 (testBit_lt (n := 7) hT hq)
theorem q_sub_ne {S T : Nat} (h : q_sub S T) (hne : ¬ T = S) : ∃ k, S.testBit k = false ∧ T.testBit k = true := by
  by_cases hx : ∃ k, S.testBit k = false ∧ T.testBit k = true
  · exact hx
  · exfalso
    apply hne
    refine q_sub.eq (fun i hi => ?_) h
    cases hs : S.testBit i with
    | true => rfl
    | false => exact absurd ⟨i, hs, hi⟩ hx
theorem q_c7_full {S : Nat} (hS : S < 128) (h : 7 ≤ q_c7 S) : S = 127 := by
  have : ∀ S, S < 128 → 7 ≤ q_c7 S → S = 127 := by decide +kernel
  exact this S hS h
theorem q_abN_fix {r : Nat → Nat} (hr : ∀ k, k < 7 → q_row r k < 128) {S : Nat} (hS : S < 128) : q_abK r (q_abN r S 7) 7 = q_abN r S 7 := by
  have hlt : ∀ n, q_abN r S n < 128 := by
    intro n
    induction n with
    | zero => exact hS
    | succ n ih => exact q_abK_lt hr ih 7 (Nat.le_refl 7)
  have hst : ∀ n, q_abK r (q_abN r S n) 7 = q_abN r S n ∨ n ≤ q_c7 (q_abN r S n) := by
    intro n
    induction n with
    | zero => exact Or.inr (Nat.zero_le _)
    | succ n ih =>
      have e : q_abN r S (n + 1) = q_abK r (q_abN r S n) 7 := Eq.refl _
      by_cases hf : q_abK r (q_abN r S n) 7 = q_abN r S n
      · left
        rw [e, hf]
        exact hf
      · right
        have h1 := ih.resolve_left hf
        obtain ⟨k, k1, k2⟩ := q_sub_ne (q_abK_sub r (q_abN r S n) 7) hf
        have := q_c7_lt (by rw [← e]; exact hlt (n + 1)) (q_abK_sub r (q_abN r S n) 7) k1 k2
        rw [e]
        omega
  rcases hst 7 with h | h
  · exact h
  · have e := q_c7_full (hlt 7) h
    have h2 := q_c7_full (S := q_abK r (q_abN r S 7) 7) (q_abK_lt hr (hlt 7) 7 (Nat.le_refl 7)) (by
      have := q_cntp_mono (q_abK_sub r (q_abN r S 7) 7) 7
      have h3 : q_cntp (fun k => (q_abN r S 7).testBit k) 7 ≤ q_cntp (fun k => (q_abK r (q_abN r S 7) 7).testBit k) 7 := this
      unfold q_c7 at h ⊢
      omega)
    rw [h2, e]
theorem ab_clo {r : Nat → Nat} (hr : ∀ k, k < 7 → q_row r k < 128) {w : Nat} (hw : w < 7) : q_clo r (q_ab r w) := q_abK_fix (q_abN_fix hr (hr w hw))
theorem ab_row (r : Nat → Nat) (w : Nat) : q_sub (q_row r w) (q_ab r w) := q_abN_sub r _ 7
theorem ab_least {r : Nat → Nat} {w T : Nat} (h1 : q_sub (q_row r w) T) (hT : q_clo r T) : q_sub (q_ab r w) T := q_abN_in hT h1 7
theorem ab_trans {r : Nat → Nat} (hr : ∀ k, k < 7 → q_row r k < 128) {w k : Nat} (hw : w < 7) (hk : k < 7) (h : (q_ab r w).testBit k = true) : q_sub (q_ab r k) (q_ab r w) := ab_least (ab_clo hr hw k hk h) (ab_clo hr hw)
theorem q_and_sub {A S : Nat} : q_sub (A &&& S) S := fun i h => by
  rw [Nat.testBit_and, Bool.and_eq_true] at h
  exact h.2
/-- where none is before itself, every set has one that may be the first -/
theorem ab_first {r : Nat → Nat} {n : Nat} (hn : n ≤ 7) (hr : ∀ k, k < 7 → q_row r k < 128) (hac : ∀ w, w < n → (q_ab r w).testBit w = false) : ∀ S, S ≠ 0 → S < 2 ^ n → ∃ w, w < n ∧ q_can r S w = true := by
  intro S h0 hS
  have hp := p7 hn
  have key : ∀ m w, S.testBit w = true → q_c7 (q_ab r w &&& S) ≤ m → ∃ v, v < n ∧ q_can r S v = true := by
    intro m
    induction m with
    | zero =>
      intro w hw hc
      have hwn := testBit_lt hS hw
      refine ⟨w, hwn, ?_⟩
      have hz : q_ab r w &&& S = 0 := by
        by_cases hz : q_ab r w &&& S = 0
        · exact hz
        · exfalso
          have hlt : q_ab r w &&& S < 128 := Nat.lt_of_le_of_lt Nat.and_le_right (by omega)
          exact hz (q_c7_zero _ hlt (by omega))
      unfold q_can
      rw [hw, decide_eq_true hz]
      rfl
    | succ m ih =>
      intro w hw hc
      have hwn := testBit_lt hS hw
      by_cases hz : q_ab r w &&& S = 0
      · refine ⟨w, hwn, ?_⟩
        unfold q_can
        rw [hw, decide_eq_true hz]
        rfl
      · have hlt : q_ab r w &&& S < 128 := Nat.lt_of_le_of_lt Nat.and_le_right (by omega)
        have hb := q_ntz_bit (q_ab r w &&& S) hlt hz
        generalize q_ntz (q_ab r w &&& S) = k at hb
        rw [Nat.testBit_and, Bool.and_eq_true] at hb
        have hkn := testBit_lt hS hb.2
        have htr := ab_trans hr (w := w) (k := k) (by omega) (by omega) hb.1
        refine ih k hb.2 ?_
        have hsub : q_sub (q_ab r k &&& S) (q_ab r w &&& S) := by
          intro i hi
          rw [Nat.testBit_and, Bool.and_eq_true] at hi ⊢
          exact ⟨htr i hi.1, hi.2⟩
        have hl := q_c7_lt hlt hsub (k := k) (by rw [Nat.testBit_and, hac k hkn]; rfl) (by rw [Nat.testBit_and, hb.1, hb.2]; rfl)
        omega
  have hb := q_ntz_bit S (by omega) h0
  exact key _ _ hb (Nat.le_refl _)
/-- one more line: a comes before b -/
def q_edge (r : Nat → Nat) (a b : Nat) : Nat → Nat := fun j => if j = 38 + 3 * b + 2 then r j ||| 2 ^ a else r j
theorem q_edge_row (r : Nat → Nat) (a b k : Nat) : q_row (q_edge r a b) k = if k = b then q_row r k ||| 2 ^ a else q_row r k := by
  unfold q_row q_edge
  by_cases e : k = b
  · rw [if_pos (by omega), if_pos e]
  · rw [if_neg (by omega), if_neg e]
theorem q_edge_lt {r : Nat → Nat} (hr : ∀ k, k < 7 → q_row r k < 128) {a b : Nat} (ha : a < 7) : ∀ k, k < 7 → q_row (q_edge r a b) k < 128 := by
  intro k hk
  rw [q_edge_row]
  split
  · exact Nat.or_lt_two_pow (n := 7) (hr k hk) (p7w ha)
  · exact hr k hk
theorem ab_edge {r : Nat → Nat} (hr : ∀ k, k < 7 → q_row r k < 128) {a b : Nat} (ha : a < 7) (hb : b < 7) (hab : a ≠ b) (hno : (q_ab r a).testBit b = false) {w : Nat} (hw : w < 7) : q_ab (q_edge r a b) w = if w = b ∨ (q_ab r w).testBit b = true then q_ab r w ||| (q_ab r a ||| 2 ^ a) else q_ab r w := by
  have hr' := q_edge_lt hr (a := a) (b := b) ha
  -- the old is within the new
  have hclo : ∀ w, w < 7 → q_clo r (q_ab (q_edge r a b) w) := by
    intro w hw k hk hkb i hi
    refine ab_clo hr' hw k hk hkb i ?_
    rw [q_edge_row]
    split
    · rw [Nat.testBit_or, hi]; rfl
    · exact hi
  have hold : ∀ w, w < 7 → q_sub (q_ab r w) (q_ab (q_edge r a b) w) := by
    intro w hw
    refine ab_least (fun i hi => ?_) (hclo w hw)
    refine ab_row (q_edge r a b) w i ?_
    rw [q_edge_row]
    split
    · rw [Nat.testBit_or, hi]; rfl
    · exact hi
  have hba : (q_ab (q_edge r a b) b).testBit a = true := by
    refine ab_row (q_edge r a b) b a ?_
    rw [q_edge_row, if_pos (Eq.refl _), Nat.testBit_or, Nat.testBit_two_pow_self, Bool.or_true]
  have hbA : q_sub (q_ab r a ||| 2 ^ a) (q_ab (q_edge r a b) b) := by
    intro i hi
    rw [Nat.testBit_or, Bool.or_eq_true] at hi
    rcases hi with hi | hi
    · exact ab_trans hr' hb ha hba i (hold a ha i hi)
    · rw [Nat.testBit_two_pow] at hi
      have e := of_decide_eq_true hi
      rw [← e]
      exact hba
  apply q_sub.eq
  · -- the new is the least
    refine ab_least (fun i hi => ?_) (fun k hk hkb i hi => ?_)
    · rw [q_edge_row] at hi
      by_cases ew : w = b
      · rw [if_pos ew, Nat.testBit_or, Bool.or_eq_true] at hi
        rw [if_pos (Or.inl ew), Nat.testBit_or, Bool.or_eq_true]
        rcases hi with hi | hi
        · exact Or.inl (ab_row r w i hi)
        · refine Or.inr ?_
          rw [Nat.testBit_or, hi, Bool.or_true]
      · rw [if_neg ew] at hi
        have h1 := ab_row r w i hi
        split
        · rw [Nat.testBit_or, h1]; rfl
        · exact h1
    · rw [q_edge_row] at hi
      by_cases hc : w = b ∨ (q_ab r w).testBit b = true
      · rw [if_pos hc] at hkb ⊢
        rw [Nat.testBit_or, Bool.or_eq_true] at hkb ⊢
        by_cases ek : k = b
        · rw [if_pos ek, Nat.testBit_or, Bool.or_eq_true] at hi
          rcases hi with hi | hi
          · rcases hkb with hkb | hkb
            · exact Or.inl (ab_clo hr hw k hk hkb i hi)
            · rw [Nat.testBit_or, Bool.or_eq_true] at hkb
              rcases hkb with hkb | hkb
              · refine Or.inr ?_
                rw [Nat.testBit_or, ab_clo hr ha k hk hkb i hi]
                rfl
              · rw [Nat.testBit_two_pow] at hkb
                have e := of_decide_eq_true hkb
                omega
          · refine Or.inr ?_
            rw [Nat.testBit_or, hi, Bool.or_true]
        · rw [if_neg ek] at hi
          rcases hkb with hkb | hkb
          · exact Or.inl (ab_clo hr hw k hk hkb i hi)
          · refine Or.inr ?_
            rw [Nat.testBit_or, Bool.or_eq_true] at hkb
            rw [Nat.testBit_or, Bool.or_eq_true]
            rcases hkb with hkb | hkb
            · exact Or.inl (ab_clo hr ha k hk hkb i hi)
            · rw [Nat.testBit_two_pow] at hkb
              have e := of_decide_eq_true hkb
              subst e
              exact Or.inl (ab_row r a i hi)
      · rw [if_neg hc] at hkb ⊢
        have hkb2 : ¬ k = b := fun e => hc (Or.inr (by rw [← e]; exact hkb))
        rw [if_neg hkb2] at hi
        exact ab_clo hr hw k hk hkb i hi
  · intro i hi
    by_cases hc : w = b ∨ (q_ab r w).testBit b = true
    · rw [if_pos hc, Nat.testBit_or, Bool.or_eq_true] at hi
      rcases hi with hi | hi
      · exact hold w hw i hi
      · rcases hc with e | hc
        · rw [e]
          exact hbA i hi
        · exact ab_trans hr' hw hb (hold w hw b hc) i (hbA i hi)
    · rw [if_neg hc] at hi
      exact hold w hw i hi
theorem ab_edge_ac {r : Nat → Nat} (hr : ∀ k, k < 7 → q_row r k < 128) {a b n : Nat} (hn : n ≤ 7) (ha : a < n) (hb : b < n) (hab : a ≠ b) (hno : (q_ab r a).testBit b = false) (hac : ∀ w, w < n → (q_ab r w).testBit w = false) : ∀ w, w < n → (q_ab (q_edge r a b) w).testBit w = false := by
  intro w hw
  rw [ab_edge hr (by omega) (by omega) hab hno (by omega)]
  split
  · rename_i hc
    cases hx : (q_ab r w ||| (q_ab r a ||| 2 ^ a)).testBit w with
    | false => rfl
    | true =>
      exfalso
      rw [Nat.testBit_or, hac w hw, Bool.false_or, Nat.testBit_or, Bool.or_eq_true] at hx
      rcases hx with hx | hx
      · rcases hc with e | hc
        · rw [e, hno] at hx; cases hx
        · have := ab_trans hr (by omega) (by omega) hx b hc
          rw [hno] at this
          cases this
      · rw [Nat.testBit_two_pow] at hx
        have e := of_decide_eq_true hx
        rcases hc with e2 | hc
        · omega
        · rw [← e, hno] at hc
          cases hc
  · exact hac w hw
theorem ab_congr {r r' : Nat → Nat} (h : ∀ k, k < 7 → q_row r k = q_row r' k) {w : Nat} (hw : w < 7) : q_ab r w = q_ab r' w := by
  have hS : ∀ S k, k < 7 → q_abS r S k = q_abS r' S k := by
    intro S k hk
    have e : r (38 + 3 * k + 2) = r' (38 + 3 * k + 2) := h k hk
    unfold q_abS
    rw [e]
  have hK : ∀ S k, k ≤ 7 → q_abK r S k = q_abK r' S k := by
    intro S k
    induction k with
    | zero => intro _; rfl
    | succ k ih =>
      intro hk
      rw [q_abK_step, q_abK_step, ih (by omega), hS _ _ (by omega)]
  have hN : ∀ S m, q_abN r S m = q_abN r' S m := by
    intro S m
    induction m with
    | zero => rfl
    | succ m ih =>
      show q_abK r (q_abN r S m) 7 = q_abK r' (q_abN r' S m) 7
      rw [ih, hK _ 7 (Nat.le_refl 7)]
  unfold q_ab
  have e : r (38 + 3 * w + 2) = r' (38 + 3 * w + 2) := h w hw
  rw [e]
  exact hN _ 7
