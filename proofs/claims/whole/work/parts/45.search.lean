/-! SEARCH: what is counted of sets of words -/
theorem testBit_lt {S n w : Nat} (hS : S < 2 ^ n) (h : S.testBit w = true) : w < n := by
  by_cases g : w < n
  · exact g
  · have h2 : S < 2 ^ w := Nat.lt_of_lt_of_le hS (Nat.pow_le_pow_right (by decide) (by omega))
    rw [Nat.testBit_lt_two_pow h2] at h
    cases h
theorem q_del_bit {S w : Nat} (hS : S < 2147483648) (i : Nat) : (q_del S w).testBit i = (S.testBit i && decide (i ≠ w)) := by
  unfold q_del
  rw [Nat.testBit_and, Nat.testBit_xor, Nat.testBit_two_pow, show (2147483647 : Nat) = 2 ^ 31 - 1 from rfl, Nat.testBit_two_pow_sub_one]
  by_cases h31 : i < 31
  · by_cases e : w = i
    · simp [h31, e]
    · have e2 : ¬ i = w := fun h => e h.symm
      simp [h31, e, e2]
  · have h2 : S < 2 ^ i := Nat.lt_of_lt_of_le (show S < 2 ^ 31 from hS) (Nat.pow_le_pow_right (by decide) (by omega))
    rw [Nat.testBit_lt_two_pow h2]
    rfl
theorem q_del_le (S w : Nat) : q_del S w ≤ S := Nat.and_le_left
theorem q_del_lt {S w : Nat} (hS : S < 2147483648) (h : S.testBit w = true) : q_del S w < S := by
  have h1 := q_del_le S w
  have h2 : q_del S w ≠ S := fun e => by
    have h3 := q_del_bit (w := w) hS w
    rw [e, h] at h3
    simp at h3
  omega
/-- how many are in a set -/
def q_c7 (S : Nat) : Nat := q_cntp (fun k => S.testBit k) 7
theorem q_cntp_le (p : Nat → Bool) : ∀ n, q_cntp p n ≤ n := by
  intro n
  induction n with
  | zero => exact Nat.le_refl 0
  | succ n ih =>
    show q_cntp p n + (if p n then 1 else 0) ≤ n + 1
    split <;> omega
theorem q_cntp_congr {p q : Nat → Bool} {n : Nat} (h : ∀ i, i < n → p i = q i) : q_cntp p n = q_cntp q n := by
  induction n with
  | zero => rfl
  | succ n ih =>
    show q_cntp p n + (if p n then 1 else 0) = q_cntp q n + (if q n then 1 else 0)
    rw [ih (fun i hi => h i (by omega)), h n (by omega)]
theorem q_cntp_upd {p q : Nat → Bool} {w n : Nat} (hw : w < n) (h : ∀ i, i < n → i ≠ w → p i = q i) (hp : p w = true) (hq : q w = false) : q_cntp p n = q_cntp q n + 1 := by
  induction n with
  | zero => omega
  | succ n ih =>
    show q_cntp p n + (if p n then 1 else 0) = q_cntp q n + (if q n then 1 else 0) + 1
    by_cases e : w = n
    · subst e
      rw [q_cntp_congr (fun i hi => h i (by omega) (by omega)), hp, hq]
      rfl
    · rw [ih (by omega) (fun i hi he => h i (by omega) he), h n (by omega) (fun g => e g.symm)]
      omega
theorem q_c7_del {S w : Nat} (hS : S < 128) (h : S.testBit w = true) : q_c7 S = q_c7 (q_del S w) + 1 := by
  have hw := testBit_lt (n := 7) hS h
  refine q_cntp_upd hw (fun i hi he => ?_) h ?_
  · show S.testBit i = (q_del S w).testBit i
    rw [q_del_bit (by omega), decide_eq_true he, Bool.and_true]
  · show (q_del S w).testBit w = false
    rw [q_del_bit (by omega)]
    simp
theorem q_c7_zero : ∀ S, S < 128 → q_c7 S = 0 → S = 0 := by decide +kernel
theorem q_c7_le (S : Nat) : q_c7 S ≤ 7 := q_cntp_le _ 7
theorem q_min_congr {p : Nat → Bool} {g g' : Nat → Nat} {n : Nat} (h : ∀ i, i < n → p i = true → g i = g' i) : q_min p g n = q_min p g' n := by
  induction n with
  | zero => rfl
  | succ n ih =>
    have h1 := ih (fun i hi => h i (by omega))
    show (if p n then _ else _) = (if p n then _ else _)
    by_cases hp : p n = true
    · rw [if_pos hp, if_pos hp, h1, h n (by omega) hp]
    · rw [if_neg hp, if_neg hp, h1]
theorem q_can_bit {r : Nat → Nat} {S w : Nat} (h : q_can r S w = true) : S.testBit w = true := by
  unfold q_can at h
  rw [Bool.and_eq_true] at h
  exact h.1
theorem q_cost_fuel {r : Nat → Nat} : ∀ f S, S < 128 → q_c7 S ≤ f → q_cost r f S = q_cost r (f + 1) S := by
  intro f
  induction f with
  | zero =>
    intro S hS hc
    have h0 := q_c7_zero S hS (by omega)
    subst h0
    rfl
  | succ f ih =>
    intro S hS hc
    by_cases h0 : S = 0
    · subst h0; rfl
    · show (if S = 0 then 0 else _) = (if S = 0 then 0 else _)
      rw [if_neg h0, if_neg h0]
      congr 1
      refine q_min_congr (fun w hw hp => ?_)
      have hb := q_can_bit hp
      have hd := q_c7_del hS hb
      rw [ih (q_del S w) (Nat.lt_of_le_of_lt (q_del_le S w) hS) (by omega)]
theorem q_rows_fuel {r : Nat → Nat} : ∀ f S, S < 128 → q_c7 S ≤ f → q_rows r f S = q_rows r (f + 1) S := by
  intro f
  induction f with
  | zero =>
    intro S hS hc
    have h0 := q_c7_zero S hS (by omega)
    subst h0
    rfl
  | succ f ih =>
    intro S hS hc
    by_cases h0 : S = 0
    · subst h0; rfl
    · show (if S = 0 then 1 else _) = (if S = 0 then 1 else _)
      rw [if_neg h0, if_neg h0]
      refine q_sum_congr (fun w hw => ?_)
      by_cases hp : q_can r S w = true
      · rw [if_pos hp, if_pos hp]
        have hd := q_c7_del hS (q_can_bit hp)
        exact ih (q_del S w) (Nat.lt_of_le_of_lt (q_del_le S w) hS) (by omega)
      · rw [if_neg hp, if_neg hp]
/-- what it costs that a word of a set is the first -/
def q_cf (r : Nat → Nat) (S w : Nat) : Nat := r (38 + 3 * w + 1) * q_odds r S + q_cost r 7 (q_del S w)
theorem q_cost_rec {r : Nat → Nat} {S : Nat} (hS : S < 128) (h0 : S ≠ 0) : q_cost r 7 S = (q_min (q_can r S) (q_cf r S) (r 4)).getD 0 := by
  show (if S = 0 then 0 else _) = _
  rw [if_neg h0]
  congr 1
  refine q_min_congr (fun w hw hp => ?_)
  have hd := q_c7_del hS (q_can_bit hp)
  have hc := q_c7_le S
  unfold q_cf
  rw [q_cost_fuel 6 (q_del S w) (Nat.lt_of_le_of_lt (q_del_le S w) hS) (by omega)]
theorem q_rows_rec {r : Nat → Nat} {S : Nat} (hS : S < 128) (h0 : S ≠ 0) : q_rows r 7 S = q_sum (fun w => if q_can r S w then q_rows r 7 (q_del S w) else 0) (r 4) := by
  show (if S = 0 then 1 else _) = _
  rw [if_neg h0]
  refine q_sum_congr (fun w hw => ?_)
  by_cases hp : q_can r S w = true
  · rw [if_pos hp, if_pos hp]
    have hd := q_c7_del hS (q_can_bit hp)
    have hc := q_c7_le S
    exact q_rows_fuel 6 (q_del S w) (Nat.lt_of_le_of_lt (q_del_le S w) hS) (by omega)
  · rw [if_neg hp, if_neg hp]
theorem q_odds_del {r : Nat → Nat} {S w : Nat} (hS : S < 128) (hw : w < r 4) (h : S.testBit w = true) : q_odds r S = q_odds r (q_del S w) + r (38 + 3 * w) := by
  unfold q_odds
  rw [q_sum_upd (f := fun k => if (q_del S w).testBit k then r (38 + 3 * k) else 0) (s := w) hw (fun i hi he => by
    show (if S.testBit i = true then _ else _) = (if (q_del S w).testBit i = true then _ else _)
    rw [q_del_bit (by omega), decide_eq_true he, Bool.and_true]) (by rw [q_del_bit (by omega)]; simp), if_pos h]
theorem q_mins_del {r : Nat → Nat} {S w : Nat} (hS : S < 128) (hw : w < r 4) (h : S.testBit w = true) : q_mins r S = q_mins r (q_del S w) + r (38 + 3 * w + 1) := by
  unfold q_mins
  rw [q_sum_upd (f := fun k => if (q_del S w).testBit k then r (38 + 3 * k + 1) else 0) (s := w) hw (fun i hi he => by
    show (if S.testBit i = true then _ else _) = (if (q_del S w).testBit i = true then _ else _)
    rw [q_del_bit (by omega), decide_eq_true he, Bool.and_true]) (by rw [q_del_bit (by omega)]; simp), if_pos h]
theorem q_needs_congr {r : Nat → Nat} {S T : Nat} {n : Nat} (h : ∀ i, i < n → S.testBit i = T.testBit i) : q_needs r S n = q_needs r T n := by
  induction n with
  | zero => rfl
  | succ n ih =>
    show (if S.testBit n = true then _ else _) = (if T.testBit n = true then _ else _)
    rw [h n (by omega), ih (fun i hi => h i (by omega))]
theorem q_needs_del {r : Nat → Nat} {S w : Nat} (hS : S < 128) {n : Nat} (hw : w < n) (h : S.testBit w = true) : q_needs r S n = q_needs r (q_del S w) n ||| q_ab r w := by
  induction n with
  | zero => omega
  | succ n ih =>
    show (if S.testBit n = true then _ else _) = (if (q_del S w).testBit n = true then _ else _) ||| _
    by_cases e : w = n
    · subst e
      rw [if_pos h, if_neg (by rw [q_del_bit (by omega)]; simp), q_needs_congr (S := S) (T := q_del S w) (fun i hi => by rw [q_del_bit (by omega), decide_eq_true (by omega), Bool.and_true])]
    · have h1 := ih (by omega)
      rw [q_del_bit (by omega), decide_eq_true (by omega), Bool.and_true]
      by_cases hn : S.testBit n = true
      · rw [if_pos hn, if_pos hn, h1]
        rw [Nat.or_assoc, Nat.or_comm (q_ab r w), ← Nat.or_assoc]
      · rw [if_neg hn, if_neg hn, h1]
theorem q_ntz_bit : ∀ S, S < 128 → S ≠ 0 → S.testBit (q_ntz S) = true := by decide +kernel
theorem q_odds_le {ρ : Nat → Int} (hR : wfR ρ) (S : Nat) : q_odds (q_n ρ) S ≤ 693 := by
  have e4 : ρ 4 = (q_n ρ 4 : Int) := hR.n (by decide)
  have b4 := hR.2.1.2.2.2.2.1
  have h := q_sum_le' (fun w => if S.testBit w then q_n ρ (38 + 3 * w) else 0) 99 (q_n ρ 4) (fun i hi => by
    have h1 := (hR.2.2.2.2.1 i (by omega)).1
    show (if S.testBit i = true then q_n ρ (38 + 3 * i) else 0) ≤ 99
    split
    · unfold q_n; omega
    · omega)
  unfold q_odds
  have h7 : q_n ρ 4 * 99 ≤ 7 * 99 := Nat.mul_le_mul_right 99 (by omega)
  omega
theorem q_mins_le {ρ : Nat → Int} (hR : wfR ρ) (S : Nat) : q_mins (q_n ρ) S ≤ 210 := by
  have e4 : ρ 4 = (q_n ρ 4 : Int) := hR.n (by decide)
  have b4 := hR.2.1.2.2.2.2.1
  have h := q_sum_le' (fun w => if S.testBit w then q_n ρ (38 + 3 * w + 1) else 0) 30 (q_n ρ 4) (fun i hi => by
    have h1 := (hR.2.2.2.2.1 i (by omega)).2.1
    show (if S.testBit i = true then q_n ρ (38 + 3 * i + 1) else 0) ≤ 30
    split
    · unfold q_n; omega
    · omega)
  unfold q_mins
  have h7 : q_n ρ 4 * 30 ≤ 7 * 30 := Nat.mul_le_mul_right 30 (by omega)
  omega
theorem q_min_le {p : Nat → Bool} {g : Nat → Nat} {b n : Nat} (h : ∀ i, i < n → g i ≤ b) : (q_min p g n).getD 0 ≤ b := by
  induction n with
  | zero => exact Nat.zero_le b
  | succ n ih =>
    have h1 := ih (fun i hi => h i (by omega))
    have h2 := h n (by omega)
    show (if p n then (match q_min p g n with
      | none => some (g n)
      | some b => some (if g n < b then g n else b)) else q_min p g n : Option Nat).getD 0 ≤ b
    split
    · split
      · exact h2
      · rename_i c hc
        rw [hc] at h1
        show (if g n < c then g n else c) ≤ b
        have h3 : c ≤ b := h1
        split <;> omega
    · exact h1
theorem q_cost_le {ρ : Nat → Int} (hR : wfR ρ) : ∀ f S, q_cost (q_n ρ) f S ≤ f * 20790 := by
  have e4 : ρ 4 = (q_n ρ 4 : Int) := hR.n (by decide)
  have b4 := hR.2.1.2.2.2.2.1
  intro f
  induction f with
  | zero => intro S; exact Nat.zero_le _
  | succ f ih =>
    intro S
    show (if S = 0 then 0 else _) ≤ _
    split
    · exact Nat.zero_le _
    · refine q_min_le (fun w hw => ?_)
      have h1 := (hR.2.2.2.2.1 w (by omega)).2.1
      have h2 := q_odds_le hR S
      have h3 := ih (q_del S w)
      have h4 : q_n ρ (38 + 3 * w + 1) * q_odds (q_n ρ) S ≤ 30 * 693 := Nat.mul_le_mul (by unfold q_n; omega) h2
      rw [Nat.succ_mul]
      omega
theorem q_cf_le {ρ : Nat → Int} (hR : wfR ρ) (S : Nat) {w : Nat} (hw : w < 7) : q_cf (q_n ρ) S w ≤ 166320 := by
  have h1 := (hR.2.2.2.2.1 w hw).2.1
  have h2 := q_odds_le hR S
  have h3 := q_cost_le hR 7 (q_del S w)
  have h4 : q_n ρ (38 + 3 * w + 1) * q_odds (q_n ρ) S ≤ 30 * 693 := Nat.mul_le_mul (by unfold q_n; omega) h2
  unfold q_cf
  omega
theorem q_min_some {p : Nat → Bool} {g : Nat → Nat} {n : Nat} (h : ∃ w, w < n ∧ p w = true) : ∃ b, q_min p g n = some b := by
  induction n with
  | zero => obtain ⟨w, hw, -⟩ := h; omega
  | succ n ih =>
    show ∃ b, (if p n then (match q_min p g n with
      | none => some (g n)
      | some b => some (if g n < b then g n else b)) else q_min p g n) = some b
    by_cases hp : p n = true
    · rw [if_pos hp]
      split
      · exact ⟨_, rfl⟩
      · exact ⟨_, rfl⟩
    · rw [if_neg hp]
      obtain ⟨w, hw, hpw⟩ := h
      refine ih ⟨w, ?_, hpw⟩
      by_cases e : w = n
      · subst e; exact absurd hpw hp
      · omega
theorem q_min_at {p : Nat → Bool} {g : Nat → Nat} {n b : Nat} (h : q_min p g n = some b) : (∃ w, w < n ∧ p w = true ∧ g w = b) ∧ ∀ w, w < n → p w = true → b ≤ g w := by
  induction n generalizing b with
  | zero => cases h
  | succ n ih =>
    have h' : (if p n then (match q_min p g n with
      | none => some (g n)
      | some b => some (if g n < b then g n else b)) else q_min p g n) = some b := h
    by_cases hp : p n = true
    · rw [if_pos hp] at h'
      split at h'
      · rename_i hn
        have hb : g n = b := Option.some.inj h'
        refine ⟨⟨n, by omega, hp, hb⟩, fun w hw hpw => ?_⟩
        by_cases e : w = n
        · subst e; omega
        · obtain ⟨c, hc⟩ := q_min_some (p := p) (g := g) (n := n) ⟨w, by omega, hpw⟩
          rw [hn] at hc
          cases hc
      · rename_i c hc
        have hb : (if g n < c then g n else c) = b := Option.some.inj h'
        obtain ⟨⟨w, hw, hpw, hgw⟩, hall⟩ := ih hc
        refine ⟨?_, fun v hv hpv => ?_⟩
        · by_cases hlt : g n < c
          · rw [if_pos hlt] at hb
            exact ⟨n, by omega, hp, hb⟩
          · rw [if_neg hlt] at hb
            exact ⟨w, by omega, hpw, by omega⟩
        · by_cases e : v = n
          · subst e
            split at hb <;> omega
          · have := hall v (by omega) hpv
            split at hb <;> omega
    · rw [if_neg hp] at h'
      obtain ⟨⟨w, hw, hpw, hgw⟩, hall⟩ := ih h'
      refine ⟨⟨w, by omega, hpw, hgw⟩, fun v hv hpv => ?_⟩
      by_cases e : v = n
      · subst e; exact absurd hpv hp
      · exact hall v (by omega) hpv
def q_mn (o : Option Nat) : Int := match o with
  | none => -1
  | some b => (b : Int)
/-- a county's cells -/
def isC (c : Nat) : Prop := c = 2 ∨ c = 25
theorem isC.tt {c : Nat} (h : isC c) : zTT[c + 11]? = some (.inl 10) ∧ zTT[c + 13]? = some (.inr (0, 7)) ∧ zTT[c + 14]? = some (.inr (0, 7)) ∧ zTT[c + 16]? = some (.inr (0, 7)) := by
  rcases h with rfl | rfl <;> exact ⟨rfl, rfl, rfl, rfl⟩
theorem isC.wire {c : Nat} (h : isC c) {M : ZM} (hW : zWc M) : M (c + 11) 3 = ((c + 13 : Nat) : Int) ∧ M (c + 11) 4 = ((c + 14 : Nat) : Int) ∧ M (c + 11) 6 = ((c + 16 : Nat) : Int) := by
  rcases h with rfl | rfl
  · exact ⟨hW (13, 3, 15) (by decide +kernel), hW (13, 4, 16) (by decide +kernel), hW (13, 6, 18) (by decide +kernel)⟩
  · exact ⟨hW (36, 3, 38) (by decide +kernel), hW (36, 4, 39) (by decide +kernel), hW (36, 6, 41) (by decide +kernel)⟩
theorem isC.lt {c : Nat} (h : isC c) : 2 ≤ c ∧ c ≤ 25 := by
  rcases h with rfl | rfl <;> omega
/-- what is known of the sets below k -/
def ICk (ρ : Nat → Int) (k : Nat) (M : ZM) : Prop := ∀ S, S < k → M 116 S = (q_odds (q_n ρ) S : Int) ∧ M 117 S = (q_mins (q_n ρ) S : Int) ∧ M 118 S = (q_needs (q_n ρ) S (q_n ρ 4) : Int) ∧ M 119 S = (q_cost (q_n ρ) 7 S : Int) ∧ M 120 S = (q_rows (q_n ρ) 7 S : Int)
theorem q_ab128 {ρ : Nat → Int} (hR : wfR ρ) {w : Nat} (hw : w < 7) : q_ab (q_n ρ) w < 128 := q_ab_lt (fun k hk => by have h := (hR.2.2.2.2.1 k hk).2.2; unfold q_n; omega) hw
theorem q_needs_lt {ρ : Nat → Int} (hR : wfR ρ) (S : Nat) : ∀ n, n ≤ 7 → q_needs (q_n ρ) S n < 128 := by
  intro n
  induction n with
  | zero => intro _; show 0 < 128; decide
  | succ n ih =>
    intro hn
    show (if S.testBit n = true then _ else _) < 128
    split
    · exact Nat.or_lt_two_pow (n := 7) (ih (by omega)) (q_ab128 hR (by omega))
    · exact ih (by omega)
theorem z_bit0 {a i : Nat} (hi : i < 31) (ha : a < 2147483648) : (z_iand (a : Int) ((2 ^ i : Nat) : Int) = 0 ↔ a.testBit i = false) ∧ 0 ≤ z_iand (a : Int) ((2 ^ i : Nat) : Int) ∧ z_iand (a : Int) ((2 ^ i : Nat) : Int) < 2147483648 := by
  rw [z_and_bit a hi ha]
  have hp : 0 < 2 ^ i := Nat.two_pow_pos i
  have hq : 2 ^ i < 2 ^ 31 := Nat.pow_lt_pow_right (by decide) hi
  cases hb : a.testBit i with
  | false => exact ⟨⟨fun _ => rfl, fun _ => rfl⟩, by decide, by decide⟩
  | true =>
    rw [if_pos rfl]
    exact ⟨⟨fun h => by omega, fun h => by cases h⟩, by omega, by omega⟩
theorem p7 {n : Nat} (h : n ≤ 7) : 2 ^ n ≤ 128 := Nat.pow_le_pow_right (n := 2) (by decide) h
theorem s_canBegin {l : Launch} {X : ZX} {M : ZM} {c : Nat} (hc : isC c) {ρ : Nat → Int} {h : Int} (hW : zWc M) (hC : ICc ρ h c M) (hR : wfR ρ) {S w : Nat} (hS : S < 128) (hw : (w : Int) < ρ 4) : zCi l X 1 yX7_canBegin tX7_canBegin [zr ((c + 11 : Nat) : Int), zi (S : Int), zi (w : Int)] M (fun a M' => a = (if q_can (q_n ρ) S w = true then 1 else 0) ∧ M' = M) := by
  have e4 : ρ 4 = (q_n ρ 4 : Int) := hR.n (by decide)
  have b4 := hR.2.1.2.2.2.2.1
  have hcl := hc.lt
  have ew := hC.2.2.2.1 w (by omega)
  have hab := q_ab128 hR (w := w) (by omega)
  have h2w : 2 ^ w < 128 := Nat.pow_lt_pow_right (n := 2) (m := 7) (by decide) (by omega)
  have zb := z_bit0 (a := S) (i := w) (by omega) (by omega)
  refine zC.of [some (zr ((c + 11 : Nat) : Int)), some (zi (S : Int)), some (zi (w : Int))] (by decide +kernel) rfl rfl (Nat.le_of_ble_eq_true rfl) rfl ?_
  refine p_iload_n 1 dX7_canBegin_0 rfl rfl ?_
  refine p_iload_n 2 dX7_canBegin_1 rfl rfl ?_
  refine p_callN1i 5 dX7_canBegin_2 (s_bit (i := w) (by omega)) ln_X7_53 mX11_bit (by decide) (Nat.le_of_ble_eq_true rfl) ?_
  rintro _ _ ⟨rfl, e9⟩
  have e9 := e9.symm
  subst e9
  refine p_iand 6 dX7_canBegin_5 ?_
  refine p_if_eq 24 9 dX7_canBegin_6 (by omega) (by omega) (fun h6 => ?_) (fun h6 => ?_)
  · have hb := zb.1.mp h6
    refine p_iconst 25 dX7_canBegin_24 ?_
    refine p_zret dX7_canBegin_25 rfl (by decide) ?_
    refine ⟨_, rfl, ?_, rfl⟩
    unfold q_can
    simp only [hb]
    first | rfl | (rw [if_pos (by simp; omega)]) | (rw [if_neg (by simp; omega)])
  · have hb : S.testBit w = true := by
      cases g : S.testBit w with
      | false => exact absurd (zb.1.mpr g) h6
      | true => rfl
    refine p_aload_n 10 dX7_canBegin_9 rfl rfl (by omega) ?_
    refine p_getR (c + 11) 13 dX7_canBegin_10 fX7_58 hc.tt.1 (hc.wire hW).2.2 ?_
    refine p_iload_n 14 dX7_canBegin_13 rfl rfl ?_
    refine p_ialdn (c + 16) 15 (w) dX7_canBegin_14 hc.tt.2.2.2 (by omega) (by omega) ?_
    rw [ew.2.2]
    refine p_iload_n 16 dX7_canBegin_15 rfl rfl ?_
    refine p_iand 17 dX7_canBegin_16 ?_
    rw [z_iand_n (q_ab (q_n ρ) w) S (by omega) (by omega)]
    refine p_if_ne 24 20 dX7_canBegin_17 (by have := Nat.and_le_left (n := q_ab (q_n ρ) w) (m := S); omega) (by have := Nat.and_le_left (n := q_ab (q_n ρ) w) (m := S); omega) (fun h17 => ?_) (fun h17 => ?_)
    · refine p_iconst 25 dX7_canBegin_24 ?_
      refine p_zret dX7_canBegin_25 rfl (by decide) ?_
      refine ⟨_, rfl, ?_, rfl⟩
      unfold q_can
      simp only [hb]
      first | rfl | (rw [if_pos (by simp; omega)]) | (rw [if_neg (by simp; omega)])
    · refine p_iconst 21 dX7_canBegin_20 ?_
      refine p_goto 25 dX7_canBegin_21 ?_
      refine p_zret dX7_canBegin_25 rfl (by decide) ?_
      refine ⟨_, rfl, ?_, rfl⟩
      unfold q_can
      simp only [hb]
      first | rfl | (rw [if_pos (by simp; omega)]) | (rw [if_neg (by simp; omega)])
