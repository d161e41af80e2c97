/-! SEARCH: what is counted of sets of words -/
theorem testBit_lt {S n w : Nat} (hS : S < 2 ^ n) (h : S.testBit w = true) : w < n := by
  by_cases g : w < n
  · exact g
  · have h2 : S < 2 ^ w := Nat.lt_of_lt_of_le hS (Nat.pow_le_pow_right (by decide) (by omega))
    rw [Nat.testBit_lt_two_pow h2] at h
    cases h
theorem q_del_bit {S w : Nat} (hS : S < 2147483648) (i : Nat) : (q_del S w).testBit i = (S.testBit i && decide (i ≠ w)) := by
  unfold q_del
  rw [Nat.testBit_and, Nat.testBit_xor, Nat.testBit_two_pow, show (2147483647 : Nat) = 2 ^ 31 - 1 from rfl, Nat.testBit_two_pow_sub_one]
  by_cases h31 : i < 31
  · by_cases e : w = i
    · simp [h31, e]
    · have e2 : ¬ i = w := fun h => e h.symm
      simp [h31, e, e2]
  · have h2 : S < 2 ^ i := Nat.lt_of_lt_of_le (show S < 2 ^ 31 from hS) (Nat.pow_le_pow_right (by decide) (by omega))
    rw [Nat.testBit_lt_two_pow h2]
    rfl
theorem q_del_le (S w : Nat) : q_del S w ≤ S := Nat.and_le_left
theorem q_del_lt {S w : Nat} (hS : S < 2147483648) (h : S.testBit w = true) : q_del S w < S := by
  have h1 := q_del_le S w
  have h2 : q_del S w ≠ S := fun e => by
    have h3 := q_del_bit (w := w) hS w
    rw [e, h] at h3
    simp at h3
  omega
/-- how many are in a set -/
def q_c7 (S : Nat) : Nat := q_cntp (fun k => S.testBit k) 7
theorem q_cntp_le (p : Nat → Bool) : ∀ n, q_cntp p n ≤ n := by
  intro n
  induction n with
  | zero => exact Nat.le_refl 0
  | succ n ih =>
    show q_cntp p n + (if p n then 1 else 0) ≤ n + 1
    split <;> omega
theorem q_cntp_congr {p q : Nat → Bool} {n : Nat} (h : ∀ i, i < n → p i = q i) : q_cntp p n = q_cntp q n := by
  induction n with
  | zero => rfl
  | succ n ih =>
    show q_cntp p n + (if p n then 1 else 0) = q_cntp q n + (if q n then 1 else 0)
    rw [ih (fun i hi => h i (by omega)), h n (by omega)]
theorem q_cntp_upd {p q : Nat → Bool} {w n : Nat} (hw : w < n) (h : ∀ i, i < n → i ≠ w → p i = q i) (hp : p w = true) (hq : q w = false) : q_cntp p n = q_cntp q n + 1 := by
  induction n with
  | zero => omega
  | succ n ih =>
    show q_cntp p n + (if p n then 1 else 0) = q_cntp q n + (if q n then 1 else 0) + 1
    by_cases e : w = n
    · subst e
      rw [q_cntp_congr (fun i hi => h i (by omega) (by omega)), hp, hq]
      rfl
    · rw [ih (by omega) (fun i hi he => h i (by omega) he), h n (by omega) (fun g => e g.symm)]
      omega
theorem q_c7_del {S w : Nat} (hS : S < 128) (h : S.testBit w = true) : q_c7 S = q_c7 (q_del S w) + 1 := by
  have hw := testBit_lt (n := 7) hS h
  refine q_cntp_upd hw (fun i hi he => ?_) h ?_
  · show S.testBit i = (q_del S w).testBit i
    rw [q_del_bit (by omega), decide_eq_true he, Bool.and_true]
  · show (q_del S w).testBit w = false
    rw [q_del_bit (by omega)]
    simp
theorem q_c7_zero : ∀ S, S < 128 → q_c7 S = 0 → S = 0 := by decide +kernel
theorem q_c7_le (S : Nat) : q_c7 S ≤ 7 := q_cntp_le _ 7
theorem q_min_congr {p : Nat → Bool} {g g' : Nat → Nat} {n : Nat} (h : ∀ i, i < n → p i = true → g i = g' i) : q_min p g n = q_min p g' n := by
  induction n with
  | zero => rfl
  | succ n ih =>
    have h1 := ih (fun i hi => h i (by omega))
    show (if p n then _ else _) = (if p n then _ else _)
    by_cases hp : p n = true
    · rw [if_pos hp, if_pos hp, h1, h n (by omega) hp]
    · rw [if_neg hp, if_neg hp, h1]
theorem q_can_bit {r : Nat → Nat} {S w : Nat} (h : q_can r S w = true) : S.testBit w = true := by
  unfold q_can at h
  rw [Bool.and_eq_true] at h
  exact h.1
theorem q_cost_fuel {r : Nat → Nat} : ∀ f S, S < 128 → q_c7 S ≤ f → q_cost r f S = q_cost r (f + 1) S := by
  intro f
  induction f with
  | zero =>
    intro S hS hc
    have h0 := q_c7_zero S hS (by omega)
    subst h0
    rfl
  | succ f ih =>
    intro S hS hc
    by_cases h0 : S = 0
    · subst h0; rfl
    · show (if S = 0 then 0 else _) = (if S = 0 then 0 else _)
      rw [if_neg h0, if_neg h0]
      congr 1
      refine q_min_congr (fun w hw hp => ?_)
      have hb := q_can_bit hp
      have hd := q_c7_del hS hb
      rw [ih (q_del S w) (Nat.lt_of_le_of_lt (q_del_le S w) hS) (by omega)]
theorem q_rows_fuel {r : Nat → Nat} : ∀ f S, S < 128 → q_c7 S ≤ f → q_rows r f S = q_rows r (f + 1) S := by
  intro f
  induction f with
  | zero =>
    intro S hS hc
    have h0 := q_c7_zero S hS (by omega)
    subst h0
    rfl
  | succ f ih =>
    intro S hS hc
    by_cases h0 : S = 0
    · subst h0; rfl
    · show (if S = 0 then 1 else _) = (if S = 0 then 1 else _)
      rw [if_neg h0, if_neg h0]
      refine q_sum_congr (fun w hw => ?_)
      by_cases hp : q_can r S w = true
      · rw [if_pos hp, if_pos hp]
        have hd := q_c7_del hS (q_can_bit hp)
        exact ih (q_del S w) (Nat.lt_of_le_of_lt (q_del_le S w) hS) (by omega)
      · rw [if_neg hp, if_neg hp]
/-- what it costs that a word of a set is the first -/
def q_cf (r : Nat → Nat) (S w : Nat) : Nat := r (38 + 3 * w + 1) * q_odds r S + q_cost r 7 (q_del S w)
theorem q_cost_rec {r : Nat → Nat} {S : Nat} (hS : S < 128) (h0 : S ≠ 0) : q_cost r 7 S = (q_min (q_can r S) (q_cf r S) (r 4)).getD 0 := by
  show (if S = 0 then 0 else _) = _
  rw [if_neg h0]
  congr 1
  refine q_min_congr (fun w hw hp => ?_)
  have hd := q_c7_del hS (q_can_bit hp)
  have hc := q_c7_le S
  unfold q_cf
  rw [q_cost_fuel 6 (q_del S w) (Nat.lt_of_le_of_lt (q_del_le S w) hS) (by omega)]
theorem q_rows_rec {r : Nat → Nat} {S : Nat} (hS : S < 128) (h0 : S ≠ 0) : q_rows r 7 S = q_sum (fun w => if q_can r S w then q_rows r 7 (q_del S w) else 0) (r 4) := by
  show (if S = 0 then 1 else _) = _
  rw [if_neg h0]
  refine q_sum_congr (fun w hw => ?_)
  by_cases hp : q_can r S w = true
  · rw [if_pos hp, if_pos hp]
    have hd := q_c7_del hS (q_can_bit hp)
    have hc := q_c7_le S
    exact q_rows_fuel 6 (q_del S w) (Nat.lt_of_le_of_lt (q_del_le S w) hS) (by omega)
  · rw [if_neg hp, if_neg hp]
theorem q_odds_del {r : Nat → Nat} {S w : Nat} (hS : S < 128) (hw : w < r 4) (h : S.testBit w = true) : q_odds r S = q_odds r (q_del S w) + r (38 + 3 * w) := by
  unfold q_odds
  rw [q_sum_upd (f := fun k => if (q_del S w).testBit k then r (38 + 3 * k) else 0) (s := w) hw (fun i hi he => by
    show (if S.testBit i = true then _ else _) = (if (q_del S w).testBit i = true then _ else _)
    rw [q_del_bit (by omega), decide_eq_true he, Bool.and_true]) (by rw [q_del_bit (by omega)]; simp), if_pos h]
theorem q_mins_del {r : Nat → Nat} {S w : Nat} (hS : S < 128) (hw : w < r 4) (h : S.testBit w = true) : q_mins r S = q_mins r (q_del S w) + r (38 + 3 * w + 1) := by
  unfold q_mins
  rw [q_sum_upd (f := fun k => if (q_del S w).testBit k then r (38 + 3 * k + 1) else 0) (s := w) hw (fun i hi he => by
    show (if S.testBit i = true then _ else _) = (if (q_del S w).testBit i = true then _ else _)
    rw [q_del_bit (by omega), decide_eq_true he, Bool.and_true]) (by rw [q_del_bit (by omega)]; simp), if_pos h]
theorem q_needs_congr {r : Nat → Nat} {S T : Nat} {n : Nat} (h : ∀ i, i < n → S.testBit i = T.testBit i) : q_needs r S n = q_needs r T n := by
  induction n with
  | zero => rfl
  | succ n ih =>
    show (if S.testBit n = true then _ else _) = (if T.testBit n = true then _ else _)
    rw [h n (by omega), ih (fun i hi => h i (by omega))]
theorem q_needs_del {r : Nat → Nat} {S w : Nat} (hS : S < 128) {n : Nat} (hw : w < n) (h : S.testBit w = true) : q_needs r S n = q_needs r (q_del S w) n ||| q_ab r w := by
  induction n with
  | zero => omega
  | succ n ih =>
    show (if S.testBit n = true then _ else _) = (if (q_del S w).testBit n = true then _ else _) ||| _
    by_cases e : w = n
    · subst e
      rw [if_pos h, if_neg (by rw [q_del_bit (by omega)]; simp), q_needs_congr (S := S) (T := q_del S w) (fun i hi => by rw [q_del_bit (by omega), decide_eq_true (by omega), Bool.and_true])]
    · have h1 := ih (by omega)
      rw [q_del_bit (by omega), decide_eq_true (by omega), Bool.and_true]
      by_cases hn : S.testBit n = true
      · rw [if_pos hn, if_pos hn, h1]
        rw [Nat.or_assoc, Nat.or_comm (q_ab r w), ← Nat.or_assoc]
      · rw [if_neg hn, if_neg hn, h1]
theorem q_ntz_bit : ∀ S, S < 128 → S ≠ 0 → S.testBit (q_ntz S) = true := by decide +kernel
theorem q_odds_le {ρ : Nat → Int} (hR : wfR ρ) (S : Nat) : q_odds (q_n ρ) S ≤ 693 := by
  have e4 : ρ 4 = (q_n ρ 4 : Int) := hR.n (by decide)
  have b4 := hR.2.1.2.2.2.2.1
  have h := q_sum_le' (fun w => if S.testBit w then q_n ρ (38 + 3 * w) else 0) 99 (q_n ρ 4) (fun i hi => by
    have h1 := (hR.2.2.2.2.1 i (by omega)).1
    show (if S.testBit i = true then q_n ρ (38 + 3 * i) else 0) ≤ 99
    split
    · unfold q_n; omega
    · omega)
  unfold q_odds
  have h7 : q_n ρ 4 * 99 ≤ 7 * 99 := Nat.mul_le_mul_right 99 (by omega)
  omega
theorem q_mins_le {ρ : Nat → Int} (hR : wfR ρ) (S : Nat) : q_mins (q_n ρ) S ≤ 210 := by
  have e4 : ρ 4 = (q_n ρ 4 : Int) := hR.n (by decide)
  have b4 := hR.2.1.2.2.2.2.1
  have h := q_sum_le' (fun w => if S.testBit w then q_n ρ (38 + 3 * w + 1) else 0) 30 (q_n ρ 4) (fun i hi => by
    have h1 := (hR.2.2.2.2.1 i (by omega)).2.1
    show (if S.testBit i = true then q_n ρ (38 + 3 * i + 1) else 0) ≤ 30
    split
    · unfold q_n; omega
    · omega)
  unfold q_mins
  have h7 : q_n ρ 4 * 30 ≤ 7 * 30 := Nat.mul_le_mul_right 30 (by omega)
  omega
theorem q_min_le {p : Nat → Bool} {g : Nat → Nat} {b n : Nat} (h : ∀ i, i < n → g i ≤ b) : (q_min p g n).getD 0 ≤ b := by
  induction n with
  | zero => exact Nat.zero_le b
  | succ n ih =>
    have h1 := ih (fun i hi => h i (by omega))
    have h2 := h n (by omega)
    show (if p n then (match q_min p g n with
      | none => some (g n)
      | some b => some (if g n < b then g n else b)) else q_min p g n : Option Nat).getD 0 ≤ b
    split
    · split
      · exact h2
      · rename_i c hc
        rw [hc] at h1
        show (if g n < c then g n else c) ≤ b
        have h3 : c ≤ b := h1
        split <;> omega
    · exact h1
theorem q_cost_le {ρ : Nat → Int} (hR : wfR ρ) : ∀ f S, q_cost (q_n ρ) f S ≤ f * 20790 := by
  have e4 : ρ 4 = (q_n ρ 4 : Int) := hR.n (by decide)
  have b4 := hR.2.1.2.2.2.2.1
  intro f
  induction f with
  | zero => intro S; exact Nat.zero_le _
  | succ f ih =>
    intro S
    show (if S = 0 then 0 else _) ≤ _
    split
    · exact Nat.zero_le _
    · refine q_min_le (fun w hw => ?_)
      have h1 := (hR.2.2.2.2.1 w (by omega)).2.1
      have h2 := q_odds_le hR S
      have h3 := ih (q_del S w)
      have h4 : q_n ρ (38 + 3 * w + 1) * q_odds (q_n ρ) S ≤ 30 * 693 := Nat.mul_le_mul (by unfold q_n; omega) h2
      have h5 : (f + 1) * 20790 = f * 20790 + 20790 := Nat.succ_mul f 20790
      omega
theorem q_cf_le {ρ : Nat → Int} (hR : wfR ρ) (S : Nat) {w : Nat} (hw : w < 7) : q_cf (q_n ρ) S w ≤ 166320 := by
  have h1 := (hR.2.2.2.2.1 w hw).2.1
  have h2 := q_odds_le hR S
  have h3 := q_cost_le hR 7 (q_del S w)
  have h4 : q_n ρ (38 + 3 * w + 1) * q_odds (q_n ρ) S ≤ 30 * 693 := Nat.mul_le_mul (by unfold q_n; omega) h2
  unfold q_cf
  omega
theorem q_min_some {p : Nat → Bool} {g : Nat → Nat} {n : Nat} (h : ∃ w, w < n ∧ p w = true) : ∃ b, q_min p g n = some b := by
  induction n with
  | zero => obtain ⟨w, hw, -⟩ := h; omega
  | succ n ih =>
    show ∃ b, (if p n then (match q_min p g n with
      | none => some (g n)
      | some b => some (if g n < b then g n else b)) else q_min p g n) = some b
    by_cases hp : p n = true
    · rw [if_pos hp]
      split
      · exact ⟨_, rfl⟩
      · exact ⟨_, rfl⟩
    · rw [if_neg hp]
      obtain ⟨w, hw, hpw⟩ := h
      refine ih ⟨w, ?_, hpw⟩
      by_cases e : w = n
      · subst e; exact absurd hpw hp
      · omega
theorem q_min_at {p : Nat → Bool} {g : Nat → Nat} {n b : Nat} (h : q_min p g n = some b) : (∃ w, w < n ∧ p w = true ∧ g w = b) ∧ ∀ w, w < n → p w = true → b ≤ g w := by
  induction n generalizing b with
  | zero => cases h
  | succ n ih =>
    have h' : (if p n then (match q_min p g n with
      | none => some (g n)
      | some b => some (if g n < b then g n else b)) else q_min p g n) = some b := h
    by_cases hp : p n = true
    · rw [if_pos hp] at h'
      split at h'
      · rename_i hn
        have hb : g n = b := Option.some.inj h'
        refine ⟨⟨n, by omega, hp, hb⟩, fun w hw hpw => ?_⟩
        by_cases e : w = n
        · subst e; omega
        · obtain ⟨c, hc⟩ := q_min_some (p := p) (g := g) (n := n) ⟨w, by omega, hpw⟩
          rw [hn] at hc
          cases hc
      · rename_i c hc
        have hb : (if g n < c then g n else c) = b := Option.some.inj h'
        obtain ⟨⟨w, hw, hpw, hgw⟩, hall⟩ := ih hc
        refine ⟨?_, fun v hv hpv => ?_⟩
        · by_cases hlt : g n < c
          · rw [if_pos hlt] at hb
            exact ⟨n, by omega, hp, hb⟩
          · rw [if_neg hlt] at hb
            exact ⟨w, by omega, hpw, by omega⟩
        · by_cases e : v = n
          · subst e
            split at hb <;> omega
          · have := hall v (by omega) hpv
            split at hb <;> omega
    · rw [if_neg hp] at h'
      obtain ⟨⟨w, hw, hpw, hgw⟩, hall⟩ := ih h'
      refine ⟨⟨w, by omega, hpw, hgw⟩, fun v hv hpv => ?_⟩
      by_cases e : v = n
      · subst e; exact absurd hpv hp
      · exact hall v (by omega) hpv
def q_mn (o : Option Nat) : Int := match o with
  | none => -1
  | some b => (b : Int)
theorem q_mn_skip {p : Nat → Bool} {g : Nat → Nat} {i : Nat} (h : ¬ p i = true) : q_mn (q_min p g (i + 1)) = q_mn (q_min p g i) := by
  show q_mn (if p i then _ else _) = _
  rw [if_neg h]
theorem q_mn_step {p : Nat → Bool} {g : Nat → Nat} {i : Nat} (h : p i = true) : q_mn (q_min p g (i + 1)) = if q_mn (q_min p g i) = -1 ∨ (g i : Int) < q_mn (q_min p g i) then (g i : Int) else q_mn (q_min p g i) := by
  show q_mn (if p i then (match q_min p g i with
      | none => some (g i)
      | some b => some (if g i < b then g i else b)) else q_min p g i) = _
  rw [if_pos h]
  cases q_min p g i with
  | none => rfl
  | some b =>
    show ((if g i < b then g i else b : Nat) : Int) = if (b : Int) = -1 ∨ (g i : Int) < (b : Int) then (g i : Int) else (b : Int)
    by_cases hb : g i < b
    · rw [if_pos hb, if_pos (by omega)]
    · rw [if_neg hb, if_neg (by omega)]
/-- a county's cells -/
def isC (c : Nat) : Prop := c = 2 ∨ c = 25
theorem isC.tt {c : Nat} (h : isC c) : zTT[c + 11]? = some (.inl 10) ∧ zTT[c + 13]? = some (.inr (0, 7)) ∧ zTT[c + 14]? = some (.inr (0, 7)) ∧ zTT[c + 16]? = some (.inr (0, 7)) := by
  rcases h with rfl | rfl <;> exact ⟨rfl, rfl, rfl, rfl⟩
theorem isC.wire {c : Nat} (h : isC c) {M : ZM} (hW : zWc M) : M (c + 11) 3 = ((c + 13 : Nat) : Int) ∧ M (c + 11) 4 = ((c + 14 : Nat) : Int) ∧ M (c + 11) 6 = ((c + 16 : Nat) : Int) := by
  rcases h with rfl | rfl
  · exact ⟨hW (13, 3, 15) (by decide +kernel), hW (13, 4, 16) (by decide +kernel), hW (13, 6, 18) (by decide +kernel)⟩
  · exact ⟨hW (36, 3, 38) (by decide +kernel), hW (36, 4, 39) (by decide +kernel), hW (36, 6, 41) (by decide +kernel)⟩
theorem isC.lt {c : Nat} (h : isC c) : 2 ≤ c ∧ c ≤ 25 := by
  rcases h with rfl | rfl <;> omega
/-- what is known of the sets below k -/
def ICk (ρ : Nat → Int) (k : Nat) (M : ZM) : Prop := ∀ S, S < k → M 116 S = (q_odds (q_n ρ) S : Int) ∧ M 117 S = (q_mins (q_n ρ) S : Int) ∧ M 118 S = (q_needs (q_n ρ) S (q_n ρ 4) : Int) ∧ M 119 S = (q_cost (q_n ρ) 7 S : Int) ∧ M 120 S = (q_rows (q_n ρ) 7 S : Int)
theorem q_ab128 {ρ : Nat → Int} (hR : wfR ρ) {w : Nat} (hw : w < 7) : q_ab (q_n ρ) w < 128 := q_ab_lt (fun k hk => by have h := (hR.2.2.2.2.1 k hk).2.2; unfold q_n; omega) hw
theorem q_needs_lt {ρ : Nat → Int} (hR : wfR ρ) (S : Nat) : ∀ n, n ≤ 7 → q_needs (q_n ρ) S n < 128 := by
  intro n
  induction n with
  | zero => intro _; show 0 < 128; decide
  | succ n ih =>
    intro hn
    show (if S.testBit n = true then _ else _) < 128
    split
    · exact Nat.or_lt_two_pow (n := 7) (ih (by omega)) (q_ab128 hR (by omega))
    · exact ih (by omega)
theorem z_bit0 {a i : Nat} (hi : i < 31) (ha : a < 2147483648) : (z_iand (a : Int) ((2 ^ i : Nat) : Int) = 0 ↔ a.testBit i = false) ∧ 0 ≤ z_iand (a : Int) ((2 ^ i : Nat) : Int) ∧ z_iand (a : Int) ((2 ^ i : Nat) : Int) < 2147483648 := by
  rw [z_and_bit a hi ha]
  have hp : 0 < 2 ^ i := Nat.two_pow_pos i
  have hq : 2 ^ i < 2 ^ 31 := Nat.pow_lt_pow_right (by decide) hi
  cases hb : a.testBit i with
  | false =>
    rw [if_neg (by decide)]
    exact ⟨⟨fun _ => rfl, fun _ => rfl⟩, by decide, by decide⟩
  | true =>
    rw [if_pos rfl]
    exact ⟨⟨fun h => by omega, fun h => by cases h⟩, by omega, by omega⟩
theorem p7w {w : Nat} (h : w < 7) : 2 ^ w < 128 := Nat.lt_of_lt_of_le (Nat.pow_lt_pow_right (m := w) (n := 7) (a := 2) (by decide) h) (by decide)
theorem p7 {n : Nat} (h : n ≤ 7) : 2 ^ n ≤ 128 := Nat.pow_le_pow_right (n := 2) (by decide) h
theorem s_canBegin {l : Launch} {X : ZX} {M : ZM} {c : Nat} (hc : isC c) {ρ : Nat → Int} {h : Int} (hW : zWc M) (hC : ICc ρ h c M) (hR : wfR ρ) {S w : Nat} (hS : S < 128) (hw : (w : Int) < ρ 4) : zCi l X 1 yX7_canBegin tX7_canBegin [zr ((c + 11 : Nat) : Int), zi (S : Int), zi (w : Int)] M (fun a M' => a = (if q_can (q_n ρ) S w = true then 1 else 0) ∧ M' = M) := by
  have e4 : ρ 4 = (q_n ρ 4 : Int) := hR.n (by decide)
  have b4 := hR.2.1.2.2.2.2.1
  have hcl := hc.lt
  have ew := hC.2.2.2.1 w (by omega)
  have hab := q_ab128 hR (w := w) (by omega)
  have h2w : 2 ^ w < 128 := p7w (by omega)
  have zb := z_bit0 (a := S) (i := w) (by omega) (by omega)
  refine zC.of [some (zr ((c + 11 : Nat) : Int)), some (zi (S : Int)), some (zi (w : Int))] (by decide +kernel) rfl rfl (Nat.le_of_ble_eq_true rfl) rfl ?_
  refine p_iload_n 1 dX7_canBegin_0 rfl rfl ?_
  refine p_iload_n 2 dX7_canBegin_1 rfl rfl ?_
  refine p_callN1i 5 dX7_canBegin_2 (s_bit (i := w) (by omega)) ln_X7_53 mX11_bit (by decide) (Nat.le_of_ble_eq_true rfl) ?_
  rintro _ _ ⟨rfl, e9⟩
  have e9 := e9.symm
  subst e9
  refine p_iand 6 dX7_canBegin_5 ?_
  refine p_if_eq 24 9 dX7_canBegin_6 (by omega) (by omega) (fun h6 => ?_) (fun h6 => ?_)
  · have hb := zb.1.mp h6
    refine p_iconst 25 dX7_canBegin_24 ?_
    refine p_zret dX7_canBegin_25 rfl (by decide) ?_
    refine ⟨_, rfl, ?_, rfl⟩
    unfold q_can
    simp only [hb]
    first | rfl | (rw [if_pos (by simp; omega)]) | (rw [if_neg (by simp; omega)])
  · have hb : S.testBit w = true := by
      cases g : S.testBit w with
      | false => exact absurd (zb.1.mpr g) h6
      | true => rfl
    refine p_aload_n 10 dX7_canBegin_9 rfl rfl (by omega) ?_
    refine p_getR (c + 11) 13 dX7_canBegin_10 fX7_58 hc.tt.1 (hc.wire hW).2.2 ?_
    refine p_iload_n 14 dX7_canBegin_13 rfl rfl ?_
    refine p_ialdn (c + 16) 15 (w) dX7_canBegin_14 hc.tt.2.2.2 (by omega) (by omega) ?_
    rw [ew.2.2]
    refine p_iload_n 16 dX7_canBegin_15 rfl rfl ?_
    refine p_iand 17 dX7_canBegin_16 ?_
    rw [z_iand_n (q_ab (q_n ρ) w) S (by omega) (by omega)]
    refine p_if_ne 24 20 dX7_canBegin_17 (by have := Nat.and_le_left (n := q_ab (q_n ρ) w) (m := S); omega) (by have := Nat.and_le_left (n := q_ab (q_n ρ) w) (m := S); omega) (fun h17 => ?_) (fun h17 => ?_)
    · refine p_iconst 25 dX7_canBegin_24 ?_
      refine p_zret dX7_canBegin_25 rfl (by decide) ?_
      refine ⟨_, rfl, ?_, rfl⟩
      unfold q_can
      simp only [hb]
      first | rfl | (rw [if_pos (by simp; omega)]) | (rw [if_neg (by simp; omega)])
    · refine p_iconst 21 dX7_canBegin_20 ?_
      refine p_goto 25 dX7_canBegin_21 ?_
      refine p_zret dX7_canBegin_25 rfl (by decide) ?_
      refine ⟨_, rfl, ?_, rfl⟩
      unfold q_can
      simp only [hb]
      first | rfl | (rw [if_pos (by simp; omega)]) | (rw [if_neg (by simp; omega)])
theorem s_costFirst {l : Launch} {X : ZX} {M : ZM} {c : Nat} (hc : isC c) {ρ : Nat → Int} {h : Int} (hW : zWc M) (hC : ICc ρ h c M) (hR : wfR ρ) {S w : Nat} (hS : S < 128) (hw : (w : Int) < ρ 4) (ho : M 116 S = (q_odds (q_n ρ) S : Int)) (hk : M 119 (q_del S w) = (q_cost (q_n ρ) 7 (q_del S w) : Int)) : zCi l X 1 yX7_costFirst tX7_costFirst [zr 115, zr ((c + 11 : Nat) : Int), zi (S : Int), zi (w : Int)] M (fun a M' => a = (q_cf (q_n ρ) S w : Int) ∧ M' = M) := by
  have e4 : ρ 4 = (q_n ρ 4 : Int) := hR.n (by decide)
  have b4 := hR.2.1.2.2.2.2.1
  have hcl := hc.lt
  have ew := hC.2.2.2.1 w (by omega)
  have hab := q_ab128 hR (w := w) (by omega)
  have h2w : 2 ^ w < 128 := p7w (by omega)
  have hdl : q_del S w < 128 := Nat.lt_of_le_of_lt (q_del_le S w) hS
  have em : ρ (38 + 3 * w + 1) = (q_n ρ (38 + 3 * w + 1) : Int) := hR.n (by omega)
  refine zC.of [some (zr 115), some (zr ((c + 11 : Nat) : Int)), some (zi (S : Int)), some (zi (w : Int))] (by decide +kernel) rfl rfl (Nat.le_of_ble_eq_true rfl) rfl ?_
  refine p_aload_n 1 dX7_costFirst_0 rfl rfl (by omega) ?_
  refine p_getR (c + 11) 4 dX7_costFirst_1 fX7_57 hc.tt.1 (hc.wire hW).2.1 ?_
  refine p_iload_n 5 dX7_costFirst_4 rfl rfl ?_
  refine p_ialdn (c + 14) 6 (w) dX7_costFirst_5 hc.tt.2.2.1 (by omega) (by omega) ?_
  rw [ew.2.1]
  refine p_aload_n 7 dX7_costFirst_6 rfl rfl (by decide) ?_
  refine p_getR 115 10 dX7_costFirst_7 fX7_11 rfl (hW (115, 1, 116) (by decide)) ?_
  refine p_iload_n 11 dX7_costFirst_10 rfl rfl ?_
  refine p_ialdn 116 12 (S) dX7_costFirst_11 rfl (by omega) (by omega) ?_
  rw [ho]
  refine p_imul 13 dX7_costFirst_12 ?_
  refine p_aload_n 14 dX7_costFirst_13 rfl rfl (by decide) ?_
  refine p_getR 115 17 dX7_costFirst_14 fX7_21 rfl (hW (115, 4, 119) (by decide)) ?_
  refine p_iload_n 18 dX7_costFirst_17 rfl rfl ?_
  refine p_iload_n 19 dX7_costFirst_18 rfl rfl ?_
  refine p_callN1i 22 dX7_costFirst_19 (s_bit (i := w) (by omega)) ln_X7_53 mX11_bit (by decide) (Nat.le_of_ble_eq_true rfl) ?_
  rintro _ _ ⟨rfl, e9⟩
  have e9 := e9.symm
  subst e9
  refine p_iconst 23 dX7_costFirst_22 ?_
  refine p_ixor 24 dX7_costFirst_23 ?_
  refine p_iand 25 dX7_costFirst_24 ?_
  rw [z_andn_n S (2 ^ w) (by omega) (by omega)]
  refine p_ialdn 119 26 (q_del S w) dX7_costFirst_25 rfl rfl hdl ?_
  rw [hk]
  refine p_iadd 27 dX7_costFirst_26 ?_
  refine p_iret dX7_costFirst_27 rfl ?_
  refine ⟨_, rfl, ?_, rfl⟩
  unfold q_cf
  rw [Int.natCast_add, Int.natCast_mul, ← em]
theorem s_addUp {l : Launch} {X : ZX} {M : ZM} {c : Nat} (hc : isC c) {ρ : Nat → Int} {h : Int} (hW : zWc M) (hC : ICc ρ h c M) (hR : wfR ρ) {S : Nat} (h0 : S ≠ 0) (hS : S < 2 ^ q_n ρ 4) (hk : ICk ρ S M) : zCv l X 1 yX7_addUp tX7_addUp [zr 115, zr ((c + 11 : Nat) : Int), zi (S : Int)] M (fun M' => M' = zset (zset (zset M 116 S (q_odds (q_n ρ) S : Int)) 117 S (q_mins (q_n ρ) S : Int)) 118 S (q_needs (q_n ρ) S (q_n ρ 4) : Int)) := by
  have e4 : ρ 4 = (q_n ρ 4 : Int) := hR.n (by decide)
  have b4 := hR.2.1.2.2.2.2.1
  have hcl := hc.lt
  have hp7 := p7 (n := q_n ρ 4) (by omega)
  have hS7 : S < 128 := by omega
  have hwb := q_ntz_bit S hS7 h0
  have hwl : q_ntz S < q_n ρ 4 := testBit_lt hS hwb
  have hdlt := q_del_lt (w := q_ntz S) (by omega) hwb
  have hdl : q_del S (q_ntz S) < 128 := by omega
  have ew := hC.2.2.2.1 (q_ntz S) (by omega)
  have hab := q_ab128 hR (w := q_ntz S) (by omega)
  have h2w : 2 ^ q_ntz S < 128 := p7w (by omega)
  have eo : ρ (38 + 3 * q_ntz S) = (q_n ρ (38 + 3 * q_ntz S) : Int) := hR.n (by omega)
  have em : ρ (38 + 3 * q_ntz S + 1) = (q_n ρ (38 + 3 * q_ntz S + 1) : Int) := hR.n (by omega)
  refine zC.of [some (zr 115), some (zr ((c + 11 : Nat) : Int)), some (zi (S : Int)), none, none] (by decide +kernel) rfl rfl (Nat.le_of_ble_eq_true rfl) rfl ?_
  refine p_iload_n 1 dX7_addUp_0 rfl rfl ?_
  refine p_callS1i 4 dX7_addUp_1 (s_ntz hS7 h0) lk_X7_48 mJ6_numberOfTrailingZeros_0f7a4 (by decide) (Nat.le_of_ble_eq_true rfl) ?_
  rintro _ _ ⟨rfl, e9⟩
  have e9 := e9.symm
  subst e9
  generalize hwn : q_ntz S = w at hwb hwl hdl hdlt ew hab h2w eo em ⊢
  refine p_istore_n 5 dX7_addUp_4 rfl (Nat.le_of_ble_eq_true rfl) rfl rfl ?_
  dsimp only [List.set]
  refine p_iload_n 6 dX7_addUp_5 rfl rfl ?_
  refine p_iload_n 7 dX7_addUp_6 rfl rfl ?_
  refine p_callN1i 10 dX7_addUp_7 (s_bit (i := w) (by omega)) ln_X7_53 mX11_bit (by decide) (Nat.le_of_ble_eq_true rfl) ?_
  rintro _ _ ⟨rfl, e9⟩
  have e9 := e9.symm
  subst e9
  refine p_iconst 11 dX7_addUp_10 ?_
  refine p_ixor 12 dX7_addUp_11 ?_
  refine p_iand 13 dX7_addUp_12 ?_
  rw [z_andn_n S (2 ^ w) (by omega) (by omega)]
  refine p_istore 15 dX7_addUp_13 (Nat.le_of_ble_eq_true rfl) rfl rfl ?_
  dsimp only [List.set]
  refine p_aload_n 16 dX7_addUp_15 rfl rfl (by decide) ?_
  refine p_getR 115 19 dX7_addUp_16 fX7_11 rfl (hW (115, 1, 116) (by decide)) ?_
  refine p_iload_n 20 dX7_addUp_19 rfl rfl ?_
  refine p_aload_n 21 dX7_addUp_20 rfl rfl (by decide) ?_
  refine p_getR 115 24 dX7_addUp_21 fX7_11 rfl (hW (115, 1, 116) (by decide)) ?_
  refine p_iload 26 dX7_addUp_24 rfl ?_
  refine p_ialdn 116 27 (q_del S w) dX7_addUp_26 rfl rfl hdl ?_
  rw [(hk _ hdlt).1]
  refine p_aload_n 28 dX7_addUp_27 rfl rfl (by omega) ?_
  refine p_getR (c + 11) 31 dX7_addUp_28 fX7_56 hc.tt.1 (hc.wire hW).1 ?_
  refine p_iload_n 32 dX7_addUp_31 rfl rfl ?_
  refine p_ialdn (c + 13) 33 (w) dX7_addUp_32 hc.tt.2.1 (by omega) (by omega) ?_
  rw [ew.1, eo]
  refine p_iadd 34 dX7_addUp_33 ?_
  rw [show ((q_odds (q_n ρ) (q_del S w) : Nat) : Int) + ((q_n ρ (38 + 3 * w) : Nat) : Int) = (q_odds (q_n ρ) S : Int) by rw [q_odds_del hS7 (by omega) hwb]; omega]
  have hW1 : zWc (zset M 116 S (q_odds (q_n ρ) S : Int)) := hW.setc (by decide +kernel)
  refine p_iastn 116 35 (S) dX7_addUp_34 rfl (by omega) (by omega) ?_
  refine p_aload_n 36 dX7_addUp_35 rfl rfl (by decide) ?_
  refine p_getR 115 39 dX7_addUp_36 fX7_15 rfl (hW (115, 2, 117) (by decide)) ?_
  refine p_iload_n 40 dX7_addUp_39 rfl rfl ?_
  refine p_aload_n 41 dX7_addUp_40 rfl rfl (by decide) ?_
  refine p_getR 115 44 dX7_addUp_41 fX7_15 rfl (hW (115, 2, 117) (by decide)) ?_
  refine p_iload 46 dX7_addUp_44 rfl ?_
  refine p_ialdn 117 47 (q_del S w) dX7_addUp_46 rfl rfl hdl ?_
  rw [zset_ne _ (by decide), (hk _ hdlt).2.1]
  refine p_aload_n 48 dX7_addUp_47 rfl rfl (by omega) ?_
  refine p_getR (c + 11) 51 dX7_addUp_48 fX7_57 hc.tt.1 (hc.wire hW1).2.1 ?_
  refine p_iload_n 52 dX7_addUp_51 rfl rfl ?_
  refine p_ialdn (c + 14) 53 (w) dX7_addUp_52 hc.tt.2.2.1 (by omega) (by omega) ?_
  rw [zset_ne _ (by omega), ew.2.1, em]
  refine p_iadd 54 dX7_addUp_53 ?_
  rw [show ((q_mins (q_n ρ) (q_del S w) : Nat) : Int) + ((q_n ρ (38 + 3 * w + 1) : Nat) : Int) = (q_mins (q_n ρ) S : Int) by rw [q_mins_del hS7 (by omega) hwb]; omega]
  have hW2 : zWc (zset (zset M 116 S (q_odds (q_n ρ) S : Int)) 117 S (q_mins (q_n ρ) S : Int)) := hW1.setc (by decide +kernel)
  refine p_iastn 117 55 (S) dX7_addUp_54 rfl (by omega) (by omega) ?_
  refine p_aload_n 56 dX7_addUp_55 rfl rfl (by decide) ?_
  refine p_getR 115 59 dX7_addUp_56 fX7_18 rfl (hW (115, 3, 118) (by decide)) ?_
  refine p_iload_n 60 dX7_addUp_59 rfl rfl ?_
  refine p_aload_n 61 dX7_addUp_60 rfl rfl (by decide) ?_
  refine p_getR 115 64 dX7_addUp_61 fX7_18 rfl (hW (115, 3, 118) (by decide)) ?_
  refine p_iload 66 dX7_addUp_64 rfl ?_
  refine p_ialdn 118 67 (q_del S w) dX7_addUp_66 rfl rfl hdl ?_
  rw [zset_ne _ (by decide), zset_ne _ (by decide), (hk _ hdlt).2.2.1]
  refine p_aload_n 68 dX7_addUp_67 rfl rfl (by omega) ?_
  refine p_getR (c + 11) 71 dX7_addUp_68 fX7_58 hc.tt.1 (hc.wire hW2).2.2 ?_
  refine p_iload_n 72 dX7_addUp_71 rfl rfl ?_
  refine p_ialdn (c + 16) 73 (w) dX7_addUp_72 hc.tt.2.2.2 (by omega) (by omega) ?_
  rw [zset_ne _ (by omega), zset_ne _ (by omega), ew.2.2]
  refine p_ior 74 dX7_addUp_73 ?_
  rw [z_ior_n _ _ (by have := q_needs_lt hR (q_del S w) (q_n ρ 4) (by omega); omega) (by omega), ← q_needs_del hS7 (by omega) hwb]
  refine p_iastn 118 75 (S) dX7_addUp_74 rfl (by omega) (by omega) ?_
  refine p_vret dX7_addUp_75 rfl ?_
  exact ⟨rfl, rfl⟩
theorem l_weigh {l : Launch} {X : ZX} {M : ZM} {c : Nat} (hc : isC c) {ρ : Nat → Int} {h : Int} (hW : zWc M) (hC : ICc ρ h c M) (hR : wfR ρ) {S : Nat} (h0 : S ≠ 0) (hS : S < 2 ^ q_n ρ 4) (hk : ICk ρ S M) (ho : M 116 S = (q_odds (q_n ρ) S : Int)) (hex : ∃ w, w < q_n ρ 4 ∧ q_can (q_n ρ) S w = true) : ∀ (j i : Nat), i + j = q_n ρ 4 → ∀ o9 : Option ZV, zP l X 2 tX7_weigh 8 [some (zr 115), some (zr ((c + 11 : Nat) : Int)), some (zi (S : Int)), some (zi (q_mn (q_min (q_can (q_n ρ) S) (q_cf (q_n ρ) S) i))), some (zi (q_sum (fun w => if q_can (q_n ρ) S w then q_rows (q_n ρ) 7 (q_del S w) else 0) i : Int)), some (zi (i : Int)), o9] [] M (fun r M' => r = none ∧ M' = zset (zset M 119 S (q_cost (q_n ρ) 7 S : Int)) 120 S (q_rows (q_n ρ) 7 S : Int)) := by
  have e4 : ρ 4 = (q_n ρ 4 : Int) := hR.n (by decide)
  have b4 := hR.2.1.2.2.2.2.1
  have hcl := hc.lt
  have hp7 := p7 (n := q_n ρ 4) (by omega)
  have hS7 : S < 128 := by omega
  intro j
  induction j with
  | zero =>
    intro i hi o9
    refine p_iload 10 dX7_weigh_8 rfl ?_
    refine p_aload_n 11 dX7_weigh_10 rfl rfl (by omega) ?_
    refine p_getI (c + 11) 14 dX7_weigh_11 fX7_31 hc.tt.1 ?_
    rw [hC.1.2.2.2.2.2.1]
    refine p_icmp_ge 80 17 dX7_weigh_14 (by omega) (by omega) (by omega) (by omega) (fun h14 => ?_) (fun h14 => absurd (by omega) (fun h9 : False => h9))
    refine p_aload_n 81 dX7_weigh_80 rfl rfl (by decide) ?_
    refine p_getR 115 84 dX7_weigh_81 fX7_21 rfl (hW (115, 4, 119) (by decide)) ?_
    refine p_iload_n 85 dX7_weigh_84 rfl rfl ?_
    refine p_iload_n 86 dX7_weigh_85 rfl rfl ?_
    obtain ⟨b, hb⟩ := q_min_some (g := q_cf (q_n ρ) S) hex
    rw [Nat.add_zero] at hi
    subst hi
    rw [show q_mn (q_min (q_can (q_n ρ) S) (q_cf (q_n ρ) S) (q_n ρ 4)) = (q_cost (q_n ρ) 7 S : Int) by rw [q_cost_rec hS7 h0, hb]; rfl]
    refine p_iastn 119 87 (S) dX7_weigh_86 rfl (by omega) (by omega) ?_
    refine p_aload_n 88 dX7_weigh_87 rfl rfl (by decide) ?_
    refine p_getR 115 91 dX7_weigh_88 fX7_24 rfl ((hW.setc (by decide +kernel)) (115, 5, 120) (by decide +kernel)) ?_
    refine p_iload_n 92 dX7_weigh_91 rfl rfl ?_
    refine p_iload 94 dX7_weigh_92 rfl ?_
    rw [← q_rows_rec hS7 h0]
    refine p_iastn 120 95 (S) dX7_weigh_94 rfl (by omega) (by omega) ?_
    refine p_vret dX7_weigh_95 rfl ?_
    exact ⟨rfl, rfl⟩
  | succ j ih =>
    intro i hi o9
    have h2w : 2 ^ i < 128 := p7w (by omega)
    have hcf := q_cf_le hR S (w := i) (by omega)
    have hmn : -1 ≤ q_mn (q_min (q_can (q_n ρ) S) (q_cf (q_n ρ) S) i) ∧ q_mn (q_min (q_can (q_n ρ) S) (q_cf (q_n ρ) S) i) ≤ 166320 := by
      cases hm : q_min (q_can (q_n ρ) S) (q_cf (q_n ρ) S) i with
      | none => exact ⟨by decide, by decide⟩
      | some b =>
        obtain ⟨⟨w, hw, hp, hg⟩, -⟩ := q_min_at hm
        have := q_cf_le hR S (w := w) (by omega)
        exact ⟨by show (-1 : Int) ≤ (b : Int); omega, by show (b : Int) ≤ 166320; omega⟩
    refine p_iload 10 dX7_weigh_8 rfl ?_
    refine p_aload_n 11 dX7_weigh_10 rfl rfl (by omega) ?_
    refine p_getI (c + 11) 14 dX7_weigh_11 fX7_31 hc.tt.1 ?_
    rw [hC.1.2.2.2.2.2.1]
    refine p_icmp_ge 80 17 dX7_weigh_14 (by omega) (by omega) (by omega) (by omega) (fun h14 => absurd (by omega) (fun h9 : False => h9)) (fun h14 => ?_)
    refine p_aload_n 18 dX7_weigh_17 rfl rfl (by omega) ?_
    refine p_iload_n 19 dX7_weigh_18 rfl rfl ?_
    refine p_iload 21 dX7_weigh_19 rfl ?_
    refine p_callS3i 24 dX7_weigh_21 (s_canBegin hc hW hC hR (w := i) hS7 (by omega)) lk_X7_61 mX7_canBegin (by decide) (Nat.le_of_ble_eq_true rfl) ?_
    rintro _ _ ⟨rfl, e9⟩
    have e9 := e9.symm
    subst e9
    refine p_if_eq 74 27 dX7_weigh_24 (by split <;> omega) (by split <;> omega) (fun h24 => ?_) (fun h24 => ?_)
    · have hqn : ¬ q_can (q_n ρ) S i = true := if_eq0 h24
      refine p_iinc 77 dX7_weigh_74 rfl rfl rfl ?_
      dsimp only [List.set]
      refine p_goto 8 dX7_weigh_77 ?_
      have er : q_sum (fun w => if q_can (q_n ρ) S w then q_rows (q_n ρ) 7 (q_del S w) else 0) (i + 1) = q_sum (fun w => if q_can (q_n ρ) S w then q_rows (q_n ρ) 7 (q_del S w) else 0) i + (if q_can (q_n ρ) S i then q_rows (q_n ρ) 7 (q_del S i) else 0) := rfl
      first
        | (rw [if_neg hqn] at er
           have e := ih (i + 1) (by omega) o9
           rw [er, q_mn_skip hqn] at e
           exact e)
        | (rw [if_pos hqp] at er
           have e := ih (i + 1) (by omega) (some (zi (q_cf (q_n ρ) S i : Int)))
           rw [er, q_mn_step hqp, if_pos (by omega)] at e
           exact e)
        | (rw [if_pos hqp] at er
           have e := ih (i + 1) (by omega) (some (zi (q_cf (q_n ρ) S i : Int)))
           rw [er, q_mn_step hqp, if_neg (by omega)] at e
           exact e)
    · have hqp : q_can (q_n ρ) S i = true := if_neq0 h24
      have hb := q_can_bit hqp
      have hdlt := q_del_lt (w := i) (by omega) hb
      refine p_aload_n 28 dX7_weigh_27 rfl rfl (by decide) ?_
      refine p_aload_n 29 dX7_weigh_28 rfl rfl (by omega) ?_
      refine p_iload_n 30 dX7_weigh_29 rfl rfl ?_
      refine p_iload 32 dX7_weigh_30 rfl ?_
      refine p_callV3i 115 35 dX7_weigh_32 (s_costFirst hc hW hC hR (w := i) hS7 (by omega) ho (hk _ hdlt).2.2.2.1) lk_X7_65 mX7_costFirst rfl rfl (by decide) (Nat.le_of_ble_eq_true rfl) ?_
      rintro _ _ ⟨rfl, e9⟩
      have e9 := e9.symm
      subst e9
      refine p_istore 37 dX7_weigh_35 (Nat.le_of_ble_eq_true rfl) rfl rfl ?_
      dsimp only [List.set]
      refine p_iload_n 38 dX7_weigh_37 rfl rfl ?_
      refine p_iconst 39 dX7_weigh_38 ?_
      refine p_icmp_eq 48 42 dX7_weigh_39 (by omega) (by omega) (by omega) (by omega) (fun h39 => ?_) (fun h39 => ?_)
      · refine p_iload 50 dX7_weigh_48 rfl ?_
        refine p_goto 54 dX7_weigh_50 ?_
        refine p_istore_n 55 dX7_weigh_54 rfl (Nat.le_of_ble_eq_true rfl) rfl rfl ?_
        dsimp only [List.set]
        refine p_iload 57 dX7_weigh_55 rfl ?_
        refine p_aload_n 58 dX7_weigh_57 rfl rfl (by decide) ?_
        refine p_getR 115 61 dX7_weigh_58 fX7_24 rfl (hW (115, 5, 120) (by decide)) ?_
        refine p_iload_n 62 dX7_weigh_61 rfl rfl ?_
        refine p_iload 64 dX7_weigh_62 rfl ?_
        refine p_callN1i 67 dX7_weigh_64 (s_bit (i := i) (by omega)) ln_X7_53 mX11_bit (by decide) (Nat.le_of_ble_eq_true rfl) ?_
        rintro _ _ ⟨rfl, e9⟩
        have e9 := e9.symm
        subst e9
        refine p_iconst 68 dX7_weigh_67 ?_
        refine p_ixor 69 dX7_weigh_68 ?_
        refine p_iand 70 dX7_weigh_69 ?_
        rw [z_andn_n S (2 ^ i) (by omega) (by omega)]
        refine p_ialdn 120 71 (q_del S i) dX7_weigh_70 rfl rfl (by omega) ?_
        rw [(hk _ hdlt).2.2.2.2]
        refine p_iadd 72 dX7_weigh_71 ?_
        refine p_istore 74 dX7_weigh_72 (Nat.le_of_ble_eq_true rfl) rfl rfl ?_
        dsimp only [List.set]
        refine p_iinc 77 dX7_weigh_74 rfl rfl rfl ?_
        dsimp only [List.set]
        refine p_goto 8 dX7_weigh_77 ?_
        have er : q_sum (fun w => if q_can (q_n ρ) S w then q_rows (q_n ρ) 7 (q_del S w) else 0) (i + 1) = q_sum (fun w => if q_can (q_n ρ) S w then q_rows (q_n ρ) 7 (q_del S w) else 0) i + (if q_can (q_n ρ) S i then q_rows (q_n ρ) 7 (q_del S i) else 0) := rfl
        first
          | (rw [if_neg hqn] at er
             have e := ih (i + 1) (by omega) o9
             rw [er, q_mn_skip hqn] at e
             exact e)
          | (rw [if_pos hqp] at er
             have e := ih (i + 1) (by omega) (some (zi (q_cf (q_n ρ) S i : Int)))
             rw [er, q_mn_step hqp, if_pos (by omega)] at e
             exact e)
          | (rw [if_pos hqp] at er
             have e := ih (i + 1) (by omega) (some (zi (q_cf (q_n ρ) S i : Int)))
             rw [er, q_mn_step hqp, if_neg (by omega)] at e
             exact e)
      · refine p_iload 44 dX7_weigh_42 rfl ?_
        refine p_iload_n 45 dX7_weigh_44 rfl rfl ?_
        refine p_icmp_ge 53 48 dX7_weigh_45 (by omega) (by omega) (by omega) (by omega) (fun h45 => ?_) (fun h45 => ?_)
        · refine p_iload_n 54 dX7_weigh_53 rfl rfl ?_
          refine p_istore_n 55 dX7_weigh_54 rfl (Nat.le_of_ble_eq_true rfl) rfl rfl ?_
          dsimp only [List.set]
          refine p_iload 57 dX7_weigh_55 rfl ?_
          refine p_aload_n 58 dX7_weigh_57 rfl rfl (by decide) ?_
          refine p_getR 115 61 dX7_weigh_58 fX7_24 rfl (hW (115, 5, 120) (by decide)) ?_
          refine p_iload_n 62 dX7_weigh_61 rfl rfl ?_
          refine p_iload 64 dX7_weigh_62 rfl ?_
          refine p_callN1i 67 dX7_weigh_64 (s_bit (i := i) (by omega)) ln_X7_53 mX11_bit (by decide) (Nat.le_of_ble_eq_true rfl) ?_
          rintro _ _ ⟨rfl, e9⟩
          have e9 := e9.symm
          subst e9
          refine p_iconst 68 dX7_weigh_67 ?_
          refine p_ixor 69 dX7_weigh_68 ?_
          refine p_iand 70 dX7_weigh_69 ?_
          rw [z_andn_n S (2 ^ i) (by omega) (by omega)]
          refine p_ialdn 120 71 (q_del S i) dX7_weigh_70 rfl rfl (by omega) ?_
          rw [(hk _ hdlt).2.2.2.2]
          refine p_iadd 72 dX7_weigh_71 ?_
          refine p_istore 74 dX7_weigh_72 (Nat.le_of_ble_eq_true rfl) rfl rfl ?_
          dsimp only [List.set]
          refine p_iinc 77 dX7_weigh_74 rfl rfl rfl ?_
          dsimp only [List.set]
          refine p_goto 8 dX7_weigh_77 ?_
          have er : q_sum (fun w => if q_can (q_n ρ) S w then q_rows (q_n ρ) 7 (q_del S w) else 0) (i + 1) = q_sum (fun w => if q_can (q_n ρ) S w then q_rows (q_n ρ) 7 (q_del S w) else 0) i + (if q_can (q_n ρ) S i then q_rows (q_n ρ) 7 (q_del S i) else 0) := rfl
          first
            | (rw [if_neg hqn] at er
               have e := ih (i + 1) (by omega) o9
               rw [er, q_mn_skip hqn] at e
               exact e)
            | (rw [if_pos hqp] at er
               have e := ih (i + 1) (by omega) (some (zi (q_cf (q_n ρ) S i : Int)))
               rw [er, q_mn_step hqp, if_pos (by omega)] at e
               exact e)
            | (rw [if_pos hqp] at er
               have e := ih (i + 1) (by omega) (some (zi (q_cf (q_n ρ) S i : Int)))
               rw [er, q_mn_step hqp, if_neg (by omega)] at e
               exact e)
        · refine p_iload 50 dX7_weigh_48 rfl ?_
          refine p_goto 54 dX7_weigh_50 ?_
          refine p_istore_n 55 dX7_weigh_54 rfl (Nat.le_of_ble_eq_true rfl) rfl rfl ?_
          dsimp only [List.set]
          refine p_iload 57 dX7_weigh_55 rfl ?_
          refine p_aload_n 58 dX7_weigh_57 rfl rfl (by decide) ?_
          refine p_getR 115 61 dX7_weigh_58 fX7_24 rfl (hW (115, 5, 120) (by decide)) ?_
          refine p_iload_n 62 dX7_weigh_61 rfl rfl ?_
          refine p_iload 64 dX7_weigh_62 rfl ?_
          refine p_callN1i 67 dX7_weigh_64 (s_bit (i := i) (by omega)) ln_X7_53 mX11_bit (by decide) (Nat.le_of_ble_eq_true rfl) ?_
          rintro _ _ ⟨rfl, e9⟩
          have e9 := e9.symm
          subst e9
          refine p_iconst 68 dX7_weigh_67 ?_
          refine p_ixor 69 dX7_weigh_68 ?_
          refine p_iand 70 dX7_weigh_69 ?_
          rw [z_andn_n S (2 ^ i) (by omega) (by omega)]
          refine p_ialdn 120 71 (q_del S i) dX7_weigh_70 rfl rfl (by omega) ?_
          rw [(hk _ hdlt).2.2.2.2]
          refine p_iadd 72 dX7_weigh_71 ?_
          refine p_istore 74 dX7_weigh_72 (Nat.le_of_ble_eq_true rfl) rfl rfl ?_
          dsimp only [List.set]
          refine p_iinc 77 dX7_weigh_74 rfl rfl rfl ?_
          dsimp only [List.set]
          refine p_goto 8 dX7_weigh_77 ?_
          have er : q_sum (fun w => if q_can (q_n ρ) S w then q_rows (q_n ρ) 7 (q_del S w) else 0) (i + 1) = q_sum (fun w => if q_can (q_n ρ) S w then q_rows (q_n ρ) 7 (q_del S w) else 0) i + (if q_can (q_n ρ) S i then q_rows (q_n ρ) 7 (q_del S i) else 0) := rfl
          first
            | (rw [if_neg hqn] at er
               have e := ih (i + 1) (by omega) o9
               rw [er, q_mn_skip hqn] at e
               exact e)
            | (rw [if_pos hqp] at er
               have e := ih (i + 1) (by omega) (some (zi (q_cf (q_n ρ) S i : Int)))
               rw [er, q_mn_step hqp, if_pos (by omega)] at e
               exact e)
            | (rw [if_pos hqp] at er
               have e := ih (i + 1) (by omega) (some (zi (q_cf (q_n ρ) S i : Int)))
               rw [er, q_mn_step hqp, if_neg (by omega)] at e
               exact e)
theorem s_weigh {l : Launch} {X : ZX} {M : ZM} {c : Nat} (hc : isC c) {ρ : Nat → Int} {h : Int} (hW : zWc M) (hC : ICc ρ h c M) (hR : wfR ρ) {S : Nat} (h0 : S ≠ 0) (hS : S < 2 ^ q_n ρ 4) (hk : ICk ρ S M) (ho : M 116 S = (q_odds (q_n ρ) S : Int)) (hex : ∃ w, w < q_n ρ 4 ∧ q_can (q_n ρ) S w = true) : zCv l X 2 yX7_weigh tX7_weigh [zr 115, zr ((c + 11 : Nat) : Int), zi (S : Int)] M (fun M' => M' = zset (zset M 119 S (q_cost (q_n ρ) 7 S : Int)) 120 S (q_rows (q_n ρ) 7 S : Int)) := by
  refine zC.of [some (zr 115), some (zr ((c + 11 : Nat) : Int)), some (zi (S : Int)), none, none, none, none] (by decide +kernel) rfl rfl (Nat.le_of_ble_eq_true rfl) rfl ?_
  refine p_iconst 1 dX7_weigh_0 ?_
  refine p_istore_n 2 dX7_weigh_1 rfl (Nat.le_of_ble_eq_true rfl) rfl rfl ?_
  dsimp only [List.set]
  refine p_iconst 3 dX7_weigh_2 ?_
  refine p_istore 5 dX7_weigh_3 (Nat.le_of_ble_eq_true rfl) rfl rfl ?_
  dsimp only [List.set]
  refine p_iconst 6 dX7_weigh_5 ?_
  refine p_istore 8 dX7_weigh_6 (Nat.le_of_ble_eq_true rfl) rfl rfl ?_
  dsimp only [List.set]
  exact l_weigh hc hW hC hR h0 hS hk ho hex (q_n ρ 4) 0 (Nat.zero_add _) none
theorem ICk.congr {ρ : Nat → Int} {k : Nat} {M M' : ZM} (h : ICk ρ k M) (h0 : M' 116 = M 116) (h1 : M' 117 = M 117) (h2 : M' 118 = M 118) (h3 : M' 119 = M 119) (h4 : M' 120 = M 120) : ICk ρ k M' := by
  unfold ICk at h ⊢
  rw [h0, h1, h2, h3, h4]
  exact h
/-- a set's numbers are written -/
def zlrn (ρ : Nat → Int) (M : ZM) (S : Nat) : ZM := zset (zset (zset (zset (zset M 116 S (q_odds (q_n ρ) S : Int)) 117 S (q_mins (q_n ρ) S : Int)) 118 S (q_needs (q_n ρ) S (q_n ρ 4) : Int)) 119 S (q_cost (q_n ρ) 7 S : Int)) 120 S (q_rows (q_n ρ) 7 S : Int)
theorem zlrn_ne {ρ : Nat → Int} {M : ZM} {S a : Nat} (h : a < 116 ∨ 120 < a) : zlrn ρ M S a = M a := by
  unfold zlrn
  rw [zset_ne _ (by omega), zset_ne _ (by omega), zset_ne _ (by omega), zset_ne _ (by omega), zset_ne _ (by omega)]
theorem zlrn_k {ρ : Nat → Int} {M : ZM} {k : Nat} (h : ICk ρ k M) : ICk ρ (k + 1) (zlrn ρ M k) := by
  intro S hS
  by_cases e : S = k
  · subst e
    unfold zlrn
    refine ⟨?_, ?_, ?_, ?_, ?_⟩
    · rw [zset_ne _ (by decide), zset_ne _ (by decide), zset_ne _ (by decide), zset_ne _ (by decide), zset_at]
    · rw [zset_ne _ (by decide), zset_ne _ (by decide), zset_ne _ (by decide), zset_at]
    · rw [zset_ne _ (by decide), zset_ne _ (by decide), zset_at]
    · rw [zset_ne _ (by decide), zset_at]
    · rw [zset_at]
  · obtain ⟨a, b, c, d, f⟩ := h S (by omega)
    unfold zlrn
    refine ⟨?_, ?_, ?_, ?_, ?_⟩
    · rw [zset_ne _ (by decide), zset_ne _ (by decide), zset_ne _ (by decide), zset_ne _ (by decide), zset_k e]; exact a
    · rw [zset_ne _ (by decide), zset_ne _ (by decide), zset_ne _ (by decide), zset_k e, zset_ne _ (by decide)]; exact b
    · rw [zset_ne _ (by decide), zset_ne _ (by decide), zset_k e, zset_ne _ (by decide), zset_ne _ (by decide)]; exact c
    · rw [zset_ne _ (by decide), zset_k e, zset_ne _ (by decide), zset_ne _ (by decide), zset_ne _ (by decide)]; exact d
    · rw [zset_k e, zset_ne _ (by decide), zset_ne _ (by decide), zset_ne _ (by decide), zset_ne _ (by decide)]; exact f
theorem zlrn_wc {ρ : Nat → Int} {M : ZM} {S : Nat} (hW : zWc M) : zWc (zlrn ρ M S) := ((((hW.setc (by decide +kernel)).setc (by decide +kernel)).setc (by decide +kernel)).setc (by decide +kernel)).setc (by decide +kernel)
theorem q_sum0 {f : Nat → Nat} (h : ∀ i, f i = 0) : ∀ n, q_sum f n = 0 := fun n => q_sum_zero (fun i _ => h i)
theorem ICk_start {ρ : Nat → Int} {M : ZM} (h1 : M 116 0 = 0) (h2 : M 117 0 = 0) (h3 : M 118 0 = 0) (h4 : M 119 0 = 0) (h5 : M 120 0 = 1) : ICk ρ 1 M := by
  intro S hS
  have h0 : S = 0 := by omega
  subst h0
  have hn : ∀ n, q_needs (q_n ρ) 0 n = 0 := by
    intro n
    induction n with
    | zero => rfl
    | succ n ih =>
      show (if (0 : Nat).testBit n = true then _ else _) = 0
      rw [Nat.zero_testBit, if_neg (by decide), ih]
  refine ⟨?_, ?_, ?_, ?_, ?_⟩
  · rw [h1]
    unfold q_odds
    rw [q_sum0 (fun i => by rw [Nat.zero_testBit]; rfl)]
    rfl
  · rw [h2]
    unfold q_mins
    rw [q_sum0 (fun i => by rw [Nat.zero_testBit]; rfl)]
    rfl
  · rw [h3, hn]
    rfl
  · rw [h4]
    rfl
  · rw [h5]
    rfl
theorem l_learn {l : Launch} {X : ZX} {M : ZM} {c : Nat} (hc : isC c) {ρ : Nat → Int} {h : Int} {N : ZM} (hW : zWc N) (hC : ICc ρ h c N) (hR : wfR ρ) (hX : ∀ S, S ≠ 0 → S < 2 ^ q_n ρ 4 → ∃ w, w < q_n ρ 4 ∧ q_can (q_n ρ) S w = true) : ∀ (j i : Nat), i + j = 2 ^ q_n ρ 4 → 1 ≤ i → ∀ {M : ZM}, ICk ρ i M → (∀ a, a < 116 ∨ 120 < a → M a = N a) → zP l X 3 tX7_learn 17 [some (zr 115), some (zr ((c + 11 : Nat) : Int)), some (zi (i : Int))] [] M (fun r M' => r = none ∧ (∀ a, a < 115 ∨ 120 < a → M' a = N a) ∧ (∀ k, k ≠ 0 → M' 115 k = N 115 k) ∧ M' 115 0 = 1 ∧ ICs ρ M') := by
  have e4 : ρ 4 = (q_n ρ 4 : Int) := hR.n (by decide)
  have b4 := hR.2.1.2.2.2.2.1
  have hcl := hc.lt
  have hp7 := p7 (n := q_n ρ 4) (by omega)
  have hp0 : 0 < 2 ^ q_n ρ 4 := Nat.two_pow_pos _
  intro j
  induction j with
  | zero =>
    intro i hi h1i M hk hM
    refine p_iload_n 18 dX7_learn_17 rfl rfl ?_
    refine p_aload_n 19 dX7_learn_18 rfl rfl (by omega) ?_
    refine p_getI (c + 11) 22 dX7_learn_19 fX7_31 hc.tt.1 ?_
    rw [hM (c + 11) (by omega), hC.1.2.2.2.2.2.1, e4]
    refine p_callN1i 25 dX7_learn_22 (s_fullBits (n := q_n ρ 4) (by omega)) ln_X7_37 mX11_fullBits (by decide) (Nat.le_of_ble_eq_true rfl) ?_
    rintro _ _ ⟨rfl, e9⟩
    have e9 := e9.symm
    subst e9
    refine p_icmp_gt 46 28 dX7_learn_25 (by omega) (by omega) (by omega) (by omega) (fun h25 => ?_) (fun h25 => absurd (by omega) (fun h9 : False => h9))
    refine p_aload_n 47 dX7_learn_46 rfl rfl (by decide) ?_
    refine p_iconst 48 dX7_learn_47 ?_
    refine p_putZ 115 51 dX7_learn_48 wX7_27 rfl (by decide) ?_
    refine p_vret dX7_learn_51 rfl ?_
    refine ⟨rfl, fun a ha => ?_, fun k hk0 => ?_, rfl, ?_⟩
    · rw [zset_ne _ (by omega)]
      exact hM a (by omega)
    · rw [zset_k hk0, hM 115 (by decide)]
    · have hs : ICs ρ M := fun S hS => hk S (by omega)
      exact hs.congr (zset_ne _ (by decide)) (zset_ne _ (by decide)) (zset_ne _ (by decide)) (zset_ne _ (by decide)) (zset_ne _ (by decide))
  | succ j ih =>
    intro i hi h1i M hk hM
    have hW9 : zWc M := hW.fr (fun q hq => by
      have hr : ∀ q ∈ zwC, q.1 < 116 ∨ 120 < q.1 := by decide +kernel
      rw [hM _ (hr q hq)])
    have hC9 : ICc ρ h c M := hC.congr (fun a g1 g2 => hM a (by omega))
    refine p_iload_n 18 dX7_learn_17 rfl rfl ?_
    refine p_aload_n 19 dX7_learn_18 rfl rfl (by omega) ?_
    refine p_getI (c + 11) 22 dX7_learn_19 fX7_31 hc.tt.1 ?_
    rw [hM (c + 11) (by omega), hC.1.2.2.2.2.2.1, e4]
    refine p_callN1i 25 dX7_learn_22 (s_fullBits (n := q_n ρ 4) (by omega)) ln_X7_37 mX11_fullBits (by decide) (Nat.le_of_ble_eq_true rfl) ?_
    rintro _ _ ⟨rfl, e9⟩
    have e9 := e9.symm
    subst e9
    refine p_icmp_gt 46 28 dX7_learn_25 (by omega) (by omega) (by omega) (by omega) (fun h25 => absurd (by omega) (fun h9 : False => h9)) (fun h25 => ?_)
    refine p_aload_n 29 dX7_learn_28 rfl rfl (by decide) ?_
    refine p_aload_n 30 dX7_learn_29 rfl rfl (by omega) ?_
    refine p_iload_n 31 dX7_learn_30 rfl rfl ?_
    refine p_callV2v 115 34 dX7_learn_31 (s_addUp hc hW9 hC9 hR (S := i) (by omega) (by omega) hk) lk_X7_41 mX7_addUp rfl rfl (by decide) (Nat.le_of_ble_eq_true rfl) ?_
    rintro _ rfl
    have hW8 : zWc (zset (zset (zset M 116 i (q_odds (q_n ρ) i : Int)) 117 i (q_mins (q_n ρ) i : Int)) 118 i (q_needs (q_n ρ) i (q_n ρ 4) : Int)) := ((hW9.setc (by decide +kernel)).setc (by decide +kernel)).setc (by decide +kernel)
    refine p_aload_n 35 dX7_learn_34 rfl rfl (by decide) ?_
    refine p_aload_n 36 dX7_learn_35 rfl rfl (by omega) ?_
    refine p_iload_n 37 dX7_learn_36 rfl rfl ?_
    refine p_callV2v 115 40 dX7_learn_37 (s_weigh hc hW8 (hC9.congr (fun a g1 g2 => by rw [zset_ne _ (by omega), zset_ne _ (by omega), zset_ne _ (by omega)])) hR (S := i) (by omega) (by omega) (fun S hS => by
      obtain ⟨x1, x2, x3, x4, x5⟩ := hk S hS
      refine ⟨?_, ?_, ?_, ?_, ?_⟩
      · rw [zset_ne _ (by decide), zset_ne _ (by decide), zset_k (by omega)]; exact x1
      · rw [zset_ne _ (by decide), zset_k (by omega), zset_ne _ (by decide)]; exact x2
      · rw [zset_k (by omega), zset_ne _ (by decide), zset_ne _ (by decide)]; exact x3
      · rw [zset_ne _ (by decide), zset_ne _ (by decide), zset_ne _ (by decide)]; exact x4
      · rw [zset_ne _ (by decide), zset_ne _ (by decide), zset_ne _ (by decide)]; exact x5) (by rw [zset_ne _ (by decide), zset_ne _ (by decide), zset_at]) (hX i (by omega) (by omega))) lk_X7_45 mX7_weigh rfl rfl (by decide) (Nat.le_of_ble_eq_true rfl) ?_
    rintro _ rfl
    refine p_iinc 43 dX7_learn_40 rfl rfl rfl ?_
    dsimp only [List.set]
    refine p_goto 17 dX7_learn_43 ?_
    exact ih (i + 1) (by omega) (by omega) (zlrn_k hk) (fun a ha => (zlrn_ne ha).trans (hM a ha))
theorem s_learnS {l : Launch} {X : ZX} {M : ZM} {c : Nat} (hc : isC c) {ρ : Nat → Int} {h : Int} (hW : zWc M) (hC : ICc ρ h c M) (hR : wfR ρ) (hX : ∀ S, S ≠ 0 → S < 2 ^ q_n ρ 4 → ∃ w, w < q_n ρ 4 ∧ q_can (q_n ρ) S w = true) (hz : M 116 0 = 0 ∧ M 117 0 = 0 ∧ M 118 0 = 0 ∧ M 119 0 = 0) (hs : M 115 0 = 0 ∨ M 115 0 = 1 ∧ ICs ρ M) : zCv l X 3 yX7_learn tX7_learn [zr 115, zr ((c + 11 : Nat) : Int)] M (fun M' => (∀ a, a < 115 ∨ 120 < a → M' a = M a) ∧ (∀ k, k ≠ 0 → M' 115 k = M 115 k) ∧ M' 115 0 = 1 ∧ ICs ρ M') := by
  have e4 : ρ 4 = (q_n ρ 4 : Int) := hR.n (by decide)
  have b4 := hR.2.1.2.2.2.2.1
  have hcl := hc.lt
  have hp0 : 0 < 2 ^ q_n ρ 4 := Nat.two_pow_pos _
  refine zC.of [some (zr 115), some (zr ((c + 11 : Nat) : Int)), none] (by decide +kernel) rfl rfl (Nat.le_of_ble_eq_true rfl) rfl ?_
  refine p_aload_n 1 dX7_learn_0 rfl rfl (by decide) ?_
  refine p_getI 115 4 dX7_learn_1 fX7_27 rfl ?_
  refine p_if_eq 8 7 dX7_learn_4 (by omega) (by omega) (fun h4 => ?_) (fun h4 => ?_)
  · refine p_aload_n 9 dX7_learn_8 rfl rfl (by decide) ?_
    refine p_getR 115 12 dX7_learn_9 fX7_24 rfl (hW (115, 5, 120) (by decide)) ?_
    refine p_iconst 13 dX7_learn_12 ?_
    refine p_iconst 14 dX7_learn_13 ?_
    refine p_iastn 120 15 (0) dX7_learn_14 rfl (by omega) (by omega) ?_
    refine p_iconst 16 dX7_learn_15 ?_
    refine p_istore_n 17 dX7_learn_16 rfl (Nat.le_of_ble_eq_true rfl) rfl rfl ?_
    dsimp only [List.set]
    have hW9 : zWc (zset M 120 0 1) := hW.setc (by decide +kernel)
    refine (l_learn (M := M) (N := zset M 120 0 1) hc hW9 (hC.congr (fun a g1 g2 => zset_ne _ (by omega))) hR hX (2 ^ q_n ρ 4 - 1) 1 (by omega) (Nat.le_refl 1) (ICk_start (M := zset M 120 0 1) hz.1 hz.2.1 hz.2.2.1 hz.2.2.2 rfl) (fun a _ => rfl)).mono (fun r M9 h9 => ?_)
    obtain ⟨h0, g1, g2, g3, g4⟩ := h9
    refine ⟨h0, fun a ha => (g1 a ha).trans (zset_ne _ (by omega)), g2, g3, g4⟩
  · have hs1 : M 115 0 = 1 ∧ ICs ρ M := hs.resolve_left h4
    refine p_vret dX7_learn_7 rfl ?_
    exact ⟨rfl, fun a _ => rfl, fun k _ => rfl, hs1.1, hs1.2⟩
theorem s_oddsOfS {l : Launch} {X : ZX} {M : ZM} {ρ : Nat → Int} (hW : zWc M) (hR : wfR ρ) (hs : ICs ρ M) {S : Nat} (hS : S < 2 ^ q_n ρ 4) : zCi l X 0 yX7_oddsOf tX7_oddsOf [zr 115, zi (S : Int)] M (fun a M' => a = (q_odds (q_n ρ) S : Int) ∧ M' = M) := by
  have e4 : ρ 4 = (q_n ρ 4 : Int) := hR.n (by decide)
  have b4 := hR.2.1.2.2.2.2.1
  have hp7 := p7 (n := q_n ρ 4) (by omega)
  refine zC.of [some (zr 115), some (zi (S : Int))] (by decide +kernel) rfl rfl (Nat.le_of_ble_eq_true rfl) rfl ?_
  refine p_aload_n 1 dX7_oddsOf_0 rfl rfl (by decide) ?_
  refine p_getR 115 4 dX7_oddsOf_1 fX7_11 rfl (hW (115, 1, 116) (by decide)) ?_
  refine p_iload_n 5 dX7_oddsOf_4 rfl rfl ?_
  refine p_ialdn 116 6 (S) dX7_oddsOf_5 rfl (by omega) (by omega) ?_
  refine p_iret dX7_oddsOf_6 rfl ?_
  exact ⟨_, rfl, (hs S hS).1, rfl⟩
theorem s_leastCostS {l : Launch} {X : ZX} {M : ZM} {ρ : Nat → Int} (hW : zWc M) (hR : wfR ρ) (hs : ICs ρ M) {S : Nat} (hS : S < 2 ^ q_n ρ 4) : zCi l X 0 yX7_leastCost tX7_leastCost [zr 115, zi (S : Int)] M (fun a M' => a = (q_cost (q_n ρ) 7 S : Int) ∧ M' = M) := by
  have e4 : ρ 4 = (q_n ρ 4 : Int) := hR.n (by decide)
  have b4 := hR.2.1.2.2.2.2.1
  have hp7 := p7 (n := q_n ρ 4) (by omega)
  refine zC.of [some (zr 115), some (zi (S : Int))] (by decide +kernel) rfl rfl (Nat.le_of_ble_eq_true rfl) rfl ?_
  refine p_aload_n 1 dX7_leastCost_0 rfl rfl (by decide) ?_
  refine p_getR 115 4 dX7_leastCost_1 fX7_21 rfl (hW (115, 4, 119) (by decide)) ?_
  refine p_iload_n 5 dX7_leastCost_4 rfl rfl ?_
  refine p_ialdn 119 6 (S) dX7_leastCost_5 rfl (by omega) (by omega) ?_
  refine p_iret dX7_leastCost_6 rfl ?_
  exact ⟨_, rfl, (hs S hS).2.2.2.1, rfl⟩
theorem s_rowsOfS {l : Launch} {X : ZX} {M : ZM} {ρ : Nat → Int} (hW : zWc M) (hR : wfR ρ) (hs : ICs ρ M) {S : Nat} (hS : S < 2 ^ q_n ρ 4) : zCi l X 0 yX7_rowsOf tX7_rowsOf [zr 115, zi (S : Int)] M (fun a M' => a = (q_rows (q_n ρ) 7 S : Int) ∧ M' = M) := by
  have e4 : ρ 4 = (q_n ρ 4 : Int) := hR.n (by decide)
  have b4 := hR.2.1.2.2.2.2.1
  have hp7 := p7 (n := q_n ρ 4) (by omega)
  refine zC.of [some (zr 115), some (zi (S : Int))] (by decide +kernel) rfl rfl (Nat.le_of_ble_eq_true rfl) rfl ?_
  refine p_aload_n 1 dX7_rowsOf_0 rfl rfl (by decide) ?_
  refine p_getR 115 4 dX7_rowsOf_1 fX7_24 rfl (hW (115, 5, 120) (by decide)) ?_
  refine p_iload_n 5 dX7_rowsOf_4 rfl rfl ?_
  refine p_ialdn 120 6 (S) dX7_rowsOf_5 rfl (by omega) (by omega) ?_
  refine p_iret dX7_rowsOf_6 rfl ?_
  exact ⟨_, rfl, (hs S hS).2.2.2.2, rfl⟩
/-- none is -1 -/
theorem q_mn_some {o : Option Nat} {w : Nat} (h : o = some w) : q_mn o = (w : Int) := by rw [h]; rfl
theorem q_first_some {p : Nat → Bool} {n w : Nat} (h : q_first p n = some w) : w < n ∧ p w = true ∧ ∀ v, v < w → p v = false := by
  induction n with
  | zero => cases h
  | succ n ih =>
    have h' : (match q_first p n with
      | some i => some i
      | none => if p n then some n else none) = some w := h
    cases hq : q_first p n with
    | some i =>
      rw [hq] at h'
      have e : i = w := Option.some.inj h'
      subst e
      obtain ⟨a, b, c⟩ := ih hq
      exact ⟨by omega, b, c⟩
    | none =>
      rw [hq] at h'
      by_cases hp : p n = true
      · have h2 : (if p n then some n else none) = some w := h'
        rw [if_pos hp] at h2
        have e : n = w := Option.some.inj h2
        subst e
        refine ⟨by omega, hp, fun v hv => ?_⟩
        have hall : ∀ m, q_first p m = none → ∀ v, v < m → p v = false := by
          intro m
          induction m with
          | zero => intro _ v hv; omega
          | succ m ihm =>
            intro hm v hv
            have hm' : (match q_first p m with
              | some i => some i
              | none => if p m then some m else none) = none := hm
            cases hqm : q_first p m with
            | some i => rw [hqm] at hm'; cases hm'
            | none =>
              rw [hqm] at hm'
              have h3 : (if p m then some m else none) = none := hm'
              by_cases hpm : p m = true
              · rw [if_pos hpm] at h3; cases h3
              · by_cases ev : v = m
                · subst ev
                  exact Bool.not_eq_true _ ▸ hpm
                · exact ihm hqm v (by omega)
        exact hall n hq v hv
      · have h2 : (if p n then some n else none) = some w := h'
        rw [if_neg hp] at h2
        cases h2
theorem q_first_none {p : Nat → Bool} {m : Nat} (h : q_first p m = none) : ∀ v, v < m → p v = false := by
  induction m with
  | zero => intro v hv; omega
  | succ m ihm =>
    intro v hv
    have hm' : (match q_first p m with
      | some i => some i
      | none => if p m then some m else none) = none := h
    cases hqm : q_first p m with
    | some i => rw [hqm] at hm'; cases hm'
    | none =>
      rw [hqm] at hm'
      have h3 : (if p m then some m else none) = none := hm'
      by_cases hpm : p m = true
      · rw [if_pos hpm] at h3; cases h3
      · by_cases ev : v = m
        · subst ev
          exact Bool.not_eq_true _ ▸ hpm
        · exact ihm hqm v (by omega)
theorem q_first_is {p : Nat → Bool} {n w : Nat} (hw : w < n) (hp : p w = true) (hv : ∀ v, v < w → p v = false) : q_first p n = some w := by
  cases hq : q_first p n with
  | none =>
    have := q_first_none hq w hw
    rw [hp] at this
    cases this
  | some i =>
    obtain ⟨a, b, c⟩ := q_first_some hq
    congr 1
    by_cases e1 : i < w
    · rw [hv i e1] at b; cases b
    · by_cases e2 : w < i
      · rw [c w e2] at hp; cases hp
      · omega
def q_fw (ρ : Nat → Int) (S : Nat) : Nat → Bool := fun w => q_can (q_n ρ) S w && decide (q_cf (q_n ρ) S w = q_cost (q_n ρ) 7 S)
theorem q_firstW_eq (ρ : Nat → Int) (S : Nat) : q_firstW (q_n ρ) S = q_first (q_fw ρ S) (q_n ρ 4) := rfl
/-- a set that isn't empty has a first word -/
theorem q_firstW_some {ρ : Nat → Int} {S : Nat} (hS : S < 128) (h0 : S ≠ 0) (hex : ∃ w, w < q_n ρ 4 ∧ q_can (q_n ρ) S w = true) : ∃ w, q_firstW (q_n ρ) S = some w ∧ w < q_n ρ 4 ∧ q_can (q_n ρ) S w = true ∧ q_cf (q_n ρ) S w = q_cost (q_n ρ) 7 S := by
  obtain ⟨b, hb⟩ := q_min_some (g := q_cf (q_n ρ) S) hex
  have hc : q_cost (q_n ρ) 7 S = b := by rw [q_cost_rec hS h0, hb]; rfl
  obtain ⟨⟨w, hw, hp, hg⟩, -⟩ := q_min_at hb
  cases hq : q_firstW (q_n ρ) S with
  | none =>
    have h1 := q_first_none hq w hw
    have h2 : (q_can (q_n ρ) S w && decide (q_cf (q_n ρ) S w = q_cost (q_n ρ) 7 S)) = false := h1
    rw [hp, hc, hg] at h2
    simp at h2
  | some v =>
    obtain ⟨a, b, -⟩ := q_first_some hq
    have b' : (q_can (q_n ρ) S v && decide (q_cf (q_n ρ) S v = q_cost (q_n ρ) 7 S)) = true := b
    rw [Bool.and_eq_true, decide_eq_true_eq] at b'
    exact ⟨v, rfl, a, b'.1, b'.2⟩
/-- what is left of a set when so many of its best row are said; the one said next -/
def q_rem (r : Nat → Nat) (S : Nat) : Nat → Nat
  | 0 => S
  | i + 1 => q_del (q_rem r S i) ((q_firstW r (q_rem r S i)).getD 7)
def q_seq (r : Nat → Nat) (S i : Nat) : Nat := (q_firstW r (q_rem r S i)).getD 7
theorem q_rem_ok {ρ : Nat → Int} (h4 : q_n ρ 4 ≤ 7) (hX : ∀ S, S ≠ 0 → S < 2 ^ q_n ρ 4 → ∃ w, w < q_n ρ 4 ∧ q_can (q_n ρ) S w = true) {S : Nat} (hS : S < 2 ^ q_n ρ 4) : ∀ i, i ≤ q_c7 S → q_rem (q_n ρ) S i < 2 ^ q_n ρ 4 ∧ q_c7 (q_rem (q_n ρ) S i) + i = q_c7 S := by
  have hp7 := p7 h4
  intro i
  induction i with
  | zero => intro _; exact ⟨hS, rfl⟩
  | succ i ih =>
    intro hi
    obtain ⟨h1, h2⟩ := ih (by omega)
    have hne : q_rem (q_n ρ) S i ≠ 0 := fun e => by
      rw [e] at h2
      have : q_c7 0 = 0 := by decide
      omega
    obtain ⟨w, hw, hwl, hcan, -⟩ := q_firstW_some (by omega) hne (hX _ hne h1)
    have hb := q_can_bit hcan
    have hd := q_c7_del (by omega) hb
    show q_del (q_rem (q_n ρ) S i) ((q_firstW (q_n ρ) (q_rem (q_n ρ) S i)).getD 7) < _ ∧ q_c7 (q_del (q_rem (q_n ρ) S i) ((q_firstW (q_n ρ) (q_rem (q_n ρ) S i)).getD 7)) + (i + 1) = _
    rw [hw]
    show q_del (q_rem (q_n ρ) S i) w < _ ∧ q_c7 (q_del (q_rem (q_n ρ) S i) w) + (i + 1) = _
    exact ⟨Nat.lt_of_le_of_lt (q_del_le _ _) h1, by omega⟩
theorem l_firstOfBest {l : Launch} {X : ZX} {M : ZM} {c : Nat} (hc : isC c) {ρ : Nat → Int} {h : Int} (hW : zWc M) (hC : ICc ρ h c M) (hR : wfR ρ) (hs : ICs ρ M) {S : Nat} (hS : S < 2 ^ q_n ρ 4) : ∀ (j i : Nat), i + j = q_n ρ 4 → (∀ v, v < i → q_fw ρ S v = false) → zP l X 2 tX7_firstOfBest 2 [some (zr 115), some (zr ((c + 11 : Nat) : Int)), some (zi (S : Int)), some (zi (i : Int))] [] M (fun r M' => ∃ a, r = some (zi a) ∧ (a = q_mn (q_firstW (q_n ρ) S) ∧ M' = M)) := by
  have e4 : ρ 4 = (q_n ρ 4 : Int) := hR.n (by decide)
  have b4 := hR.2.1.2.2.2.2.1
  have hcl := hc.lt
  have hp7 := p7 (n := q_n ρ 4) (by omega)
  have hk1 := q_cost_le hR 7 S
  intro j
  induction j with
  | zero =>
    intro i hi hv
    refine p_iload_n 3 dX7_firstOfBest_2 rfl rfl ?_
    refine p_aload_n 4 dX7_firstOfBest_3 rfl rfl (by omega) ?_
    refine p_getI (c + 11) 7 dX7_firstOfBest_4 fX7_31 hc.tt.1 ?_
    rw [hC.1.2.2.2.2.2.1]
    refine p_icmp_ge 43 10 dX7_firstOfBest_7 (by omega) (by omega) (by omega) (by omega) (fun h7 => ?_) (fun h7 => absurd (by omega) (fun h9 : False => h9))
    refine p_iconst 44 dX7_firstOfBest_43 ?_
    refine p_iret dX7_firstOfBest_44 rfl ?_
    refine ⟨_, rfl, ?_, rfl⟩
    cases hq : q_firstW (q_n ρ) S with
    | none => rfl
    | some w =>
      obtain ⟨a, b, -⟩ := q_first_some hq
      have := hv w (by omega)
      have b2 : q_fw ρ S w = true := b
      rw [b2] at this
      cases this
  | succ j ih =>
    intro i hi hv
    have hcf := q_cf_le hR S (w := i) (by omega)
    refine p_iload_n 3 dX7_firstOfBest_2 rfl rfl ?_
    refine p_aload_n 4 dX7_firstOfBest_3 rfl rfl (by omega) ?_
    refine p_getI (c + 11) 7 dX7_firstOfBest_4 fX7_31 hc.tt.1 ?_
    rw [hC.1.2.2.2.2.2.1]
    refine p_icmp_ge 43 10 dX7_firstOfBest_7 (by omega) (by omega) (by omega) (by omega) (fun h7 => absurd (by omega) (fun h9 : False => h9)) (fun h7 => ?_)
    refine p_aload_n 11 dX7_firstOfBest_10 rfl rfl (by omega) ?_
    refine p_iload_n 12 dX7_firstOfBest_11 rfl rfl ?_
    refine p_iload_n 13 dX7_firstOfBest_12 rfl rfl ?_
    refine p_callS3i 16 dX7_firstOfBest_13 (s_canBegin hc hW hC hR (w := i) (by omega) (by omega)) lk_X7_61 mX7_canBegin (by decide) (Nat.le_of_ble_eq_true rfl) ?_
    rintro _ _ ⟨rfl, e9⟩
    have e9 := e9.symm
    subst e9
    refine p_if_eq 37 19 dX7_firstOfBest_16 (by split <;> omega) (by split <;> omega) (fun h16 => ?_) (fun h16 => ?_)
    · have hqn : q_fw ρ S i = false := by
        unfold q_fw
        rw [Bool.eq_false_iff.mpr (if_eq0 h16)]
        rfl
      refine p_iinc 40 dX7_firstOfBest_37 rfl rfl rfl ?_
      dsimp only [List.set]
      refine p_goto 2 dX7_firstOfBest_40 ?_
      refine ih (i + 1) (by omega) (fun v hv2 => ?_)
      by_cases e : v = i
      · subst e; exact hqn
      · exact hv v (by omega)
    · have hqp := if_neq0 h16
      refine p_aload_n 20 dX7_firstOfBest_19 rfl rfl (by decide) ?_
      refine p_aload_n 21 dX7_firstOfBest_20 rfl rfl (by omega) ?_
      refine p_iload_n 22 dX7_firstOfBest_21 rfl rfl ?_
      refine p_iload_n 23 dX7_firstOfBest_22 rfl rfl ?_
      refine p_callV3i 115 26 dX7_firstOfBest_23 (s_costFirst hc hW hC hR (w := i) (by omega) (by omega) (hs S hS).1 (hs _ (Nat.lt_of_le_of_lt (q_del_le S i) hS)).2.2.2.1) lk_X7_65 mX7_costFirst rfl rfl (by decide) (Nat.le_of_ble_eq_true rfl) ?_
      rintro _ _ ⟨rfl, e9⟩
      have e9 := e9.symm
      subst e9
      refine p_aload_n 27 dX7_firstOfBest_26 rfl rfl (by decide) ?_
      refine p_getR 115 30 dX7_firstOfBest_27 fX7_21 rfl (hW (115, 4, 119) (by decide)) ?_
      refine p_iload_n 31 dX7_firstOfBest_30 rfl rfl ?_
      refine p_ialdn 119 32 (S) dX7_firstOfBest_31 rfl (by omega) (by omega) ?_
      rw [(hs S hS).2.2.2.1]
      refine p_icmp_ne 37 35 dX7_firstOfBest_32 (by omega) (by omega) (by omega) (by omega) (fun h32 => ?_) (fun h32 => ?_)
      · have hqn : q_fw ρ S i = false := by
          unfold q_fw
          rw [hqp, decide_eq_false (by omega)]
          rfl
        refine p_iinc 40 dX7_firstOfBest_37 rfl rfl rfl ?_
        dsimp only [List.set]
        refine p_goto 2 dX7_firstOfBest_40 ?_
        refine ih (i + 1) (by omega) (fun v hv2 => ?_)
        by_cases e : v = i
        · subst e; exact hqn
        · exact hv v (by omega)
      · have hqy : q_fw ρ S i = true := by
          unfold q_fw
          rw [hqp, decide_eq_true (by omega)]
          rfl
        refine p_iload_n 36 dX7_firstOfBest_35 rfl rfl ?_
        refine p_iret dX7_firstOfBest_36 rfl ?_
        refine ⟨_, rfl, ?_, rfl⟩
        rw [q_firstW_eq, q_first_is (by omega) hqy hv]
        rfl
theorem s_firstOfBest {l : Launch} {X : ZX} {M : ZM} {c : Nat} (hc : isC c) {ρ : Nat → Int} {h : Int} (hW : zWc M) (hC : ICc ρ h c M) (hR : wfR ρ) (hs : ICs ρ M) {S : Nat} (hS : S < 2 ^ q_n ρ 4) : zCi l X 2 yX7_firstOfBest tX7_firstOfBest [zr 115, zr ((c + 11 : Nat) : Int), zi (S : Int)] M (fun a M' => a = q_mn (q_firstW (q_n ρ) S) ∧ M' = M) := by
  refine zC.of [some (zr 115), some (zr ((c + 11 : Nat) : Int)), some (zi (S : Int)), none] (by decide +kernel) rfl rfl (Nat.le_of_ble_eq_true rfl) rfl ?_
  refine p_iconst 1 dX7_firstOfBest_0 ?_
  refine p_istore_n 2 dX7_firstOfBest_1 rfl (Nat.le_of_ble_eq_true rfl) rfl rfl ?_
  dsimp only [List.set]
  exact l_firstOfBest hc hW hC hR hs hS (q_n ρ 4) 0 (Nat.zero_add _) (fun v hv => absurd hv (by omega))
theorem l_rowAt {l : Launch} {X : ZX} {M : ZM} {c : Nat} (hc : isC c) {ρ : Nat → Int} {h : Int} (hW : zWc M) (hC : ICc ρ h c M) (hR : wfR ρ) (hs : ICs ρ M) (hX : ∀ S, S ≠ 0 → S < 2 ^ q_n ρ 4 → ∃ w, w < q_n ρ 4 ∧ q_can (q_n ρ) S w = true) {S m : Nat} (hS : S < 2 ^ q_n ρ 4) (hm : m < q_c7 S) : ∀ (j i : Nat), i + j = m + 1 → ∀ f : Int, (0 < i → f = (q_seq (q_n ρ) S (i - 1) : Int)) → zP l X 3 tX7_rowAt 9 [some (zr 115), some (zr ((c + 11 : Nat) : Int)), some (zi (S : Int)), some (zi (m : Int)), some (zi (q_rem (q_n ρ) S i : Int)), some (zi f), some (zi (i : Int))] [] M (fun r M' => ∃ a, r = some (zi a) ∧ (a = (q_seq (q_n ρ) S m : Int) ∧ M' = M)) := by
  have e4 : ρ 4 = (q_n ρ 4 : Int) := hR.n (by decide)
  have b4 := hR.2.1.2.2.2.2.1
  have hcl := hc.lt
  have hp7 := p7 (n := q_n ρ 4) (by omega)
  have hc7 := q_c7_le S
  intro j
  induction j with
  | zero =>
    intro i hi f hf
    refine p_iload 11 dX7_rowAt_9 rfl ?_
    refine p_iload_n 12 dX7_rowAt_11 rfl rfl ?_
    refine p_icmp_gt 50 15 dX7_rowAt_12 (by omega) (by omega) (by omega) (by omega) (fun h12 => ?_) (fun h12 => absurd (by omega) (fun h9 : False => h9))
    refine p_iload 52 dX7_rowAt_50 rfl ?_
    refine p_iret dX7_rowAt_52 rfl ?_
    refine ⟨_, rfl, ?_, rfl⟩
    rw [hf (by omega), show i - 1 = m by omega]
  | succ j ih =>
    intro i hi f hf
    obtain ⟨hr1, hr2⟩ := q_rem_ok (by omega) hX hS i (by omega)
    have hne : q_rem (q_n ρ) S i ≠ 0 := fun e => by
      rw [e] at hr2
      have : q_c7 0 = 0 := by decide
      omega
    obtain ⟨w, hw, hwl, hcan, -⟩ := q_firstW_some (by omega) hne (hX _ hne hr1)
    have h2w : 2 ^ w < 128 := p7w (by omega)
    refine p_iload 11 dX7_rowAt_9 rfl ?_
    refine p_iload_n 12 dX7_rowAt_11 rfl rfl ?_
    refine p_icmp_gt 50 15 dX7_rowAt_12 (by omega) (by omega) (by omega) (by omega) (fun h12 => absurd (by omega) (fun h9 : False => h9)) (fun h12 => ?_)
    refine p_aload_n 16 dX7_rowAt_15 rfl rfl (by decide) ?_
    refine p_aload_n 17 dX7_rowAt_16 rfl rfl (by omega) ?_
    refine p_iload 19 dX7_rowAt_17 rfl ?_
    refine p_callV2i 115 22 dX7_rowAt_19 (s_firstOfBest hc hW hC hR hs (S := q_rem (q_n ρ) S i) hr1) lk_X7_69 mX7_firstOfBest rfl rfl (by decide) (Nat.le_of_ble_eq_true rfl) ?_
    rintro _ _ ⟨rfl, e9⟩
    have e9 := e9.symm
    subst e9
    rw [q_mn_some hw]
    refine p_istore 24 dX7_rowAt_22 (Nat.le_of_ble_eq_true rfl) rfl rfl ?_
    dsimp only [List.set]
    refine p_iload 26 dX7_rowAt_24 rfl ?_
    refine p_iconst 27 dX7_rowAt_26 ?_
    refine p_icmp_ne 32 30 dX7_rowAt_27 (by omega) (by omega) (by omega) (by omega) (fun h27 => ?_) (fun h27 => absurd (by omega) (fun h9 : False => h9))
    refine p_iload 34 dX7_rowAt_32 rfl ?_
    refine p_iload 36 dX7_rowAt_34 rfl ?_
    refine p_callN1i 39 dX7_rowAt_36 (s_bit (i := w) (by omega)) ln_X7_53 mX11_bit (by decide) (Nat.le_of_ble_eq_true rfl) ?_
    rintro _ _ ⟨rfl, e9⟩
    have e9 := e9.symm
    subst e9
    refine p_iconst 40 dX7_rowAt_39 ?_
    refine p_ixor 41 dX7_rowAt_40 ?_
    refine p_iand 42 dX7_rowAt_41 ?_
    rw [z_andn_n (q_rem (q_n ρ) S i) (2 ^ w) (by omega) (by omega)]
    refine p_istore 44 dX7_rowAt_42 (Nat.le_of_ble_eq_true rfl) rfl rfl ?_
    dsimp only [List.set]
    refine p_iinc 47 dX7_rowAt_44 rfl rfl rfl ?_
    dsimp only [List.set]
    refine p_goto 9 dX7_rowAt_47 ?_
    have e := ih (i + 1) (by omega) (w : Int) (fun _ => by show (w : Int) = ((((q_firstW (q_n ρ) (q_rem (q_n ρ) S i)).getD 7 : Nat)) : Int); rw [hw]; rfl)
    have er : q_rem (q_n ρ) S (i + 1) = q_del (q_rem (q_n ρ) S i) w := by
      show q_del (q_rem (q_n ρ) S i) ((q_firstW (q_n ρ) (q_rem (q_n ρ) S i)).getD 7) = _
      rw [hw]
      rfl
    rw [er] at e
    exact e
theorem s_rowAt {l : Launch} {X : ZX} {M : ZM} {c : Nat} (hc : isC c) {ρ : Nat → Int} {h : Int} (hW : zWc M) (hC : ICc ρ h c M) (hR : wfR ρ) (hs : ICs ρ M) (hX : ∀ S, S ≠ 0 → S < 2 ^ q_n ρ 4 → ∃ w, w < q_n ρ 4 ∧ q_can (q_n ρ) S w = true) {S m : Nat} (hS : S < 2 ^ q_n ρ 4) (hm : m < q_c7 S) : zCi l X 3 yX7_rowAt tX7_rowAt [zr 115, zr ((c + 11 : Nat) : Int), zi (S : Int), zi (m : Int)] M (fun a M' => a = (q_seq (q_n ρ) S m : Int) ∧ M' = M) := by
  refine zC.of [some (zr 115), some (zr ((c + 11 : Nat) : Int)), some (zi (S : Int)), some (zi (m : Int)), none, none, none] (by decide +kernel) rfl rfl (Nat.le_of_ble_eq_true rfl) rfl ?_
  refine p_iload_n 1 dX7_rowAt_0 rfl rfl ?_
  refine p_istore 3 dX7_rowAt_1 (Nat.le_of_ble_eq_true rfl) rfl rfl ?_
  dsimp only [List.set]
  refine p_iconst 4 dX7_rowAt_3 ?_
  refine p_istore 6 dX7_rowAt_4 (Nat.le_of_ble_eq_true rfl) rfl rfl ?_
  dsimp only [List.set]
  refine p_iconst 7 dX7_rowAt_6 ?_
  refine p_istore 9 dX7_rowAt_7 (Nat.le_of_ble_eq_true rfl) rfl rfl ?_
  dsimp only [List.set]
  exact l_rowAt hc hW hC hR hs hX hS hm (m + 1) 0 (Nat.zero_add _) (-1) (fun h => absurd h (by omega))
/-- the likeliest of the first k sets that can be said in so many minutes -/
def q_lkok (ρ : Nat → Int) (U : Nat) (m : Int) (S : Nat) : Bool := decide (S &&& (2147483647 ^^^ U) = 0) && decide ((q_needs (q_n ρ) S (q_n ρ 4) &&& U) &&& (2147483647 ^^^ S) = 0) && decide ((q_mins (q_n ρ) S : Int) ≤ m)
def q_lk (ρ : Nat → Int) (U : Nat) (m : Int) : Nat → Nat
  | 0 => 0
  | k + 1 => if q_lkok ρ U m k = true ∧ q_odds (q_n ρ) (q_lk ρ U m k) < q_odds (q_n ρ) k then k else q_lk ρ U m k
theorem q_lk_le (ρ : Nat → Int) (U : Nat) (m : Int) : ∀ k, q_lk ρ U m k ≤ k - 1 := by
  intro k
  induction k with
  | zero => exact Nat.le_refl 0
  | succ k ih =>
    show (if _ then _ else _) ≤ _
    split <;> omega
theorem q_lk_one (ρ : Nat → Int) (U : Nat) (m : Int) : q_lk ρ U m 1 = 0 := by
  have := q_lk_le ρ U m 1
  omega
theorem l_likeliestIn {l : Launch} {X : ZX} {M : ZM} {ρ : Nat → Int} (hW : zWc M) (hR : wfR ρ) (hs : ICs ρ M) {U : Nat} {m : Int} (hU : U < 2 ^ q_n ρ 4) (hm1 : -2147483648 ≤ m) (hm2 : m < 2147483648) : ∀ (j i : Nat), i + j = U + 1 → ∀ o9 : Option ZV, zP l X 0 tX7_likeliestIn 5 [some (zr 115), some (zi (U : Int)), some (zi m), some (zi (q_lk ρ U m i : Int)), some (zi (i : Int)), o9] [] M (fun r M' => ∃ a, r = some (zi a) ∧ (a = (q_lk ρ U m (U + 1) : Int) ∧ M' = M)) := by
  have e4 : ρ 4 = (q_n ρ 4 : Int) := hR.n (by decide)
  have b4 := hR.2.1.2.2.2.2.1
  have hp7 := p7 (n := q_n ρ 4) (by omega)
  intro j
  induction j with
  | zero =>
    intro i hi o9
    refine p_iload 7 dX7_likeliestIn_5 rfl ?_
    refine p_iload_n 8 dX7_likeliestIn_7 rfl rfl ?_
    refine p_icmp_gt 85 11 dX7_likeliestIn_8 (by omega) (by omega) (by omega) (by omega) (fun h8 => ?_) (fun h8 => absurd (by omega) (fun h9 : False => h9))
    refine p_iload_n 86 dX7_likeliestIn_85 rfl rfl ?_
    refine p_iret dX7_likeliestIn_86 rfl ?_
    rw [Nat.add_zero] at hi
    exact ⟨_, rfl, by rw [hi], rfl⟩
  | succ j ih =>
    intro i hi o9
    have hi2 : i < 2 ^ q_n ρ 4 := by omega
    have hl := q_lk_le ρ U m i
    have hl2 : q_lk ρ U m i < 2 ^ q_n ρ 4 := by omega
    have ha1 : i &&& (2147483647 ^^^ U) ≤ i := Nat.and_le_left
    have hnl := q_needs_lt hR i (q_n ρ 4) (by omega)
    have ha2 : q_needs (q_n ρ) i (q_n ρ 4) &&& U ≤ q_needs (q_n ρ) i (q_n ρ 4) := Nat.and_le_left
    have ha3 : (q_needs (q_n ρ) i (q_n ρ 4) &&& U) &&& (2147483647 ^^^ i) ≤ q_needs (q_n ρ) i (q_n ρ 4) &&& U := Nat.and_le_left
    have ho1 := q_odds_le hR i
    have ho2 := q_odds_le hR (q_lk ρ U m i)
    have hmm := q_mins_le hR i
    refine p_iload 7 dX7_likeliestIn_5 rfl ?_
    refine p_iload_n 8 dX7_likeliestIn_7 rfl rfl ?_
    refine p_icmp_gt 85 11 dX7_likeliestIn_8 (by omega) (by omega) (by omega) (by omega) (fun h8 => absurd (by omega) (fun h9 : False => h9)) (fun h8 => ?_)
    refine p_iload 13 dX7_likeliestIn_11 rfl ?_
    refine p_iload_n 14 dX7_likeliestIn_13 rfl rfl ?_
    refine p_iconst 15 dX7_likeliestIn_14 ?_
    refine p_ixor 16 dX7_likeliestIn_15 ?_
    refine p_iand 17 dX7_likeliestIn_16 ?_
    rw [z_andn_n i U (by omega) (by omega)]
    refine p_if_ne 41 20 dX7_likeliestIn_17 (by omega) (by omega) (fun h17 => ?_) (fun h17 => ?_)
    · refine p_iconst 42 dX7_likeliestIn_41 ?_
      refine p_istore 44 dX7_likeliestIn_42 (Nat.le_of_ble_eq_true rfl) rfl rfl ?_
      dsimp only [List.set]
      refine p_iload 46 dX7_likeliestIn_44 rfl ?_
      refine p_if_eq 79 49 dX7_likeliestIn_46 (by omega) (by omega) (fun h46 => ?_) (fun h46 => ?_)
      · refine p_iinc 82 dX7_likeliestIn_79 rfl rfl rfl ?_
        dsimp only [List.set]
        refine p_goto 5 dX7_likeliestIn_82 ?_
        have er : q_lk ρ U m (i + 1) = if q_lkok ρ U m i = true ∧ q_odds (q_n ρ) (q_lk ρ U m i) < q_odds (q_n ρ) i then i else q_lk ρ U m i := rfl
        have ek : q_lkok ρ U m i = true ↔ (i &&& (2147483647 ^^^ U) = 0 ∧ (q_needs (q_n ρ) i (q_n ρ 4) &&& U) &&& (2147483647 ^^^ i) = 0) ∧ (q_mins (q_n ρ) i : Int) ≤ m := by
          unfold q_lkok
          rw [Bool.and_eq_true, Bool.and_eq_true, decide_eq_true_eq, decide_eq_true_eq, decide_eq_true_eq]
        first
          | (have e := ih (i + 1) (by omega) (some (zi 1))
             rw [er, if_pos (by rw [ek]; omega)] at e
             exact e)
          | (have e := ih (i + 1) (by omega) (some (zi 1))
             rw [er, if_neg (by rw [ek]; omega)] at e
             exact e)
          | (have e := ih (i + 1) (by omega) (some (zi 0))
             rw [er, if_neg (by rw [ek]; omega)] at e
             exact e)
          | (exfalso; omega)
      · refine p_aload_n 50 dX7_likeliestIn_49 rfl rfl (by decide) ?_
        refine p_getR 115 53 dX7_likeliestIn_50 fX7_15 rfl (hW (115, 2, 117) (by decide)) ?_
        refine p_iload 55 dX7_likeliestIn_53 rfl ?_
        refine p_ialdn 117 56 (i) dX7_likeliestIn_55 rfl (by omega) (by omega) ?_
        rw [(hs i hi2).2.1]
        refine p_iload_n 57 dX7_likeliestIn_56 rfl rfl ?_
        refine p_icmp_gt 79 60 dX7_likeliestIn_57 (by omega) (by omega) (by omega) (by omega) (fun h57 => ?_) (fun h57 => ?_)
        · refine p_iinc 82 dX7_likeliestIn_79 rfl rfl rfl ?_
          dsimp only [List.set]
          refine p_goto 5 dX7_likeliestIn_82 ?_
          have er : q_lk ρ U m (i + 1) = if q_lkok ρ U m i = true ∧ q_odds (q_n ρ) (q_lk ρ U m i) < q_odds (q_n ρ) i then i else q_lk ρ U m i := rfl
          have ek : q_lkok ρ U m i = true ↔ (i &&& (2147483647 ^^^ U) = 0 ∧ (q_needs (q_n ρ) i (q_n ρ 4) &&& U) &&& (2147483647 ^^^ i) = 0) ∧ (q_mins (q_n ρ) i : Int) ≤ m := by
            unfold q_lkok
            rw [Bool.and_eq_true, Bool.and_eq_true, decide_eq_true_eq, decide_eq_true_eq, decide_eq_true_eq]
          first
            | (have e := ih (i + 1) (by omega) (some (zi 1))
               rw [er, if_pos (by rw [ek]; omega)] at e
               exact e)
            | (have e := ih (i + 1) (by omega) (some (zi 1))
               rw [er, if_neg (by rw [ek]; omega)] at e
               exact e)
            | (have e := ih (i + 1) (by omega) (some (zi 0))
               rw [er, if_neg (by rw [ek]; omega)] at e
               exact e)
            | (exfalso; omega)
        · refine p_aload_n 61 dX7_likeliestIn_60 rfl rfl (by decide) ?_
          refine p_getR 115 64 dX7_likeliestIn_61 fX7_11 rfl (hW (115, 1, 116) (by decide)) ?_
          refine p_iload 66 dX7_likeliestIn_64 rfl ?_
          refine p_ialdn 116 67 (i) dX7_likeliestIn_66 rfl (by omega) (by omega) ?_
          rw [(hs i hi2).1]
          refine p_aload_n 68 dX7_likeliestIn_67 rfl rfl (by decide) ?_
          refine p_getR 115 71 dX7_likeliestIn_68 fX7_11 rfl (hW (115, 1, 116) (by decide)) ?_
          refine p_iload_n 72 dX7_likeliestIn_71 rfl rfl ?_
          refine p_ialdn 116 73 (q_lk ρ U m i) dX7_likeliestIn_72 rfl (by omega) (by omega) ?_
          rw [(hs _ hl2).1]
          refine p_icmp_le 79 76 dX7_likeliestIn_73 (by omega) (by omega) (by omega) (by omega) (fun h73 => ?_) (fun h73 => ?_)
          · refine p_iinc 82 dX7_likeliestIn_79 rfl rfl rfl ?_
            dsimp only [List.set]
            refine p_goto 5 dX7_likeliestIn_82 ?_
            have er : q_lk ρ U m (i + 1) = if q_lkok ρ U m i = true ∧ q_odds (q_n ρ) (q_lk ρ U m i) < q_odds (q_n ρ) i then i else q_lk ρ U m i := rfl
            have ek : q_lkok ρ U m i = true ↔ (i &&& (2147483647 ^^^ U) = 0 ∧ (q_needs (q_n ρ) i (q_n ρ 4) &&& U) &&& (2147483647 ^^^ i) = 0) ∧ (q_mins (q_n ρ) i : Int) ≤ m := by
              unfold q_lkok
              rw [Bool.and_eq_true, Bool.and_eq_true, decide_eq_true_eq, decide_eq_true_eq, decide_eq_true_eq]
            first
              | (have e := ih (i + 1) (by omega) (some (zi 1))
                 rw [er, if_pos (by rw [ek]; omega)] at e
                 exact e)
              | (have e := ih (i + 1) (by omega) (some (zi 1))
                 rw [er, if_neg (by rw [ek]; omega)] at e
                 exact e)
              | (have e := ih (i + 1) (by omega) (some (zi 0))
                 rw [er, if_neg (by rw [ek]; omega)] at e
                 exact e)
              | (exfalso; omega)
          · refine p_iload 78 dX7_likeliestIn_76 rfl ?_
            refine p_istore_n 79 dX7_likeliestIn_78 rfl (Nat.le_of_ble_eq_true rfl) rfl rfl ?_
            dsimp only [List.set]
            refine p_iinc 82 dX7_likeliestIn_79 rfl rfl rfl ?_
            dsimp only [List.set]
            refine p_goto 5 dX7_likeliestIn_82 ?_
            have er : q_lk ρ U m (i + 1) = if q_lkok ρ U m i = true ∧ q_odds (q_n ρ) (q_lk ρ U m i) < q_odds (q_n ρ) i then i else q_lk ρ U m i := rfl
            have ek : q_lkok ρ U m i = true ↔ (i &&& (2147483647 ^^^ U) = 0 ∧ (q_needs (q_n ρ) i (q_n ρ 4) &&& U) &&& (2147483647 ^^^ i) = 0) ∧ (q_mins (q_n ρ) i : Int) ≤ m := by
              unfold q_lkok
              rw [Bool.and_eq_true, Bool.and_eq_true, decide_eq_true_eq, decide_eq_true_eq, decide_eq_true_eq]
            first
              | (have e := ih (i + 1) (by omega) (some (zi 1))
                 rw [er, if_pos (by rw [ek]; omega)] at e
                 exact e)
              | (have e := ih (i + 1) (by omega) (some (zi 1))
                 rw [er, if_neg (by rw [ek]; omega)] at e
                 exact e)
              | (have e := ih (i + 1) (by omega) (some (zi 0))
                 rw [er, if_neg (by rw [ek]; omega)] at e
                 exact e)
              | (exfalso; omega)
    · refine p_aload_n 21 dX7_likeliestIn_20 rfl rfl (by decide) ?_
      refine p_getR 115 24 dX7_likeliestIn_21 fX7_18 rfl (hW (115, 3, 118) (by decide)) ?_
      refine p_iload 26 dX7_likeliestIn_24 rfl ?_
      refine p_ialdn 118 27 (i) dX7_likeliestIn_26 rfl (by omega) (by omega) ?_
      rw [(hs i hi2).2.2.1]
      refine p_iload_n 28 dX7_likeliestIn_27 rfl rfl ?_
      refine p_iand 29 dX7_likeliestIn_28 ?_
      rw [z_iand_n _ U (by omega) (by omega)]
      refine p_iload 31 dX7_likeliestIn_29 rfl ?_
      refine p_iconst 32 dX7_likeliestIn_31 ?_
      refine p_ixor 33 dX7_likeliestIn_32 ?_
      refine p_iand 34 dX7_likeliestIn_33 ?_
      rw [z_andn_n (q_needs (q_n ρ) i (q_n ρ 4) &&& U) i (by omega) (by omega)]
      refine p_if_ne 41 37 dX7_likeliestIn_34 (by omega) (by omega) (fun h34 => ?_) (fun h34 => ?_)
      · refine p_iconst 42 dX7_likeliestIn_41 ?_
        refine p_istore 44 dX7_likeliestIn_42 (Nat.le_of_ble_eq_true rfl) rfl rfl ?_
        dsimp only [List.set]
        refine p_iload 46 dX7_likeliestIn_44 rfl ?_
        refine p_if_eq 79 49 dX7_likeliestIn_46 (by omega) (by omega) (fun h46 => ?_) (fun h46 => ?_)
        · refine p_iinc 82 dX7_likeliestIn_79 rfl rfl rfl ?_
          dsimp only [List.set]
          refine p_goto 5 dX7_likeliestIn_82 ?_
          have er : q_lk ρ U m (i + 1) = if q_lkok ρ U m i = true ∧ q_odds (q_n ρ) (q_lk ρ U m i) < q_odds (q_n ρ) i then i else q_lk ρ U m i := rfl
          have ek : q_lkok ρ U m i = true ↔ (i &&& (2147483647 ^^^ U) = 0 ∧ (q_needs (q_n ρ) i (q_n ρ 4) &&& U) &&& (2147483647 ^^^ i) = 0) ∧ (q_mins (q_n ρ) i : Int) ≤ m := by
            unfold q_lkok
            rw [Bool.and_eq_true, Bool.and_eq_true, decide_eq_true_eq, decide_eq_true_eq, decide_eq_true_eq]
          first
            | (have e := ih (i + 1) (by omega) (some (zi 1))
               rw [er, if_pos (by rw [ek]; omega)] at e
               exact e)
            | (have e := ih (i + 1) (by omega) (some (zi 1))
               rw [er, if_neg (by rw [ek]; omega)] at e
               exact e)
            | (have e := ih (i + 1) (by omega) (some (zi 0))
               rw [er, if_neg (by rw [ek]; omega)] at e
               exact e)
            | (exfalso; omega)
        · refine p_aload_n 50 dX7_likeliestIn_49 rfl rfl (by decide) ?_
          refine p_getR 115 53 dX7_likeliestIn_50 fX7_15 rfl (hW (115, 2, 117) (by decide)) ?_
          refine p_iload 55 dX7_likeliestIn_53 rfl ?_
          refine p_ialdn 117 56 (i) dX7_likeliestIn_55 rfl (by omega) (by omega) ?_
          rw [(hs i hi2).2.1]
          refine p_iload_n 57 dX7_likeliestIn_56 rfl rfl ?_
          refine p_icmp_gt 79 60 dX7_likeliestIn_57 (by omega) (by omega) (by omega) (by omega) (fun h57 => ?_) (fun h57 => ?_)
          · refine p_iinc 82 dX7_likeliestIn_79 rfl rfl rfl ?_
            dsimp only [List.set]
            refine p_goto 5 dX7_likeliestIn_82 ?_
            have er : q_lk ρ U m (i + 1) = if q_lkok ρ U m i = true ∧ q_odds (q_n ρ) (q_lk ρ U m i) < q_odds (q_n ρ) i then i else q_lk ρ U m i := rfl
            have ek : q_lkok ρ U m i = true ↔ (i &&& (2147483647 ^^^ U) = 0 ∧ (q_needs (q_n ρ) i (q_n ρ 4) &&& U) &&& (2147483647 ^^^ i) = 0) ∧ (q_mins (q_n ρ) i : Int) ≤ m := by
              unfold q_lkok
              rw [Bool.and_eq_true, Bool.and_eq_true, decide_eq_true_eq, decide_eq_true_eq, decide_eq_true_eq]
            first
              | (have e := ih (i + 1) (by omega) (some (zi 1))
                 rw [er, if_pos (by rw [ek]; omega)] at e
                 exact e)
              | (have e := ih (i + 1) (by omega) (some (zi 1))
                 rw [er, if_neg (by rw [ek]; omega)] at e
                 exact e)
              | (have e := ih (i + 1) (by omega) (some (zi 0))
                 rw [er, if_neg (by rw [ek]; omega)] at e
                 exact e)
              | (exfalso; omega)
          · refine p_aload_n 61 dX7_likeliestIn_60 rfl rfl (by decide) ?_
            refine p_getR 115 64 dX7_likeliestIn_61 fX7_11 rfl (hW (115, 1, 116) (by decide)) ?_
            refine p_iload 66 dX7_likeliestIn_64 rfl ?_
            refine p_ialdn 116 67 (i) dX7_likeliestIn_66 rfl (by omega) (by omega) ?_
            rw [(hs i hi2).1]
            refine p_aload_n 68 dX7_likeliestIn_67 rfl rfl (by decide) ?_
            refine p_getR 115 71 dX7_likeliestIn_68 fX7_11 rfl (hW (115, 1, 116) (by decide)) ?_
            refine p_iload_n 72 dX7_likeliestIn_71 rfl rfl ?_
            refine p_ialdn 116 73 (q_lk ρ U m i) dX7_likeliestIn_72 rfl (by omega) (by omega) ?_
            rw [(hs _ hl2).1]
            refine p_icmp_le 79 76 dX7_likeliestIn_73 (by omega) (by omega) (by omega) (by omega) (fun h73 => ?_) (fun h73 => ?_)
            · refine p_iinc 82 dX7_likeliestIn_79 rfl rfl rfl ?_
              dsimp only [List.set]
              refine p_goto 5 dX7_likeliestIn_82 ?_
              have er : q_lk ρ U m (i + 1) = if q_lkok ρ U m i = true ∧ q_odds (q_n ρ) (q_lk ρ U m i) < q_odds (q_n ρ) i then i else q_lk ρ U m i := rfl
              have ek : q_lkok ρ U m i = true ↔ (i &&& (2147483647 ^^^ U) = 0 ∧ (q_needs (q_n ρ) i (q_n ρ 4) &&& U) &&& (2147483647 ^^^ i) = 0) ∧ (q_mins (q_n ρ) i : Int) ≤ m := by
                unfold q_lkok
                rw [Bool.and_eq_true, Bool.and_eq_true, decide_eq_true_eq, decide_eq_true_eq, decide_eq_true_eq]
              first
                | (have e := ih (i + 1) (by omega) (some (zi 1))
                   rw [er, if_pos (by rw [ek]; omega)] at e
                   exact e)
                | (have e := ih (i + 1) (by omega) (some (zi 1))
                   rw [er, if_neg (by rw [ek]; omega)] at e
                   exact e)
                | (have e := ih (i + 1) (by omega) (some (zi 0))
                   rw [er, if_neg (by rw [ek]; omega)] at e
                   exact e)
                | (exfalso; omega)
            · refine p_iload 78 dX7_likeliestIn_76 rfl ?_
              refine p_istore_n 79 dX7_likeliestIn_78 rfl (Nat.le_of_ble_eq_true rfl) rfl rfl ?_
              dsimp only [List.set]
              refine p_iinc 82 dX7_likeliestIn_79 rfl rfl rfl ?_
              dsimp only [List.set]
              refine p_goto 5 dX7_likeliestIn_82 ?_
              have er : q_lk ρ U m (i + 1) = if q_lkok ρ U m i = true ∧ q_odds (q_n ρ) (q_lk ρ U m i) < q_odds (q_n ρ) i then i else q_lk ρ U m i := rfl
              have ek : q_lkok ρ U m i = true ↔ (i &&& (2147483647 ^^^ U) = 0 ∧ (q_needs (q_n ρ) i (q_n ρ 4) &&& U) &&& (2147483647 ^^^ i) = 0) ∧ (q_mins (q_n ρ) i : Int) ≤ m := by
                unfold q_lkok
                rw [Bool.and_eq_true, Bool.and_eq_true, decide_eq_true_eq, decide_eq_true_eq, decide_eq_true_eq]
              first
                | (have e := ih (i + 1) (by omega) (some (zi 1))
                   rw [er, if_pos (by rw [ek]; omega)] at e
                   exact e)
                | (have e := ih (i + 1) (by omega) (some (zi 1))
                   rw [er, if_neg (by rw [ek]; omega)] at e
                   exact e)
                | (have e := ih (i + 1) (by omega) (some (zi 0))
                   rw [er, if_neg (by rw [ek]; omega)] at e
                   exact e)
                | (exfalso; omega)
      · refine p_iconst 38 dX7_likeliestIn_37 ?_
        refine p_goto 42 dX7_likeliestIn_38 ?_
        refine p_istore 44 dX7_likeliestIn_42 (Nat.le_of_ble_eq_true rfl) rfl rfl ?_
        dsimp only [List.set]
        refine p_iload 46 dX7_likeliestIn_44 rfl ?_
        refine p_if_eq 79 49 dX7_likeliestIn_46 (by omega) (by omega) (fun h46 => ?_) (fun h46 => ?_)
        · refine p_iinc 82 dX7_likeliestIn_79 rfl rfl rfl ?_
          dsimp only [List.set]
          refine p_goto 5 dX7_likeliestIn_82 ?_
          have er : q_lk ρ U m (i + 1) = if q_lkok ρ U m i = true ∧ q_odds (q_n ρ) (q_lk ρ U m i) < q_odds (q_n ρ) i then i else q_lk ρ U m i := rfl
          have ek : q_lkok ρ U m i = true ↔ (i &&& (2147483647 ^^^ U) = 0 ∧ (q_needs (q_n ρ) i (q_n ρ 4) &&& U) &&& (2147483647 ^^^ i) = 0) ∧ (q_mins (q_n ρ) i : Int) ≤ m := by
            unfold q_lkok
            rw [Bool.and_eq_true, Bool.and_eq_true, decide_eq_true_eq, decide_eq_true_eq, decide_eq_true_eq]
          first
            | (have e := ih (i + 1) (by omega) (some (zi 1))
               rw [er, if_pos (by rw [ek]; omega)] at e
               exact e)
            | (have e := ih (i + 1) (by omega) (some (zi 1))
               rw [er, if_neg (by rw [ek]; omega)] at e
               exact e)
            | (have e := ih (i + 1) (by omega) (some (zi 0))
               rw [er, if_neg (by rw [ek]; omega)] at e
               exact e)
            | (exfalso; omega)
        · refine p_aload_n 50 dX7_likeliestIn_49 rfl rfl (by decide) ?_
          refine p_getR 115 53 dX7_likeliestIn_50 fX7_15 rfl (hW (115, 2, 117) (by decide)) ?_
          refine p_iload 55 dX7_likeliestIn_53 rfl ?_
          refine p_ialdn 117 56 (i) dX7_likeliestIn_55 rfl (by omega) (by omega) ?_
          rw [(hs i hi2).2.1]
          refine p_iload_n 57 dX7_likeliestIn_56 rfl rfl ?_
          refine p_icmp_gt 79 60 dX7_likeliestIn_57 (by omega) (by omega) (by omega) (by omega) (fun h57 => ?_) (fun h57 => ?_)
          · refine p_iinc 82 dX7_likeliestIn_79 rfl rfl rfl ?_
            dsimp only [List.set]
            refine p_goto 5 dX7_likeliestIn_82 ?_
            have er : q_lk ρ U m (i + 1) = if q_lkok ρ U m i = true ∧ q_odds (q_n ρ) (q_lk ρ U m i) < q_odds (q_n ρ) i then i else q_lk ρ U m i := rfl
            have ek : q_lkok ρ U m i = true ↔ (i &&& (2147483647 ^^^ U) = 0 ∧ (q_needs (q_n ρ) i (q_n ρ 4) &&& U) &&& (2147483647 ^^^ i) = 0) ∧ (q_mins (q_n ρ) i : Int) ≤ m := by
              unfold q_lkok
              rw [Bool.and_eq_true, Bool.and_eq_true, decide_eq_true_eq, decide_eq_true_eq, decide_eq_true_eq]
            first
              | (have e := ih (i + 1) (by omega) (some (zi 1))
                 rw [er, if_pos (by rw [ek]; omega)] at e
                 exact e)
              | (have e := ih (i + 1) (by omega) (some (zi 1))
                 rw [er, if_neg (by rw [ek]; omega)] at e
                 exact e)
              | (have e := ih (i + 1) (by omega) (some (zi 0))
                 rw [er, if_neg (by rw [ek]; omega)] at e
                 exact e)
              | (exfalso; omega)
          · refine p_aload_n 61 dX7_likeliestIn_60 rfl rfl (by decide) ?_
            refine p_getR 115 64 dX7_likeliestIn_61 fX7_11 rfl (hW (115, 1, 116) (by decide)) ?_
            refine p_iload 66 dX7_likeliestIn_64 rfl ?_
            refine p_ialdn 116 67 (i) dX7_likeliestIn_66 rfl (by omega) (by omega) ?_
            rw [(hs i hi2).1]
            refine p_aload_n 68 dX7_likeliestIn_67 rfl rfl (by decide) ?_
            refine p_getR 115 71 dX7_likeliestIn_68 fX7_11 rfl (hW (115, 1, 116) (by decide)) ?_
            refine p_iload_n 72 dX7_likeliestIn_71 rfl rfl ?_
            refine p_ialdn 116 73 (q_lk ρ U m i) dX7_likeliestIn_72 rfl (by omega) (by omega) ?_
            rw [(hs _ hl2).1]
            refine p_icmp_le 79 76 dX7_likeliestIn_73 (by omega) (by omega) (by omega) (by omega) (fun h73 => ?_) (fun h73 => ?_)
            · refine p_iinc 82 dX7_likeliestIn_79 rfl rfl rfl ?_
              dsimp only [List.set]
              refine p_goto 5 dX7_likeliestIn_82 ?_
              have er : q_lk ρ U m (i + 1) = if q_lkok ρ U m i = true ∧ q_odds (q_n ρ) (q_lk ρ U m i) < q_odds (q_n ρ) i then i else q_lk ρ U m i := rfl
              have ek : q_lkok ρ U m i = true ↔ (i &&& (2147483647 ^^^ U) = 0 ∧ (q_needs (q_n ρ) i (q_n ρ 4) &&& U) &&& (2147483647 ^^^ i) = 0) ∧ (q_mins (q_n ρ) i : Int) ≤ m := by
                unfold q_lkok
                rw [Bool.and_eq_true, Bool.and_eq_true, decide_eq_true_eq, decide_eq_true_eq, decide_eq_true_eq]
              first
                | (have e := ih (i + 1) (by omega) (some (zi 1))
                   rw [er, if_pos (by rw [ek]; omega)] at e
                   exact e)
                | (have e := ih (i + 1) (by omega) (some (zi 1))
                   rw [er, if_neg (by rw [ek]; omega)] at e
                   exact e)
                | (have e := ih (i + 1) (by omega) (some (zi 0))
                   rw [er, if_neg (by rw [ek]; omega)] at e
                   exact e)
                | (exfalso; omega)
            · refine p_iload 78 dX7_likeliestIn_76 rfl ?_
              refine p_istore_n 79 dX7_likeliestIn_78 rfl (Nat.le_of_ble_eq_true rfl) rfl rfl ?_
              dsimp only [List.set]
              refine p_iinc 82 dX7_likeliestIn_79 rfl rfl rfl ?_
              dsimp only [List.set]
              refine p_goto 5 dX7_likeliestIn_82 ?_
              have er : q_lk ρ U m (i + 1) = if q_lkok ρ U m i = true ∧ q_odds (q_n ρ) (q_lk ρ U m i) < q_odds (q_n ρ) i then i else q_lk ρ U m i := rfl
              have ek : q_lkok ρ U m i = true ↔ (i &&& (2147483647 ^^^ U) = 0 ∧ (q_needs (q_n ρ) i (q_n ρ 4) &&& U) &&& (2147483647 ^^^ i) = 0) ∧ (q_mins (q_n ρ) i : Int) ≤ m := by
                unfold q_lkok
                rw [Bool.and_eq_true, Bool.and_eq_true, decide_eq_true_eq, decide_eq_true_eq, decide_eq_true_eq]
              first
                | (have e := ih (i + 1) (by omega) (some (zi 1))
                   rw [er, if_pos (by rw [ek]; omega)] at e
                   exact e)
                | (have e := ih (i + 1) (by omega) (some (zi 1))
                   rw [er, if_neg (by rw [ek]; omega)] at e
                   exact e)
                | (have e := ih (i + 1) (by omega) (some (zi 0))
                   rw [er, if_neg (by rw [ek]; omega)] at e
                   exact e)
                | (exfalso; omega)
theorem s_likeliestIn {l : Launch} {X : ZX} {M : ZM} {ρ : Nat → Int} (hW : zWc M) (hR : wfR ρ) (hs : ICs ρ M) {U : Nat} {m : Int} (hU : U < 2 ^ q_n ρ 4) (hm1 : -2147483648 ≤ m) (hm2 : m < 2147483648) : zCi l X 0 yX7_likeliestIn tX7_likeliestIn [zr 115, zi (U : Int), zi m] M (fun a M' => a = (q_lk ρ U m (U + 1) : Int) ∧ M' = M) := by
  refine zC.of [some (zr 115), some (zi (U : Int)), some (zi m), none, none, none] (by decide +kernel) rfl rfl (Nat.le_of_ble_eq_true rfl) rfl ?_
  refine p_iconst 1 dX7_likeliestIn_0 ?_
  refine p_istore_n 2 dX7_likeliestIn_1 rfl (Nat.le_of_ble_eq_true rfl) rfl rfl ?_
  dsimp only [List.set]
  refine p_iconst 3 dX7_likeliestIn_2 ?_
  refine p_istore 5 dX7_likeliestIn_3 (Nat.le_of_ble_eq_true rfl) rfl rfl ?_
  dsimp only [List.set]
  have e := l_likeliestIn (l := l) (X := X) hW hR hs hU hm1 hm2 U 1 (by omega) none
  rw [q_lk_one] at e
  exact e
