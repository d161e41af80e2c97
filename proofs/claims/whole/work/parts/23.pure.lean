/-! WHAT IS COUNTED, in plain words over a county's row (r, whole numbers) and what is now (t) -/
/-- how many there are by what is told -/
def q_rly (k n : Nat) : Option Nat := if h : n = 0 then some 0 else if n % 10 = k then none else (q_rly k (n / 10)).map (fun v => (if k < n % 10 then n % 10 - 1 else n % 10) + 9 * v)
termination_by n
decreasing_by omega
def q_wt (r : Nat → Nat) (s : Nat) : Nat := if r (8 + 3 * s) = 1 then 2 * r (8 + 3 * s + 2) else if r (8 + 3 * s) = 2 then r (8 + 3 * s + 2) / 2 else r (8 + 3 * s + 2)
def q_dist (a b : Nat) : Nat := if a ≤ b then b - a else a - b
def q_reach (r : Nat → Nat) (a s : Nat) : Bool := decide (q_dist (r (29 + 3 * a)) (r (8 + 3 * s + 1)) ≤ r (29 + 3 * a + 2))
/-- is one of the first n sleepers a sheep among those of a set -/
def q_any (r : Nat → Nat) (S : Nat) : Nat → Bool
  | 0 => false
  | n + 1 => q_any r S n || (decide (r (8 + 3 * n) = 3) && S.testBit n)
/-- harm of a day to one when those of a set are tended -/
def q_harm (r : Nat → Nat) (S s : Nat) : Nat := if S.testBit s then 0 else if r (8 + 3 * s) = 3 ∧ q_any r S (r 2) = true then 0 else q_wt r s
def q_harms (r : Nat → Nat) (S : Nat) : Nat := q_sum (q_harm r S) (r 2)
/-- the greatest of g over those of the first n that p takes, and of a base -/
def q_max (p : Nat → Bool) (g : Nat → Nat) (b : Nat) : Nat → Nat
  | 0 => b
  | n + 1 => if p n then max (q_max p g b n) (g n) else q_max p g b n
/-- the first of the first n that p takes -/
def q_first (p : Nat → Bool) : Nat → Option Nat
  | 0 => none
  | n + 1 => match q_first p n with
    | some i => some i
    | none => if p n then some n else none
/-- the m last sleepers tended at best, with so many hands -/
def q_bt (r : Nat → Nat) : Nat → (Nat → Nat) → Nat
  | 0, _ => 0
  | m + 1, hd => q_max (fun a => decide (0 < hd a) && q_reach r a (r 2 - (m + 1))) (fun a => q_wt r (r 2 - (m + 1)) + q_bt r m (fun b => if b = a then hd a - 1 else hd b)) (q_bt r m hd) (r 3)
/-- by whom the next of the m last is tended at best (none: by nobody), with so many hands -/
def q_who (r : Nat → Nat) (m : Nat) (hd : Nat → Nat) : Option Nat := q_first (fun a => decide (0 < hd a) && q_reach r a (r 2 - (m + 1)) && decide (q_wt r (r 2 - (m + 1)) + q_bt r m (fun b => if b = a then hd a - 1 else hd b) = q_bt r (m + 1) hd)) (r 3)
/-- ... of all the m last: s is tended by (by one more; 0: by nobody) -/
def q_tends (r : Nat → Nat) : Nat → (Nat → Nat) → Nat → Nat
  | 0, _, _ => 0
  | m + 1, hd, s => if s = r 2 - (m + 1) then (match q_who r m hd with
      | some a => a + 1
      | none => 0) else q_tends r m (match q_who r m hd with
      | some a => fun b => if b = a then hd a - 1 else hd b
      | none => hd) s
def q_hands (r : Nat → Nat) (a : Nat) : Nat := if a < r 3 then r (29 + 3 * a + 1) else 0
/-- the digits of a number of hands -/
def q_dg (st a : Nat) : Nat := st / 8 ^ a % 8
def q_allHands (r : Nat → Nat) : Nat := q_sum (fun a => r (29 + 3 * a + 1) * 8 ^ a) (r 3)
/-- all that must come before a word, by others too -/
def q_abS (r : Nat → Nat) (S k : Nat) : Nat := if S.testBit k then S ||| r (38 + 3 * k + 2) else S
def q_abK (r : Nat → Nat) (S : Nat) : Nat → Nat
  | 0 => S
  | k + 1 => q_abS r (q_abK r S k) k
def q_abN (r : Nat → Nat) (S : Nat) : Nat → Nat
  | 0 => S
  | n + 1 => q_abK r (q_abN r S n) 7
def q_ab (r : Nat → Nat) (w : Nat) : Nat := q_abN r (r (38 + 3 * w + 2)) 7
/-- the odds of a set of words -/
def q_odds (r : Nat → Nat) (S : Nat) : Nat := q_sum (fun w => if S.testBit w then r (38 + 3 * w) else 0) (r 4)
def q_mins (r : Nat → Nat) (S : Nat) : Nat := q_sum (fun w => if S.testBit w then r (38 + 3 * w + 1) else 0) (r 4)
/-- a set without a word -/
def q_del (S w : Nat) : Nat := S &&& (2147483647 ^^^ 2 ^ w)
/-- a word may be the first of a set -/
def q_can (r : Nat → Nat) (S w : Nat) : Bool := S.testBit w && decide (q_ab r w &&& S = 0)
/-- the least of g over those of the first n that p takes -/
def q_min (p : Nat → Bool) (g : Nat → Nat) : Nat → Option Nat
  | 0 => none
  | n + 1 => if p n then (match q_min p g n with
      | none => some (g n)
      | some b => some (if g n < b then g n else b)) else q_min p g n
/-- what a set's best row costs; the fuel: at least its size -/
def q_cost (r : Nat → Nat) : Nat → Nat → Nat
  | 0, _ => 0
  | f + 1, S => if S = 0 then 0 else (q_min (q_can r S) (fun w => r (38 + 3 * w + 1) * q_odds r S + q_cost r f (q_del S w)) (r 4)).getD 0
def q_rows (r : Nat → Nat) : Nat → Nat → Nat
  | 0, _ => 1
  | f + 1, S => if S = 0 then 1 else q_sum (fun w => if q_can r S w then q_rows r f (q_del S w) else 0) (r 4)
/-- the first word of a set's best row -/
def q_firstW (r : Nat → Nat) (S : Nat) : Option Nat := q_first (fun w => q_can r S w && decide (r (38 + 3 * w + 1) * q_odds r S + q_cost r 7 (q_del S w) = q_cost r 7 S)) (r 4)
def q_needs (r : Nat → Nat) (S : Nat) : Nat → Nat
  | 0 => 0
  | n + 1 => if S.testBit n then q_needs r S n ||| q_ab r n else q_needs r S n
/-- letters packed, five bits each -/
def q_pk (g : Nat → Int) : Nat → Int
  | 0 => 0
  | n + 1 => 32 * q_pk g n + (g n - 96)
def q_sign (ρ : Nat → Int) (f : Nat) : Int := q_pk (fun j => ρ (f + 1 + j)) (ρ f).toNat
/-- what is done to a sign by a set of orders: the highest rank's (sg, dd: signs and deeds, packed) -/
def q_deed (sg dd : Nat → Int) (rk : Nat → Nat) (sh : Int) (S : Nat) : Nat → (Nat × Int)
  | 0 => (0, 0)
  | n + 1 => let p := q_deed sg dd rk sh S n
    if S.testBit n = true ∧ sg n = sh ∧ p.1 < rk n then (rk n, dd n) else p
/-- what holds of a told one besides -/
def wfR1 (ρ : Nat → Int) : Prop := 1 ≤ ρ 0 ∧ 1 ≤ ρ 2 ∧ (∀ s : Nat, (s : Int) < ρ 2 → 1 ≤ ρ (8 + 3 * s + 2)) ∧ (∀ a : Nat, (a : Int) < ρ 3 → 1 ≤ ρ (29 + 3 * a + 1)) ∧ (∀ w : Nat, (w : Int) < ρ 4 → 1 ≤ ρ (38 + 3 * w) ∧ 1 ≤ ρ (38 + 3 * w + 1) ∧ ρ (38 + 3 * w + 2) < 2 ^ (ρ 4).toNat) ∧ (∀ k : Nat, (k : Int) < ρ 6 → 1 ≤ ρ (59 + 19 * k) ∧ 1 ≤ ρ (59 + 19 * k + 1) ∧ 1 ≤ ρ (59 + 19 * k + 10)) ∧ (∀ k : Nat, (k : Int) < ρ 7 → 1 ≤ ρ (173 + 19 * k + 1) ∧ (ρ (173 + 19 * k) = 1 → 1 ≤ ρ (173 + 19 * k + 10))) ∧ (∀ S, S ≠ 0 → S < 2 ^ (ρ 4).toNat → ∃ w, w < (ρ 4).toNat ∧ q_can (fun i => (ρ i).toNat) S w = true)
def WF (s : ZM) : Prop := (0 ≤ s 124 2 ∧ s 124 2 ≤ 900) ∧ (∀ i, i < 900 → 0 ≤ s 125 i ∧ s 125 i < 256) ∧ (0 ≤ s 124 11 ∧ s 124 11 ≤ 6) ∧ (0 ≤ s 124 9 ∧ s 124 9 ≤ 7) ∧ (-1 ≤ s 124 10 ∧ s 124 10 ≤ 900) ∧ (s 124 14 = 0 ∨ s 124 14 = 1) ∧ wfR (s 127) ∧ (s 124 14 = 0 → ∀ i, i < 421 → s 127 i = 0) ∧ (s 124 14 = 1 → wfR1 (s 127)) ∧ wfT (s 127) (s 129) ∧ (0 ≤ s 124 20 ∧ s 124 20 ≤ 16) ∧ (∀ j : Nat, (j : Int) < s 124 20 → wfT (s 127) (fun i => s 130 (18 * j + i))) ∧ (0 ≤ s 124 21 ∧ s 124 21 ≤ 3) ∧ (∀ j : Nat, (j : Int) < s 124 21 → wfT (s 127) (fun i => s 131 (18 * j + i))) ∧ (s 124 14 = 0 → (∀ i, i < 18 → s 129 i = 0) ∧ s 124 20 = 0 ∧ s 124 21 = 0)
