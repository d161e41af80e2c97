/-- a row of integers as whole numbers -/
def q_n (ρ : Nat → Int) (i : Nat) : Nat := (ρ i).toNat
def q_all (p : Nat → Bool) : Nat → Bool
  | 0 => true
  | n + 1 => q_all p n && p n
def q_cntp (p : Nat → Bool) : Nat → Nat
  | 0 => 0
  | n + 1 => q_cntp p n + (if p n then 1 else 0)
def q_orp (p : Nat → Bool) : Nat → Nat
  | 0 => 0
  | n + 1 => if p n then q_orp p n ||| n else q_orp p n
def q_andp (p : Nat → Bool) (b : Nat) : Nat → Nat
  | 0 => b
  | n + 1 => if p n then q_andp p b n &&& n else q_andp p b n
/-- signs, deeds, ranks of the orders; signs and deeds seen -/
def q_sg (ρ : Nat → Int) (k : Nat) : Int := q_sign ρ (59 + 19 * k + 1)
def q_dd (ρ : Nat → Int) (k : Nat) : Int := q_sign ρ (59 + 19 * k + 10)
def q_rk (ρ : Nat → Int) (k : Nat) : Nat := (ρ (59 + 19 * k)).toNat
def q_ss (ρ : Nat → Int) (k : Nat) : Int := q_sign ρ (173 + 19 * k + 1)
def q_sd (ρ : Nat → Int) (k : Nat) : Int := if ρ (173 + 19 * k) = 0 then 0 else q_sign ρ (173 + 19 * k + 10)
def q_done (ρ : Nat → Int) (sh : Int) (S : Nat) : Int := (q_deed (q_sg ρ) (q_dd ρ) (q_rk ρ) sh S (q_n ρ 6)).2
def q_fit (ρ : Nat → Int) (S : Nat) : Bool := q_all (fun n => decide (q_done ρ (q_ss ρ n) S = q_sd ρ n)) (q_n ρ 7)
def q_fits (ρ : Nat → Int) : Nat := q_cntp (q_fit ρ) (2 ^ q_n ρ 6)
def q_could (ρ : Nat → Int) : Nat := q_orp (q_fit ρ) (2 ^ q_n ρ 6)
def q_surely (ρ : Nat → Int) : Nat := if q_fits ρ = 0 then 0 else q_andp (q_fit ρ) (2 ^ q_n ρ 6 - 1) (2 ^ q_n ρ 6)
/-- the first order of a sign and a deed; 6: none -/
def q_part (ρ : Nat → Int) (sh dn : Int) : Nat := (q_first (fun o => decide (q_sg ρ o = sh) && decide (q_dd ρ o = dn)) (q_n ρ 6)).getD 6
def q_parts (ρ : Nat → Int) (sh : Int) (p : Nat) : Nat := q_cntp (fun S => q_fit ρ S && decide (q_part ρ sh (q_done ρ sh S) = p)) (2 ^ q_n ρ 6)
def q_most (ρ : Nat → Int) (sh : Int) : Nat := q_max (fun _ => true) (q_parts ρ sh) 0 7
def q_new (ρ : Nat → Int) (o : Nat) : Bool := q_all (fun p => decide (q_sg ρ p ≠ q_sg ρ o)) o && q_all (fun n => decide (q_ss ρ n ≠ q_sg ρ o)) (q_n ρ 7)
def q_ask (ρ : Nat → Int) : Nat → Int × Int
  | 0 => (-2, -2)
  | o + 1 => let p := q_ask ρ o
    if q_new ρ o = true ∧ (p.1 = -2 ∨ (q_most ρ (q_sg ρ o) : Int) < p.2) then ((o : Int), (q_most ρ (q_sg ρ o) : Int)) else p
def q_asked (ρ : Nat → Int) : Int × Int := if q_fits ρ = 0 then (-2, -2) else q_ask ρ (q_n ρ 6)
/-- a county of the class holds what the row says -/
def ICc (ρ : Nat → Int) (h : Int) (c : Nat) (M : ZM) : Prop :=
  (M c 0 = h ∧ M c 1 = ρ 0 ∧ M c 2 = ρ 1 ∧ M (c + 1) 0 = ρ 2 ∧ M (c + 6) 0 = ρ 3 ∧ M (c + 11) 0 = ρ 4 ∧ M (c + 11) 1 = ρ 5 ∧ M (c + 17) 0 = ρ 6 ∧ M (c + 17) 4 = ρ 7) ∧
  (∀ s : Nat, (s : Int) < ρ 2 → M (c + 3) s = ρ (8 + 3 * s) ∧ M (c + 4) s = ρ (8 + 3 * s + 1) ∧ M (c + 5) s = ρ (8 + 3 * s + 2)) ∧
  (∀ a : Nat, (a : Int) < ρ 3 → M (c + 8) a = ρ (29 + 3 * a) ∧ M (c + 9) a = ρ (29 + 3 * a + 1) ∧ M (c + 10) a = ρ (29 + 3 * a + 2)) ∧
  (∀ w : Nat, (w : Int) < ρ 4 → M (c + 13) w = ρ (38 + 3 * w) ∧ M (c + 14) w = ρ (38 + 3 * w + 1) ∧ M (c + 16) w = (q_ab (q_n ρ) w : Int)) ∧
  (∀ k : Nat, (k : Int) < ρ 6 → M (c + 18) k = q_sg ρ k ∧ M (c + 19) k = q_dd ρ k ∧ M (c + 20) k = ρ (59 + 19 * k)) ∧
  (∀ k : Nat, (k : Int) < ρ 7 → M (c + 21) k = q_ss ρ k ∧ M (c + 22) k = q_sd ρ k)
def q_tnd (x : Int) : Int := if x = 0 then -2 else x - 1
/-- a Now of the class holds what a row says -/
def ICn (τ : Nat → Int) (h : Int) (e : Nat) (M : ZM) : Prop := M e 0 = τ 15 ∧ M e 1 = τ 17 ∧ M e 2 = τ 14 ∧ M e 3 = τ 16 ∧ (∀ s, s < 7 → M (e + 1) s = τ s) ∧ (h = 1 → ∀ s, s < 7 → M (e + 2) s = q_tnd (τ (7 + s)))
def ICt (ρ : Nat → Int) (M : ZM) : Prop := M 112 1 = (q_allHands (q_n ρ) : Int) ∧ M 112 2 = (q_set (fun s => decide (q_tends (q_n ρ) (q_n ρ 2) (q_hands (q_n ρ)) s ≠ 0)) (q_n ρ 2) : Int) ∧ (∀ s, s < q_n ρ 2 → M 113 s = q_tnd (q_tends (q_n ρ) (q_n ρ 2) (q_hands (q_n ρ)) s : Int)) ∧ ∀ m, m ≤ q_n ρ 2 → ∀ st, st ≤ q_sum (fun a => (q_n ρ (29 + 3 * a + 1) + 1) * 8 ^ a) (q_n ρ 3) → M 114 ((q_n ρ 2 - m) * 366 + st) = (q_bt (q_n ρ) m (q_dg st) : Int)
def ICs (ρ : Nat → Int) (M : ZM) : Prop := ∀ S, S < 2 ^ q_n ρ 4 → M 116 S = (q_odds (q_n ρ) S : Int) ∧ M 117 S = (q_mins (q_n ρ) S : Int) ∧ M 118 S = (q_needs (q_n ρ) S (q_n ρ 4) : Int) ∧ M 119 S = (q_cost (q_n ρ) 7 S : Int) ∧ M 120 S = (q_rows (q_n ρ) 7 S : Int)
def ICf (ρ : Nat → Int) (M : ZM) : Prop := M 121 1 = (q_fits ρ : Int) ∧ M 121 2 = (q_could ρ : Int) ∧ M 121 3 = (q_surely ρ : Int) ∧ M 121 4 = (q_asked ρ).1 ∧ M 121 5 = (q_asked ρ).2
def q_sb (x : Int) : Int := if x < 128 then x else x - 256
/-- the class's cells in M hold what the model's cells in s say -/
def IC (s M : ZM) : Prop :=
  zWc M ∧
  (∃ c c' : Nat, (c = 2 ∧ c' = 25 ∨ c = 25 ∧ c' = 2) ∧ M 0 5 = (c : Int) ∧ M 0 6 = (c' : Int) ∧ ICc (s 127) (s 124 14) c M) ∧
  (M 0 1 = s 124 2 ∧ (∀ i : Nat, (i : Int) < s 124 2 → M 1 i = q_sb (s 125 i)) ∧ M 0 2 = s 124 11 ∧ M 0 3 = s 124 9 ∧ (s 124 11 = 4 → M 0 4 = s 124 10)) ∧
  ICn (s 129) (s 124 14) 49 M ∧
  (M 52 2 = s 124 20 ∧ M 52 4 = s 124 21 ∧ ∃ top : Nat, top < 16 ∧ M 52 1 = (top : Int) ∧ (∀ j : Nat, (j : Int) < s 124 20 → ICn (fun i => s 130 (18 * j + i)) 1 (55 + 3 * ((top + 16 - (s 124 20).toNat + j) % 16)) M) ∧ (∀ j : Nat, (j : Int) < s 124 21 → ICn (fun i => s 131 (18 * j + i)) 1 (103 + 3 * j) M)) ∧
  (M 112 0 = 0 ∨ M 112 0 = 1 ∧ ICt (s 127) M) ∧
  ((M 116 0 = 0 ∧ M 117 0 = 0 ∧ M 118 0 = 0 ∧ M 119 0 = 0) ∧ (M 115 0 = 0 ∨ M 115 0 = 1 ∧ ICs (s 127) M)) ∧
  (M 121 0 = 0 ∨ M 121 0 = 1 ∧ ICf (s 127) M)
/-- what holds between the calls -/
def Inv (M : ZM) : Prop := WF M ∧ zWm M ∧ IC M M
