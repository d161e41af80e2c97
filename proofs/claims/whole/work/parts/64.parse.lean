/-! THE TEXT: what is read, in plain words. t: its bytes; n: how many; p: where the looking for a token begins -/
def q_sp (x : Int) : Bool := decide (x = 32)
def q_sm (x : Int) : Bool := decide (97 ≤ x) && decide (x ≤ 122)
def q_dgt (x : Int) : Bool := decide (48 ≤ x) && decide (x ≤ 57)
def q_adv (p : Int → Bool) (t : Nat → Int) (n : Nat) : Nat → Nat → Nat
  | 0, k => k
  | f + 1, k => if k < n ∧ p (t k) = true then q_adv p t n f (k + 1) else k
def q_go (p : Int → Bool) (t : Nat → Int) (n k : Nat) : Nat := q_adv p t n (n - k) k
theorem q_go_rec (p : Int → Bool) (t : Nat → Int) (n k : Nat) : q_go p t n k = if k < n ∧ p (t k) = true then q_go p t n (k + 1) else k := by
  unfold q_go
  by_cases h : k < n
  · rw [show n - k = (n - (k + 1)) + 1 by omega]
    rfl
  · rw [show n - k = 0 by omega, if_neg (fun g => h g.1)]
    rfl
theorem q_adv_le (p : Int → Bool) (t : Nat → Int) (n : Nat) : ∀ f k, k ≤ q_adv p t n f k ∧ (k ≤ n → q_adv p t n f k ≤ n) ∧ ∀ j, k ≤ j → j < q_adv p t n f k → j < n ∧ p (t j) = true := by
  intro f
  induction f with
  | zero => intro k; exact ⟨Nat.le_refl _, fun h => h, fun j h1 h2 => absurd h2 (by show ¬ j < k; omega)⟩
  | succ f ih =>
    intro k
    have e : q_adv p t n (f + 1) k = if k < n ∧ p (t k) = true then q_adv p t n f (k + 1) else k := rfl
    rw [e]
    by_cases h : k < n ∧ p (t k) = true
    · rw [if_pos h]
      obtain ⟨h1, h2, h3⟩ := ih (k + 1)
      refine ⟨by omega, fun _ => h2 (by omega), fun j g1 g2 => ?_⟩
      by_cases ej : j = k
      · subst ej; exact h
      · exact h3 j (by omega) g2
    · rw [if_neg h]
      exact ⟨Nat.le_refl _, fun h => h, fun j g1 g2 => absurd g2 (by omega)⟩
theorem q_go_le (p : Int → Bool) (t : Nat → Int) (n k : Nat) : k ≤ q_go p t n k := (q_adv_le p t n _ k).1
theorem q_go_le2 (p : Int → Bool) (t : Nat → Int) {n k : Nat} (h : k ≤ n) : q_go p t n k ≤ n := (q_adv_le p t n _ k).2.1 h
theorem q_go_in {p : Int → Bool} {t : Nat → Int} {n k j : Nat} (h1 : k ≤ j) (h2 : j < q_go p t n k) : j < n ∧ p (t j) = true := (q_adv_le p t n _ k).2.2 j h1 h2
theorem q_adv_end (p : Int → Bool) (t : Nat → Int) (n : Nat) : ∀ f k, n - k ≤ f → ¬ (q_adv p t n f k < n ∧ p (t (q_adv p t n f k)) = true) := by
  intro f
  induction f with
  | zero =>
    intro k hk h
    have : k < n := h.1
    omega
  | succ f ih =>
    intro k hk
    have e : q_adv p t n (f + 1) k = if k < n ∧ p (t k) = true then q_adv p t n f (k + 1) else k := rfl
    rw [e]
    by_cases h : k < n ∧ p (t k) = true
    · rw [if_pos h]
      exact ih (k + 1) (by omega)
    · rw [if_neg h]
      exact h
theorem q_go_end (p : Int → Bool) (t : Nat → Int) (n k : Nat) : ¬ (q_go p t n k < n ∧ p (t (q_go p t n k)) = true) := q_adv_end p t n _ k (Nat.le_refl _)
theorem q_go_pos {p : Int → Bool} {t : Nat → Int} {n k : Nat} (h1 : k < n) (h2 : p (t k) = true) : k + 1 ≤ q_go p t n k := by
  rw [q_go_rec, if_pos ⟨h1, h2⟩]
  exact q_go_le _ _ _ _
/-- where the token is; of which kind (0 the end, 1 none such, 2 a word, 3 a whole, 59); where it ends; its number -/
def q_at (t : Nat → Int) (n p : Nat) : Nat := q_go q_sp t n p
def q_en (t : Nat → Int) (n p : Nat) : Nat := if n ≤ q_at t n p then q_at t n p else if q_sm (t (q_at t n p)) = true then q_go q_sm t n (q_at t n p) else if q_dgt (t (q_at t n p)) = true then q_go q_dgt t n (q_at t n p) else q_at t n p + 1
def q_tk (t : Nat → Int) (n p : Nat) : Nat := if n ≤ q_at t n p then 0 else if q_sm (t (q_at t n p)) = true then (if 8 < q_en t n p - q_at t n p then 1 else 2) else if q_dgt (t (q_at t n p)) = true then (if 3 < q_en t n p - q_at t n p then 1 else 3) else if t (q_at t n p) = 59 then 59 else 1
def q_ln (t : Nat → Int) (n p : Nat) : Nat := q_en t n p - q_at t n p
def q_dec (g : Nat → Int) : Nat → Int
  | 0 => 0
  | k + 1 => 10 * q_dec g k + (g k - 48)
def q_nb (t : Nat → Int) (n p : Nat) : Int := q_dec (fun j => t (q_at t n p + j)) (q_ln t n p)
def q_wd (t : Nat → Int) (n p : Nat) : Int := q_pk (fun j => t (q_at t n p + j)) (q_ln t n p)
theorem q_at_le (t : Nat → Int) {n p : Nat} (h : p ≤ n) : p ≤ q_at t n p ∧ q_at t n p ≤ n := ⟨q_go_le _ _ _ _, q_go_le2 _ _ h⟩
theorem q_en_le (t : Nat → Int) {n p : Nat} (h : p ≤ n) : q_at t n p ≤ q_en t n p ∧ q_en t n p ≤ n ∧ (q_at t n p < n → q_at t n p < q_en t n p) := by
  have h1 := q_at_le t h
  unfold q_en
  by_cases g0 : n ≤ q_at t n p
  · rw [if_pos g0]
    omega
  · rw [if_neg g0]
    by_cases g1 : q_sm (t (q_at t n p)) = true
    · rw [if_pos g1]
      have := q_go_pos (p := q_sm) (t := t) (n := n) (k := q_at t n p) (by omega) g1
      have := q_go_le2 q_sm t (n := n) (k := q_at t n p) h1.2
      omega
    · rw [if_neg g1]
      by_cases g2 : q_dgt (t (q_at t n p)) = true
      · rw [if_pos g2]
        have := q_go_pos (p := q_dgt) (t := t) (n := n) (k := q_at t n p) (by omega) g2
        have := q_go_le2 q_dgt t (n := n) (k := q_at t n p) h1.2
        omega
      · rw [if_neg g2]
        omega
theorem q_tk_cases (t : Nat → Int) (n p : Nat) : q_tk t n p = 0 ∨ q_tk t n p = 1 ∨ q_tk t n p = 2 ∨ q_tk t n p = 3 ∨ q_tk t n p = 59 := by
  unfold q_tk
  (repeat' split) <;> omega
theorem q_tk_word {t : Nat → Int} {n p : Nat} (hp : p ≤ n) (h : q_tk t n p = 2) : q_at t n p < n ∧ 1 ≤ q_ln t n p ∧ q_ln t n p ≤ 8 ∧ q_en t n p = q_at t n p + q_ln t n p ∧ ∀ j, j < q_ln t n p → 97 ≤ t (q_at t n p + j) ∧ t (q_at t n p + j) ≤ 122 := by
  have hl := q_en_le t hp
  unfold q_tk at h
  by_cases g0 : n ≤ q_at t n p
  · rw [if_pos g0] at h; omega
  rw [if_neg g0] at h
  by_cases g1 : q_sm (t (q_at t n p)) = true
  · rw [if_pos g1] at h
    by_cases g3 : 8 < q_en t n p - q_at t n p
    · rw [if_pos g3] at h; omega
    · have e : q_en t n p = q_go q_sm t n (q_at t n p) := by
        unfold q_en
        rw [if_neg g0, if_pos g1]
      unfold q_ln
      refine ⟨by omega, by omega, by omega, by omega, fun j hj => ?_⟩
      have := (q_go_in (p := q_sm) (t := t) (n := n) (k := q_at t n p) (j := q_at t n p + j) (by omega) (by omega)).2
      unfold q_sm at this
      rw [Bool.and_eq_true, decide_eq_true_eq, decide_eq_true_eq] at this
      exact this
  · rw [if_neg g1] at h
    by_cases g2 : q_dgt (t (q_at t n p)) = true
    · rw [if_pos g2] at h
      split at h <;> omega
    · rw [if_neg g2] at h
      split at h <;> omega
theorem q_tk_whole {t : Nat → Int} {n p : Nat} (hp : p ≤ n) (h : q_tk t n p = 3) : q_at t n p < n ∧ 1 ≤ q_ln t n p ∧ q_ln t n p ≤ 3 ∧ q_en t n p = q_at t n p + q_ln t n p ∧ ∀ j, j < q_ln t n p → 48 ≤ t (q_at t n p + j) ∧ t (q_at t n p + j) ≤ 57 := by
  have hl := q_en_le t hp
  unfold q_tk at h
  by_cases g0 : n ≤ q_at t n p
  · rw [if_pos g0] at h; omega
  rw [if_neg g0] at h
  by_cases g1 : q_sm (t (q_at t n p)) = true
  · rw [if_pos g1] at h
    split at h <;> omega
  · rw [if_neg g1] at h
    by_cases g2 : q_dgt (t (q_at t n p)) = true
    · rw [if_pos g2] at h
      by_cases g3 : 3 < q_en t n p - q_at t n p
      · rw [if_pos g3] at h; omega
      · have e : q_en t n p = q_go q_dgt t n (q_at t n p) := by
          unfold q_en
          rw [if_neg g0, if_neg g1, if_pos g2]
        unfold q_ln
        refine ⟨by omega, by omega, by omega, by omega, fun j hj => ?_⟩
        have := (q_go_in (p := q_dgt) (t := t) (n := n) (k := q_at t n p) (j := q_at t n p + j) (by omega) (by omega)).2
        unfold q_dgt at this
        rw [Bool.and_eq_true, decide_eq_true_eq, decide_eq_true_eq] at this
        exact this
    · rw [if_neg g2] at h
      split at h <;> omega
theorem q_dec_bd {g : Nat → Int} : ∀ n, (∀ j, j < n → 48 ≤ g j ∧ g j ≤ 57) → 0 ≤ q_dec g n ∧ q_dec g n < ((10 ^ n : Nat) : Int) := by
  intro n
  induction n with
  | zero => intro _; exact ⟨Int.le_refl 0, by show (0 : Int) < ((1 : Nat) : Int); decide⟩
  | succ n ih =>
    intro h
    have h1 := ih (fun j hj => h j (by omega))
    have h2 := h n (by omega)
    have e : q_dec g (n + 1) = 10 * q_dec g n + (g n - 48) := rfl
    have e2 : 10 ^ (n + 1) = 10 ^ n * 10 := Nat.pow_succ ..
    rw [e, e2]
    omega
theorem q_nb_bd {t : Nat → Int} {n p : Nat} (hp : p ≤ n) (h : q_tk t n p = 3) : 0 ≤ q_nb t n p ∧ q_nb t n p ≤ 999 := by
  obtain ⟨h1, h2, h3, h4, h5⟩ := q_tk_whole hp h
  have hb := q_dec_bd (g := fun j => t (q_at t n p + j)) (q_ln t n p) h5
  have hp : 10 ^ q_ln t n p ≤ 10 ^ 3 := Nat.pow_le_pow_right (by decide) h3
  have e3 : (10 : Nat) ^ 3 = 1000 := by decide
  unfold q_nb
  omega
theorem q_wd_bd {t : Nat → Int} {n p : Nat} (hp : p ≤ n) (h : q_tk t n p = 2) : 1 ≤ q_wd t n p ∧ q_wd t n p < 1099511627776 := by
  obtain ⟨h1, h2, h3, h4, h5⟩ := q_tk_word hp h
  have hb := q_pk_bd (g := fun j => t (q_at t n p + j)) (q_ln t n p) h5
  have hp : 32 ^ q_ln t n p ≤ 32 ^ 8 := Nat.pow_le_pow_right (by decide) h3
  have e8 : (32 : Nat) ^ 8 = 1099511627776 := by decide
  obtain ⟨m, hm⟩ : ∃ m, q_ln t n p = m + 1 := ⟨q_ln t n p - 1, by omega⟩
  have h6 := (q_pk_bd (g := fun j => t (q_at t n p + j)) m (fun j hj => h5 j (by omega))).1
  have h7 := h5 m (by omega)
  refine ⟨?_, by unfold q_wd; omega⟩
  unfold q_wd
  rw [hm]
  show 1 ≤ 32 * q_pk (fun j => t (q_at t n p + j)) m + (t (q_at t n p + m) - 96)
  omega
/-- the token is the i-th of the constants -/
def q_is (t : Nat → Int) (n p i : Nat) : Bool := decide (q_tk t n p = 2) && decide (q_ln t n p = (zbyt.getD i []).length) && q_all (fun j => decide (t (q_at t n p + j) = ((zbyt.getD i []).getD j 0).toInt)) (zbyt.getD i []).length
def q_rsv (t : Nat → Int) (n p : Nat) : Bool := q_is t n p 0 || q_is t n p 3 || q_is t n p 4 || q_is t n p 5 || q_is t n p 6 || q_is t n p 7 || q_is t n p 8 || q_is t n p 9 || q_is t n p 10
def q_up (ρ : Nat → Int) (i : Nat) (v : Int) : Nat → Int := fun j => if j = i then v else ρ j
/-- a keyword, then a number: the fault and where, or where it goes on and the number -/
def q_num (t : Nat → Int) (n p : Nat) (lo hi : Int) : (Int × Int) ⊕ (Nat × Int) := if q_tk t n p ≠ 3 then .inl (1, (q_at t n p : Int)) else if lo ≤ q_nb t n p ∧ q_nb t n p ≤ hi then .inr (q_en t n p, q_nb t n p) else .inl (4, (q_at t n p : Int))
def q_aft (t : Nat → Int) (n p i : Nat) (lo hi : Int) : (Int × Int) ⊕ (Nat × Int) := if q_is t n p i = true then q_num t n (q_en t n p) lo hi else .inl (1, (q_at t n p : Int))
/-- a name's letters, packed; does the token spell it; which name it is -/
def q_nmp (ρ : Nat → Int) (m : Nat) : Int := q_pk (fun j => ρ (285 + 8 * m + j)) (ρ (268 + m)).toNat
def q_fnd (t : Nat → Int) (n p : Nat) (ρ : Nat → Int) : Option Nat := q_first (fun m => decide (0 < ρ (268 + m)) && decide (q_nmp ρ m = q_wd t n p)) 17
/-- a name is laid -/
def q_nm (t : Nat → Int) (n p : Nat) (ρ : Nat → Int) (m : Nat) : Nat → Int := fun j => if 285 + 8 * m ≤ j ∧ j < 285 + 8 * m + q_ln t n p then t (q_at t n p + (j - (285 + 8 * m))) else if j = 268 + m then (q_ln t n p : Int) else ρ j
def q_newn (t : Nat → Int) (n p : Nat) (ρ : Nat → Int) (m : Nat) : (Int × Int) ⊕ (Nat × (Nat → Int)) := if q_tk t n p ≠ 2 ∨ q_rsv t n p = true then .inl (1, (q_at t n p : Int)) else if (q_fnd t n p ρ).isSome then .inl (3, (q_at t n p : Int)) else .inr (q_en t n p, q_nm t n p ρ m)
/-- a word of letters is laid at f: its size, its letters -/
def q_lay (t : Nat → Int) (n p : Nat) (ρ : Nat → Int) (f : Nat) : Nat → Int := fun j => if f + 1 ≤ j ∧ j < f + 1 + q_ln t n p then t (q_at t n p + (j - (f + 1))) else if j = f then (q_ln t n p : Int) else ρ j
def q_told (t : Nat → Int) (n p : Nat) (ρ : Nat → Int) : (Int × Int) ⊕ Nat := if q_tk t n p ≠ 2 ∨ q_rsv t n p = true then .inl (1, (q_at t n p : Int)) else match q_first (fun w => decide (q_nmp ρ (10 + w) = q_wd t n p)) (q_n ρ 4) with
  | some w => .inr w
  | none => .inl (2, (q_at t n p : Int))
abbrev PR : Type := (Int × Int) ⊕ (Nat × (Nat → Int))
def q_bindN {α : Type} (x : (Int × Int) ⊕ (Nat × Int)) (f : Nat → Int → (Int × Int) ⊕ α) : (Int × Int) ⊕ α := match x with
  | .inl e => .inl e
  | .inr (p, v) => f p v
def q_bindR {α : Type} (x : PR) (f : Nat → (Nat → Int) → (Int × Int) ⊕ α) : (Int × Int) ⊕ α := match x with
  | .inl e => .inl e
  | .inr (p, ρ) => f p ρ
def q_bindW {α : Type} (x : (Int × Int) ⊕ Nat) (f : Nat → (Int × Int) ⊕ α) : (Int × Int) ⊕ α := match x with
  | .inl e => .inl e
  | .inr w => f w
def q_beg (t : Nat → Int) (n p : Nat) (ρ : Nat → Int) (cnt room : Int) (f : Nat → PR) : PR := if ρ 0 = 0 then .inl (6, (q_at t n p : Int)) else if room ≤ cnt then .inl (5, (q_at t n p : Int)) else f (q_en t n p)
def q_lcounty (t : Nat → Int) (n p : Nat) (ρ : Nat → Int) : PR := if 0 < ρ 0 then .inl (3, (q_at t n p : Int)) else q_bindN (q_aft t n (q_en t n p) 1 1 9) (fun p1 la => q_bindN (q_aft t n p1 2 0 100) (fun p2 sn => .inr (p2, q_up (q_up ρ 1 sn) 0 la)))
def q_kind (t : Nat → Int) (n p : Nat) : Int := if q_is t n p 11 = true then 0 else if q_is t n p 12 = true then 1 else if q_is t n p 13 = true then 2 else if q_is t n p 14 = true then 3 else -1
def q_lsleeper (t : Nat → Int) (n p : Nat) (ρ : Nat → Int) : PR := q_bindR (q_newn t n p ρ (q_n ρ 2)) (fun p1 ρ1 => if q_kind t n p1 < 0 then .inl (1, (q_at t n p1 : Int)) else q_bindN (q_aft t n (q_en t n p1) 15 0 9) (fun p2 ho => q_bindN (q_aft t n p2 16 1 20) (fun p3 fr => .inr (p3, q_up (q_up (q_up (q_up ρ1 (8 + 3 * q_n ρ 2) (q_kind t n p1)) (8 + 3 * q_n ρ 2 + 1) ho) (8 + 3 * q_n ρ 2 + 2) fr) 2 (ρ 2 + 1)))))
def q_lawake (t : Nat → Int) (n p : Nat) (ρ : Nat → Int) : PR := q_bindR (q_newn t n p ρ (7 + q_n ρ 3)) (fun p1 ρ1 => q_bindN (q_aft t n p1 15 0 9) (fun p2 ho => q_bindN (q_aft t n p2 17 1 4) (fun p3 ha => q_bindN (q_aft t n p3 18 0 9) (fun p4 re => .inr (p4, q_up (q_up (q_up (q_up ρ1 (29 + 3 * q_n ρ 3) ho) (29 + 3 * q_n ρ 3 + 1) ha) (29 + 3 * q_n ρ 3 + 2) re) 3 (ρ 3 + 1))))))
def q_lword (t : Nat → Int) (n p : Nat) (ρ : Nat → Int) : PR := q_bindR (q_newn t n p ρ (10 + q_n ρ 4)) (fun p1 ρ1 => q_bindN (q_aft t n p1 19 1 99) (fun p2 od => q_bindN (q_aft t n p2 20 1 30) (fun p3 mi => .inr (p3, q_up (q_up (q_up ρ1 (38 + 3 * q_n ρ 4) od) (38 + 3 * q_n ρ 4 + 1) mi) 4 (ρ 4 + 1)))))
def q_lbefore (t : Nat → Int) (n p : Nat) (ρ : Nat → Int) : PR := q_bindW (q_told t n p ρ) (fun a => q_bindW (q_told t n (q_en t n p) ρ) (fun b => if a = b ∨ (q_n ρ (38 + 3 * b + 2)).testBit a = true then .inl (3, (q_at t n (q_en t n p) : Int)) else if (q_ab (q_n ρ) a).testBit b = true then .inl (7, (q_at t n (q_en t n p) : Int)) else .inr (q_en t n (q_en t n p), q_up (q_up ρ (38 + 3 * b + 2) ((q_n ρ (38 + 3 * b + 2) ||| 2 ^ a : Nat) : Int)) 5 (ρ 5 + 1))))
def q_lorder (t : Nat → Int) (n p : Nat) (ρ : Nat → Int) : PR := if q_tk t n p ≠ 2 then .inl (1, (q_at t n p : Int)) else
  let ρ1 := q_lay t n p ρ (59 + 19 * q_n ρ 6 + 1)
  let p1 := q_en t n p
  if q_is t n p1 9 = false then .inl (1, (q_at t n p1 : Int)) else
  let p2 := q_en t n p1
  if q_tk t n p2 ≠ 2 then .inl (1, (q_at t n p2 : Int)) else
  let ρ2 := q_lay t n p2 ρ1 (59 + 19 * q_n ρ 6 + 10)
  let p3 := q_en t n p2
  if q_is t n p3 21 = false then .inl (1, (q_at t n p3 : Int)) else
  q_bindN (q_num t n (q_en t n p3) 1 9) (fun p4 rk => if q_all (fun k => !(decide (ρ (59 + 19 * k) = rk) && decide (q_sg ρ k = q_wd t n p))) (q_n ρ 6) = true then .inr (p4, q_up (q_up ρ2 (59 + 19 * q_n ρ 6) rk) 6 (ρ 6 + 1)) else .inl (3, (q_at t n (q_en t n p3) : Int)))
def q_lseen (t : Nat → Int) (n p : Nat) (ρ : Nat → Int) : PR := if q_tk t n p ≠ 2 then .inl (1, (q_at t n p : Int)) else if q_all (fun k => decide (q_ss ρ k ≠ q_wd t n p)) (q_n ρ 7) = false then .inl (3, (q_at t n p : Int)) else
  let ρ1 := q_lay t n p ρ (173 + 19 * q_n ρ 7 + 1)
  let p1 := q_en t n p
  if q_is t n p1 10 = true then .inr (q_en t n p1, q_up (q_up ρ1 (173 + 19 * q_n ρ 7) 0) 7 (ρ 7 + 1)) else
  if q_is t n p1 9 = false then .inl (1, (q_at t n p1 : Int)) else
  let p2 := q_en t n p1
  if q_tk t n p2 ≠ 2 then .inl (1, (q_at t n p2 : Int)) else
  .inr (q_en t n p2, q_up (q_up (q_lay t n p2 (q_up ρ1 (173 + 19 * q_n ρ 7) 0) (173 + 19 * q_n ρ 7 + 10)) (173 + 19 * q_n ρ 7) 1) 7 (ρ 7 + 1))
def q_line (t : Nat → Int) (n p : Nat) (ρ : Nat → Int) : PR := if q_is t n p 0 = true then q_lcounty t n p ρ else if q_is t n p 3 = true then q_beg t n p ρ (ρ 2) 7 (fun p1 => q_lsleeper t n p1 ρ) else if q_is t n p 4 = true then q_beg t n p ρ (ρ 3) 3 (fun p1 => q_lawake t n p1 ρ) else if q_is t n p 5 = true then q_beg t n p ρ (ρ 4) 7 (fun p1 => q_lword t n p1 ρ) else if q_is t n p 6 = true then q_beg t n p ρ (ρ 5) 8 (fun p1 => q_lbefore t n p1 ρ) else if q_is t n p 7 = true then q_beg t n p ρ (ρ 6) 6 (fun p1 => q_lorder t n p1 ρ) else if q_is t n p 8 = true then q_beg t n p ρ (ρ 7) 5 (fun p1 => q_lseen t n p1 ρ) else .inl (1, (q_at t n p : Int))
/-- the lines from p on; the fuel: more than the bytes left -/
def q_lines (t : Nat → Int) (n : Nat) : Nat → Nat → (Nat → Int) → (Int × Int) ⊕ (Nat → Int)
  | 0, p, _ => .inl (1, (q_at t n p : Int))
  | f + 1, p, ρ => q_bindR (q_line t n p ρ) (fun p1 ρ1 => if q_tk t n p1 = 59 then q_lines t n f (q_en t n p1) ρ1 else if q_tk t n p1 ≠ 0 then .inl (1, (q_at t n p1 : Int)) else if ρ1 0 = 0 ∨ ρ1 2 = 0 then .inl (6, (q_at t n p1 : Int)) else .inr ρ1)
def q_parse (t : Nat → Int) (n : Nat) : (Int × Int) ⊕ (Nat → Int) := q_lines t n (n + 1) 0 (fun _ => 0)
