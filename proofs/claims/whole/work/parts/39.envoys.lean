def q_gain (w m o : Nat) : Int := if m + o = 0 then 0 else ((w * m / (m + o) : Nat) : Int) - 3 * (m : Int) + (if o < m then 2 else 0)
theorem q_gain_r {w m o : Nat} (hw : w ≤ 99) (hm : m ≤ 6) : -100 ≤ q_gain w m o ∧ q_gain w m o ≤ 1000 := by
  unfold q_gain
  have h1 : w * m / (m + o) ≤ w * m := Nat.div_le_self _ _
  have h2 : w * m ≤ 99 * 6 := Nat.mul_le_mul hw hm
  generalize w * m / (m + o) = q at h1 ⊢
  split
  · omega
  · split <;> omega
def q_rest (w a b : Nat) : Bool := q_all (fun k => decide (q_gain w k b ≤ q_gain w a b) && decide (q_gain w k a ≤ q_gain w b a)) 7
def q_rc (w : Nat) (i : Nat) : Nat := q_cntp (fun i => q_rest w (i / 7) (i % 7)) i
def q_fr (w : Nat) : Nat → Int
  | 0 => -2
  | i + 1 => if q_fr w i = -2 ∧ q_rest w (i / 7) (i % 7) = true then ((10 * (i / 7) + i % 7 : Nat) : Int) else q_fr w i
theorem q_fr_rc (w : Nat) : ∀ i, q_rc w i = 0 ↔ q_fr w i = -2 := by
  intro i
  induction i with
  | zero => exact ⟨fun _ => rfl, fun _ => rfl⟩
  | succ i ih =>
    have e1 : q_rc w (i + 1) = q_rc w i + (if q_rest w (i / 7) (i % 7) then 1 else 0) := rfl
    have e2 : q_fr w (i + 1) = if q_fr w i = -2 ∧ q_rest w (i / 7) (i % 7) = true then ((10 * (i / 7) + i % 7 : Nat) : Int) else q_fr w i := rfl
    rw [e1, e2]
    by_cases hb : q_rest w (i / 7) (i % 7) = true
    · by_cases h : q_fr w i = -2
      · rw [if_pos hb, if_pos ⟨h, hb⟩]
        constructor <;> intro g <;> omega
      · rw [if_pos hb, if_neg (fun g => h g.1)]
        exact ⟨fun g => by omega, fun g => absurd g h⟩
    · rw [if_neg hb, if_neg (fun g => hb g.2), Nat.add_zero]
      exact ih
theorem q_fr_stay (w : Nat) {i : Nat} (h : q_fr w i ≠ -2) : ∀ m, q_fr w (i + m) = q_fr w i := by
  intro m
  induction m with
  | zero => rfl
  | succ m ih =>
    have e : q_fr w (i + m + 1) = if q_fr w (i + m) = -2 ∧ q_rest w ((i + m) / 7) ((i + m) % 7) = true then ((10 * ((i + m) / 7) + (i + m) % 7 : Nat) : Int) else q_fr w (i + m) := rfl
    show q_fr w (i + m + 1) = _
    rw [e, if_neg (fun g => h (ih ▸ g.1))]
    exact ih
theorem q_rc_le (w : Nat) : ∀ i, q_rc w i ≤ i := by
  intro i
  induction i with
  | zero => exact Nat.le_refl 0
  | succ i ih =>
    have e1 : q_rc w (i + 1) = q_rc w i + (if q_rest w (i / 7) (i % 7) then 1 else 0) := rfl
    rw [e1]
    split <;> omega
def pa_envoys (h : Int) (w a b o : Int) : Int × Int := if h = 0 then (-100, 1) else if 0 ≤ w ∧ w ≤ 99 ∧ 0 ≤ a ∧ a ≤ 6 ∧ 0 ≤ b ∧ b ≤ 6 then ((if o = 0 then q_gain w.toNat a.toNat b.toNat else q_gain w.toNat b.toNat a.toNat), 0) else (-100, 2)
def pa_rests (h : Int) (w : Int) : Int × Int := if h = 0 then (-1, 1) else if 0 ≤ w ∧ w ≤ 99 then ((q_rc w.toNat 49 : Int), 0) else (-1, 2)
def pa_rest (h : Int) (w : Int) : Int × Int := if h = 0 then (-1, 1) else if 0 ≤ w ∧ w ≤ 99 then (q_fr w.toNat 49, 0) else (-1, 2)
theorem s_gain {l : Launch} {X : ZX} {M : ZM} {w m k : Nat} (hw : w ≤ 99) (hm : m ≤ 6) (ho : k ≤ 6) : zCi l X 0 yX11_gain tX11_gain [zi (w : Int), zi (m : Int), zi (k : Int)] M (fun a M' => a = q_gain w m k ∧ M' = M) := by
  have hdv : z_idiv ((w : Int) * (m : Int)) ((m : Int) + (k : Int)) = ((w * m / (m + k) : Nat) : Int) := by
    have h2 : w * m ≤ 99 * 6 := Nat.mul_le_mul hw hm
    have h := z_idiv_n (w * m) (m + k) (by omega) (by omega)
    rw [← h]
    congr 1
  refine zC.of [some (zi (w : Int)), some (zi (m : Int)), some (zi (k : Int)), none, none] (by decide +kernel) rfl rfl (Nat.le_of_ble_eq_true rfl) rfl ?_
  refine p_iload_n 1 dX11_gain_0 rfl rfl ?_
  refine p_iload_n 2 dX11_gain_1 rfl rfl ?_
  refine p_iadd 3 dX11_gain_2 ?_
  refine p_istore_n 4 dX11_gain_3 rfl (Nat.le_of_ble_eq_true rfl) rfl rfl ?_
  dsimp only [List.set]
  refine p_iload_n 5 dX11_gain_4 rfl rfl ?_
  refine p_if_le 16 8 dX11_gain_5 (by omega) (by omega) (fun h5 => ?_) (fun h5 => ?_)
  · refine p_iconst 17 dX11_gain_16 ?_
    refine p_istore 19 dX11_gain_17 (Nat.le_of_ble_eq_true rfl) rfl rfl ?_
    dsimp only [List.set]
    refine p_iload 21 dX11_gain_19 rfl ?_
    refine p_iconst 22 dX11_gain_21 ?_
    refine p_iload_n 23 dX11_gain_22 rfl rfl ?_
    refine p_imul 24 dX11_gain_23 ?_
    refine p_isub 25 dX11_gain_24 ?_
    refine p_iload_n 26 dX11_gain_25 rfl rfl ?_
    refine p_iload_n 27 dX11_gain_26 rfl rfl ?_
    refine p_icmp_le 34 30 dX11_gain_27 (by omega) (by omega) (by omega) (by omega) (fun h27 => ?_) (fun h27 => ?_)
    · refine p_iconst 35 dX11_gain_34 ?_
      refine p_iadd 36 dX11_gain_35 ?_
      refine p_iret dX11_gain_36 rfl ?_
      refine ⟨_, rfl, ?_, rfl⟩
      unfold q_gain
      first
        | (rw [if_neg (by omega), if_pos (by omega), hdv]; done)
        | (rw [if_neg (by omega), if_neg (by omega), hdv]; done)
        | (rw [if_pos (by omega)]; try omega)
    · refine p_iconst 31 dX11_gain_30 ?_
      refine p_goto 35 dX11_gain_31 ?_
      refine p_iadd 36 dX11_gain_35 ?_
      refine p_iret dX11_gain_36 rfl ?_
      refine ⟨_, rfl, ?_, rfl⟩
      unfold q_gain
      first
        | (rw [if_neg (by omega), if_pos (by omega), hdv]; done)
        | (rw [if_neg (by omega), if_neg (by omega), hdv]; done)
        | (rw [if_pos (by omega)]; try omega)
  · refine p_iload_n 9 dX11_gain_8 rfl rfl ?_
    refine p_iload_n 10 dX11_gain_9 rfl rfl ?_
    refine p_imul 11 dX11_gain_10 ?_
    refine p_iload_n 12 dX11_gain_11 rfl rfl ?_
    refine p_idiv 13 dX11_gain_12 (by rw [w32_id (by omega) (by omega)]; omega) ?_
    refine p_goto 17 dX11_gain_13 ?_
    refine p_istore 19 dX11_gain_17 (Nat.le_of_ble_eq_true rfl) rfl rfl ?_
    dsimp only [List.set]
    refine p_iload 21 dX11_gain_19 rfl ?_
    refine p_iconst 22 dX11_gain_21 ?_
    refine p_iload_n 23 dX11_gain_22 rfl rfl ?_
    refine p_imul 24 dX11_gain_23 ?_
    refine p_isub 25 dX11_gain_24 ?_
    refine p_iload_n 26 dX11_gain_25 rfl rfl ?_
    refine p_iload_n 27 dX11_gain_26 rfl rfl ?_
    refine p_icmp_le 34 30 dX11_gain_27 (by omega) (by omega) (by omega) (by omega) (fun h27 => ?_) (fun h27 => ?_)
    · refine p_iconst 35 dX11_gain_34 ?_
      refine p_iadd 36 dX11_gain_35 ?_
      refine p_iret dX11_gain_36 rfl ?_
      refine ⟨_, rfl, ?_, rfl⟩
      unfold q_gain
      first
        | (rw [if_neg (by omega), if_pos (by omega), hdv]; done)
        | (rw [if_neg (by omega), if_neg (by omega), hdv]; done)
        | (rw [if_pos (by omega)]; try omega)
    · refine p_iconst 31 dX11_gain_30 ?_
      refine p_goto 35 dX11_gain_31 ?_
      refine p_iadd 36 dX11_gain_35 ?_
      refine p_iret dX11_gain_36 rfl ?_
      refine ⟨_, rfl, ?_, rfl⟩
      unfold q_gain
      first
        | (rw [if_neg (by omega), if_pos (by omega), hdv]; done)
        | (rw [if_neg (by omega), if_neg (by omega), hdv]; done)
        | (rw [if_pos (by omega)]; try omega)
theorem s_envoysOf {l : Launch} {X : ZX} {M : ZM} {w m k : Nat} (hw : w ≤ 99) (hm : m ≤ 6) (ho : k ≤ 6) : zCi l X 0 yX12_envoysOf tX12_envoysOf [zi (w : Int), zi (m : Int), zi (k : Int)] M (fun a M' => a = q_gain w m k ∧ M' = M) := by
  have hdv : z_idiv ((w : Int) * (m : Int)) ((m : Int) + (k : Int)) = ((w * m / (m + k) : Nat) : Int) := by
    have h2 : w * m ≤ 99 * 6 := Nat.mul_le_mul hw hm
    have h := z_idiv_n (w * m) (m + k) (by omega) (by omega)
    rw [← h]
    congr 1
  refine zC.of [some (zi (w : Int)), some (zi (m : Int)), some (zi (k : Int))] (by decide +kernel) rfl rfl (Nat.le_of_ble_eq_true rfl) rfl ?_
  refine p_iload_n 1 dX12_envoysOf_0 rfl rfl ?_
  refine p_iload_n 2 dX12_envoysOf_1 rfl rfl ?_
  refine p_iadd 3 dX12_envoysOf_2 ?_
  refine p_if_ne 10 6 dX12_envoysOf_3 (by omega) (by omega) (fun h3 => ?_) (fun h3 => ?_)
  · refine p_iload_n 11 dX12_envoysOf_10 rfl rfl ?_
    refine p_iload_n 12 dX12_envoysOf_11 rfl rfl ?_
    refine p_imul 13 dX12_envoysOf_12 ?_
    refine p_iload_n 14 dX12_envoysOf_13 rfl rfl ?_
    refine p_iload_n 15 dX12_envoysOf_14 rfl rfl ?_
    refine p_iadd 16 dX12_envoysOf_15 ?_
    refine p_idiv 17 dX12_envoysOf_16 (by rw [w32_id (by omega) (by omega)]; omega) ?_
    refine p_iconst 18 dX12_envoysOf_17 ?_
    refine p_iload_n 19 dX12_envoysOf_18 rfl rfl ?_
    refine p_imul 20 dX12_envoysOf_19 ?_
    refine p_isub 21 dX12_envoysOf_20 ?_
    refine p_iload_n 22 dX12_envoysOf_21 rfl rfl ?_
    refine p_iload_n 23 dX12_envoysOf_22 rfl rfl ?_
    refine p_icmp_le 30 26 dX12_envoysOf_23 (by omega) (by omega) (by omega) (by omega) (fun h23 => ?_) (fun h23 => ?_)
    · refine p_iconst 31 dX12_envoysOf_30 ?_
      refine p_iadd 32 dX12_envoysOf_31 ?_
      refine p_iret dX12_envoysOf_32 rfl ?_
      refine ⟨_, rfl, ?_, rfl⟩
      unfold q_gain
      first
        | (rw [if_neg (by omega), if_pos (by omega), hdv]; done)
        | (rw [if_neg (by omega), if_neg (by omega), hdv]; done)
        | (rw [if_pos (by omega)]; try omega)
    · refine p_iconst 27 dX12_envoysOf_26 ?_
      refine p_goto 31 dX12_envoysOf_27 ?_
      refine p_iadd 32 dX12_envoysOf_31 ?_
      refine p_iret dX12_envoysOf_32 rfl ?_
      refine ⟨_, rfl, ?_, rfl⟩
      unfold q_gain
      first
        | (rw [if_neg (by omega), if_pos (by omega), hdv]; done)
        | (rw [if_neg (by omega), if_neg (by omega), hdv]; done)
        | (rw [if_pos (by omega)]; try omega)
  · refine p_iconst 7 dX12_envoysOf_6 ?_
    refine p_goto 32 dX12_envoysOf_7 ?_
    refine p_iret dX12_envoysOf_32 rfl ?_
    refine ⟨_, rfl, ?_, rfl⟩
    unfold q_gain
    first
      | (rw [if_neg (by omega), if_pos (by omega), hdv]; done)
      | (rw [if_neg (by omega), if_neg (by omega), hdv]; done)
      | (rw [if_pos (by omega)]; try omega)
theorem q_all_mono {p : Nat → Bool} {n m : Nat} (h : n ≤ m) (hf : q_all p n = false) : q_all p m = false := by
  induction m with
  | zero => rw [Nat.le_zero.mp h] at hf; exact hf
  | succ m ih =>
    by_cases e : n = m + 1
    · rw [← e]; exact hf
    · show (q_all p m && p m) = false
      rw [ih (by omega)]
      rfl
theorem l_isRestC {l : Launch} {X : ZX} {M : ZM} {w a b : Nat} (hw : w ≤ 99) (ha : a ≤ 6) (hb : b ≤ 6) : ∀ (j i : Nat), i + j = 7 → q_all (fun k => decide (q_gain w k b ≤ q_gain w a b) && decide (q_gain w k a ≤ q_gain w b a)) i = true → zP l X 1 tX11_isRest 18 [some (zi (w : Int)), some (zi (a : Int)), some (zi (b : Int)), some (zi (q_gain w a b)), some (zi (q_gain w b a)), some (zi (i : Int))] [] M (fun r M' => ∃ x, r = some (zi x) ∧ (x = (if q_rest w a b = true then 1 else 0) ∧ M' = M)) := by
  have r1 := q_gain_r (w := w) (m := a) (o := b) hw ha
  have r2 := q_gain_r (w := w) (m := b) (o := a) hw hb
  intro j
  induction j with
  | zero =>
    intro i hi hq
    refine p_iload 20 dX11_isRest_18 rfl ?_
    refine p_bipush 22 dX11_isRest_20 rfl ?_
    refine p_icmp_gt 56 25 dX11_isRest_22 (by omega) (by omega) (by omega) (by omega) (fun h22 => ?_) (fun h22 => absurd (by omega) (fun h9 : False => h9))
    refine p_iconst 57 dX11_isRest_56 ?_
    refine p_zret dX11_isRest_57 rfl (by decide) ?_
    refine ⟨_, rfl, ?_, rfl⟩
    rw [Nat.add_zero] at hi
    subst hi
    unfold q_rest
    rw [if_pos hq]
  | succ j ih =>
    intro i hi hq
    have r3 := q_gain_r (w := w) (m := i) (o := b) hw (by omega)
    have r4 := q_gain_r (w := w) (m := i) (o := a) hw (by omega)
    refine p_iload 20 dX11_isRest_18 rfl ?_
    refine p_bipush 22 dX11_isRest_20 rfl ?_
    refine p_icmp_gt 56 25 dX11_isRest_22 (by omega) (by omega) (by omega) (by omega) (fun h22 => absurd (by omega) (fun h9 : False => h9)) (fun h22 => ?_)
    refine p_iload_n 26 dX11_isRest_25 rfl rfl ?_
    refine p_iload 28 dX11_isRest_26 rfl ?_
    refine p_iload_n 29 dX11_isRest_28 rfl rfl ?_
    refine p_callS3i 32 dX11_isRest_29 (s_gain hw (m := i) (k := b) (by omega) hb) lk_X11_308 mX11_gain (by decide) (Nat.le_of_ble_eq_true rfl) ?_
    rintro _ _ ⟨rfl, e9⟩
    have e9 := e9.symm
    subst e9
    refine p_iload_n 33 dX11_isRest_32 rfl rfl ?_
    refine p_icmp_gt 48 36 dX11_isRest_33 (by omega) (by omega) (by omega) (by omega) (fun h33 => ?_) (fun h33 => ?_)
    · refine p_iconst 49 dX11_isRest_48 ?_
      refine p_zret dX11_isRest_49 rfl (by decide) ?_
      refine ⟨_, rfl, ?_, rfl⟩
      have hf : q_all (fun k => decide (q_gain w k b ≤ q_gain w a b) && decide (q_gain w k a ≤ q_gain w b a)) (i + 1) = false := by
        show (q_all (fun k => decide (q_gain w k b ≤ q_gain w a b) && decide (q_gain w k a ≤ q_gain w b a)) i && (decide (q_gain w i b ≤ q_gain w a b) && decide (q_gain w i a ≤ q_gain w b a))) = false
        first
          | (rw [show decide (q_gain w i b ≤ q_gain w a b) = false from decide_eq_false (by omega)]; simp)
          | (rw [show decide (q_gain w i a ≤ q_gain w b a) = false from decide_eq_false (by omega)]; simp)
      unfold q_rest
      rw [q_all_mono (show i + 1 ≤ 7 by omega) hf, if_neg (by decide)]
    · refine p_iload_n 37 dX11_isRest_36 rfl rfl ?_
      refine p_iload 39 dX11_isRest_37 rfl ?_
      refine p_iload_n 40 dX11_isRest_39 rfl rfl ?_
      refine p_callS3i 43 dX11_isRest_40 (s_gain hw (m := i) (k := a) (by omega) ha) lk_X11_308 mX11_gain (by decide) (Nat.le_of_ble_eq_true rfl) ?_
      rintro _ _ ⟨rfl, e9⟩
      have e9 := e9.symm
      subst e9
      refine p_iload 45 dX11_isRest_43 rfl ?_
      refine p_icmp_le 50 48 dX11_isRest_45 (by omega) (by omega) (by omega) (by omega) (fun h45 => ?_) (fun h45 => ?_)
      · refine p_iinc 53 dX11_isRest_50 rfl rfl rfl ?_
        dsimp only [List.set]
        refine p_goto 18 dX11_isRest_53 ?_
        refine ih (i + 1) (by omega) ?_
        show (q_all (fun k => decide (q_gain w k b ≤ q_gain w a b) && decide (q_gain w k a ≤ q_gain w b a)) i && (decide (q_gain w i b ≤ q_gain w a b) && decide (q_gain w i a ≤ q_gain w b a))) = true
        rw [hq, show decide (q_gain w i b ≤ q_gain w a b) = true from decide_eq_true (by omega), show decide (q_gain w i a ≤ q_gain w b a) = true from decide_eq_true (by omega)]
        rfl
      · refine p_iconst 49 dX11_isRest_48 ?_
        refine p_zret dX11_isRest_49 rfl (by decide) ?_
        refine ⟨_, rfl, ?_, rfl⟩
        have hf : q_all (fun k => decide (q_gain w k b ≤ q_gain w a b) && decide (q_gain w k a ≤ q_gain w b a)) (i + 1) = false := by
          show (q_all (fun k => decide (q_gain w k b ≤ q_gain w a b) && decide (q_gain w k a ≤ q_gain w b a)) i && (decide (q_gain w i b ≤ q_gain w a b) && decide (q_gain w i a ≤ q_gain w b a))) = false
          first
            | (rw [show decide (q_gain w i b ≤ q_gain w a b) = false from decide_eq_false (by omega)]; simp)
            | (rw [show decide (q_gain w i a ≤ q_gain w b a) = false from decide_eq_false (by omega)]; simp)
        unfold q_rest
        rw [q_all_mono (show i + 1 ≤ 7 by omega) hf, if_neg (by decide)]
theorem s_isRestC {l : Launch} {X : ZX} {M : ZM} {w a b : Nat} (hw : w ≤ 99) (ha : a ≤ 6) (hb : b ≤ 6) : zCi l X 1 yX11_isRest tX11_isRest [zi (w : Int), zi (a : Int), zi (b : Int)] M (fun x M' => x = (if q_rest w a b = true then 1 else 0) ∧ M' = M) := by
  refine zC.of [some (zi (w : Int)), some (zi (a : Int)), some (zi (b : Int)), none, none, none] (by decide +kernel) rfl rfl (Nat.le_of_ble_eq_true rfl) rfl ?_
  refine p_iload_n 1 dX11_isRest_0 rfl rfl ?_
  refine p_iload_n 2 dX11_isRest_1 rfl rfl ?_
  refine p_iload_n 3 dX11_isRest_2 rfl rfl ?_
  refine p_callS3i 6 dX11_isRest_3 (s_gain hw (m := a) (k := b) ha hb) lk_X11_308 mX11_gain (by decide) (Nat.le_of_ble_eq_true rfl) ?_
  rintro _ _ ⟨rfl, e9⟩
  have e9 := e9.symm
  subst e9
  refine p_istore_n 7 dX11_isRest_6 rfl (Nat.le_of_ble_eq_true rfl) rfl rfl ?_
  dsimp only [List.set]
  refine p_iload_n 8 dX11_isRest_7 rfl rfl ?_
  refine p_iload_n 9 dX11_isRest_8 rfl rfl ?_
  refine p_iload_n 10 dX11_isRest_9 rfl rfl ?_
  refine p_callS3i 13 dX11_isRest_10 (s_gain hw (m := b) (k := a) hb ha) lk_X11_308 mX11_gain (by decide) (Nat.le_of_ble_eq_true rfl) ?_
  rintro _ _ ⟨rfl, e9⟩
  have e9 := e9.symm
  subst e9
  refine p_istore 15 dX11_isRest_13 (Nat.le_of_ble_eq_true rfl) rfl rfl ?_
  dsimp only [List.set]
  refine p_iconst 16 dX11_isRest_15 ?_
  refine p_istore 18 dX11_isRest_16 (Nat.le_of_ble_eq_true rfl) rfl rfl ?_
  dsimp only [List.set]
  exact l_isRestC hw ha hb 7 0 rfl rfl
theorem l_isRestM {l : Launch} {X : ZX} {M : ZM} {w a b : Nat} (hw : w ≤ 99) (ha : a ≤ 6) (hb : b ≤ 6) : ∀ (j i : Nat), i + j = 7 → zP l X 1 tX12_isRest 5 [some (zi (w : Int)), some (zi (a : Int)), some (zi (b : Int)), some (zi (if q_all (fun k => decide (q_gain w k b ≤ q_gain w a b) && decide (q_gain w k a ≤ q_gain w b a)) i = true then 1 else 0)), some (zi (i : Int))] [] M (fun r M' => ∃ x, r = some (zi x) ∧ (x = (if q_rest w a b = true then 1 else 0) ∧ M' = M)) := by
  have r1 := q_gain_r (w := w) (m := a) (o := b) hw ha
  have r2 := q_gain_r (w := w) (m := b) (o := a) hw hb
  intro j
  induction j with
  | zero =>
    intro i hi
    refine p_iload 7 dX12_isRest_5 rfl ?_
    refine p_bipush 9 dX12_isRest_7 rfl ?_
    refine p_icmp_gt 60 12 dX12_isRest_9 (by omega) (by omega) (by omega) (by omega) (fun h9 => ?_) (fun h9 => absurd (by omega) (fun h9 : False => h9))
    refine p_iload_n 61 dX12_isRest_60 rfl rfl ?_
    refine p_zret dX12_isRest_61 rfl (by split <;> simp) ?_
    refine ⟨_, rfl, ?_, rfl⟩
    rw [Nat.add_zero] at hi
    subst hi
    rfl
  | succ j ih =>
    intro i hi
    have r3 := q_gain_r (w := w) (m := i) (o := b) hw (by omega)
    have r4 := q_gain_r (w := w) (m := i) (o := a) hw (by omega)
    refine p_iload 7 dX12_isRest_5 rfl ?_
    refine p_bipush 9 dX12_isRest_7 rfl ?_
    refine p_icmp_gt 60 12 dX12_isRest_9 (by omega) (by omega) (by omega) (by omega) (fun h9 => absurd (by omega) (fun h9 : False => h9)) (fun h9 => ?_)
    refine p_iload_n 13 dX12_isRest_12 rfl rfl ?_
    refine p_if_eq 52 16 dX12_isRest_13 (by split <;> omega) (by split <;> omega) (fun h13 => ?_) (fun h13 => ?_)
    · have h13 := if_eq0 h13
      refine p_iconst 53 dX12_isRest_52 ?_
      refine p_istore_n 54 dX12_isRest_53 rfl (Nat.le_of_ble_eq_true rfl) rfl rfl ?_
      dsimp only [List.set]
      refine p_iinc 57 dX12_isRest_54 rfl rfl rfl ?_
      dsimp only [List.set]
      refine p_goto 5 dX12_isRest_57 ?_
      have e := ih (i + 1) (by omega)
      have er : q_all (fun k => decide (q_gain w k b ≤ q_gain w a b) && decide (q_gain w k a ≤ q_gain w b a)) (i + 1) = (q_all (fun k => decide (q_gain w k b ≤ q_gain w a b) && decide (q_gain w k a ≤ q_gain w b a)) i && (decide (q_gain w i b ≤ q_gain w a b) && decide (q_gain w i a ≤ q_gain w b a))) := rfl
      rw [er] at e
      first
        | (rw [if_neg (by
             intro g
             simp only [Bool.and_eq_true, decide_eq_true_eq] at g
             first | exact h13 g.1 | omega)] at e
           exact e)
        | (rw [h13, show decide (q_gain w i b ≤ q_gain w a b) = true from decide_eq_true (by omega), show decide (q_gain w i a ≤ q_gain w b a) = true from decide_eq_true (by omega)] at e
           exact e)
    · have h13 := if_neq0 h13
      refine p_iload_n 17 dX12_isRest_16 rfl rfl ?_
      refine p_iload 19 dX12_isRest_17 rfl ?_
      refine p_iload_n 20 dX12_isRest_19 rfl rfl ?_
      refine p_callS3i 23 dX12_isRest_20 (s_envoysOf hw (m := i) (k := b) (by omega) hb) lk_X12_406 mX12_envoysOf (by decide) (Nat.le_of_ble_eq_true rfl) ?_
      rintro _ _ ⟨rfl, e9⟩
      have e9 := e9.symm
      subst e9
      refine p_iload_n 24 dX12_isRest_23 rfl rfl ?_
      refine p_iload_n 25 dX12_isRest_24 rfl rfl ?_
      refine p_iload_n 26 dX12_isRest_25 rfl rfl ?_
      refine p_callS3i 29 dX12_isRest_26 (s_envoysOf hw (m := a) (k := b) ha hb) lk_X12_406 mX12_envoysOf (by decide) (Nat.le_of_ble_eq_true rfl) ?_
      rintro _ _ ⟨rfl, e9⟩
      have e9 := e9.symm
      subst e9
      refine p_icmp_gt 52 32 dX12_isRest_29 (by omega) (by omega) (by omega) (by omega) (fun h29 => ?_) (fun h29 => ?_)
      · refine p_iconst 53 dX12_isRest_52 ?_
        refine p_istore_n 54 dX12_isRest_53 rfl (Nat.le_of_ble_eq_true rfl) rfl rfl ?_
        dsimp only [List.set]
        refine p_iinc 57 dX12_isRest_54 rfl rfl rfl ?_
        dsimp only [List.set]
        refine p_goto 5 dX12_isRest_57 ?_
        have e := ih (i + 1) (by omega)
        have er : q_all (fun k => decide (q_gain w k b ≤ q_gain w a b) && decide (q_gain w k a ≤ q_gain w b a)) (i + 1) = (q_all (fun k => decide (q_gain w k b ≤ q_gain w a b) && decide (q_gain w k a ≤ q_gain w b a)) i && (decide (q_gain w i b ≤ q_gain w a b) && decide (q_gain w i a ≤ q_gain w b a))) := rfl
        rw [er] at e
        first
          | (rw [if_neg (by
               intro g
               simp only [Bool.and_eq_true, decide_eq_true_eq] at g
               first | exact h13 g.1 | omega)] at e
             exact e)
          | (rw [h13, show decide (q_gain w i b ≤ q_gain w a b) = true from decide_eq_true (by omega), show decide (q_gain w i a ≤ q_gain w b a) = true from decide_eq_true (by omega)] at e
             exact e)
      · refine p_iload_n 33 dX12_isRest_32 rfl rfl ?_
        refine p_iload 35 dX12_isRest_33 rfl ?_
        refine p_iload_n 36 dX12_isRest_35 rfl rfl ?_
        refine p_callS3i 39 dX12_isRest_36 (s_envoysOf hw (m := i) (k := a) (by omega) ha) lk_X12_406 mX12_envoysOf (by decide) (Nat.le_of_ble_eq_true rfl) ?_
        rintro _ _ ⟨rfl, e9⟩
        have e9 := e9.symm
        subst e9
        refine p_iload_n 40 dX12_isRest_39 rfl rfl ?_
        refine p_iload_n 41 dX12_isRest_40 rfl rfl ?_
        refine p_iload_n 42 dX12_isRest_41 rfl rfl ?_
        refine p_callS3i 45 dX12_isRest_42 (s_envoysOf hw (m := b) (k := a) hb ha) lk_X12_406 mX12_envoysOf (by decide) (Nat.le_of_ble_eq_true rfl) ?_
        rintro _ _ ⟨rfl, e9⟩
        have e9 := e9.symm
        subst e9
        refine p_icmp_gt 52 48 dX12_isRest_45 (by omega) (by omega) (by omega) (by omega) (fun h45 => ?_) (fun h45 => ?_)
        · refine p_iconst 53 dX12_isRest_52 ?_
          refine p_istore_n 54 dX12_isRest_53 rfl (Nat.le_of_ble_eq_true rfl) rfl rfl ?_
          dsimp only [List.set]
          refine p_iinc 57 dX12_isRest_54 rfl rfl rfl ?_
          dsimp only [List.set]
          refine p_goto 5 dX12_isRest_57 ?_
          have e := ih (i + 1) (by omega)
          have er : q_all (fun k => decide (q_gain w k b ≤ q_gain w a b) && decide (q_gain w k a ≤ q_gain w b a)) (i + 1) = (q_all (fun k => decide (q_gain w k b ≤ q_gain w a b) && decide (q_gain w k a ≤ q_gain w b a)) i && (decide (q_gain w i b ≤ q_gain w a b) && decide (q_gain w i a ≤ q_gain w b a))) := rfl
          rw [er] at e
          first
            | (rw [if_neg (by
                 intro g
                 simp only [Bool.and_eq_true, decide_eq_true_eq] at g
                 first | exact h13 g.1 | omega)] at e
               exact e)
            | (rw [h13, show decide (q_gain w i b ≤ q_gain w a b) = true from decide_eq_true (by omega), show decide (q_gain w i a ≤ q_gain w b a) = true from decide_eq_true (by omega)] at e
               exact e)
        · refine p_iconst 49 dX12_isRest_48 ?_
          refine p_goto 53 dX12_isRest_49 ?_
          refine p_istore_n 54 dX12_isRest_53 rfl (Nat.le_of_ble_eq_true rfl) rfl rfl ?_
          dsimp only [List.set]
          refine p_iinc 57 dX12_isRest_54 rfl rfl rfl ?_
          dsimp only [List.set]
          refine p_goto 5 dX12_isRest_57 ?_
          have e := ih (i + 1) (by omega)
          have er : q_all (fun k => decide (q_gain w k b ≤ q_gain w a b) && decide (q_gain w k a ≤ q_gain w b a)) (i + 1) = (q_all (fun k => decide (q_gain w k b ≤ q_gain w a b) && decide (q_gain w k a ≤ q_gain w b a)) i && (decide (q_gain w i b ≤ q_gain w a b) && decide (q_gain w i a ≤ q_gain w b a))) := rfl
          rw [er] at e
          first
            | (rw [if_neg (by
                 intro g
                 simp only [Bool.and_eq_true, decide_eq_true_eq] at g
                 first | exact h13 g.1 | omega)] at e
               exact e)
            | (rw [h13, show decide (q_gain w i b ≤ q_gain w a b) = true from decide_eq_true (by omega), show decide (q_gain w i a ≤ q_gain w b a) = true from decide_eq_true (by omega)] at e
               exact e)
theorem s_isRestM {l : Launch} {X : ZX} {M : ZM} {w a b : Nat} (hw : w ≤ 99) (ha : a ≤ 6) (hb : b ≤ 6) : zCi l X 1 yX12_isRest tX12_isRest [zi (w : Int), zi (a : Int), zi (b : Int)] M (fun x M' => x = (if q_rest w a b = true then 1 else 0) ∧ M' = M) := by
  refine zC.of [some (zi (w : Int)), some (zi (a : Int)), some (zi (b : Int)), none, none] (by decide +kernel) rfl rfl (Nat.le_of_ble_eq_true rfl) rfl ?_
  refine p_iconst 1 dX12_isRest_0 ?_
  refine p_istore_n 2 dX12_isRest_1 rfl (Nat.le_of_ble_eq_true rfl) rfl rfl ?_
  dsimp only [List.set]
  refine p_iconst 3 dX12_isRest_2 ?_
  refine p_istore 5 dX12_isRest_3 (Nat.le_of_ble_eq_true rfl) rfl rfl ?_
  dsimp only [List.set]
  exact l_isRestM hw ha hb 7 0 rfl
theorem zset_zset (M : ZM) (c k : Nat) (u v : Int) : zset (zset M c k u) c k v = zset M c k v := by
  funext a b
  unfold zset
  split
  · split <;> rfl
  · rfl
theorem l_restsB {l : Launch} {X : ZX} {M : ZM} {w : Nat} (hw : w ≤ 99) {a : Nat} (ha : a ≤ 6) {Q : Option ZV → ZM → Prop} (kk : ∀ o : List (Option ZV), o = [some (zr 0), some (zi (w : Int)), some (zi (q_rc w (7 * a + 7) : Int)), some (zi (a : Int)), some (zi ((7 : Nat) : Int))] → zP l X 2 tX11_rests 68 o [] M Q) : ∀ (j i : Nat), i + j = 7 → zP l X 2 tX11_rests 42 [some (zr 0), some (zi (w : Int)), some (zi (q_rc w (7 * a + i) : Int)), some (zi (a : Int)), some (zi (i : Int))] [] M (Q) := by
  intro j
  induction j with
  | zero =>
    intro i hi
    refine p_iload 44 dX11_rests_42 rfl ?_
    refine p_bipush 46 dX11_rests_44 rfl ?_
    refine p_icmp_gt 68 49 dX11_rests_46 (by omega) (by omega) (by omega) (by omega) (fun h46 => ?_) (fun h46 => absurd (by omega) (fun h9 : False => h9))
    rw [Nat.add_zero] at hi
    subst hi
    exact kk _ rfl
  | succ j ih =>
    intro i hi
    refine p_iload 44 dX11_rests_42 rfl ?_
    refine p_bipush 46 dX11_rests_44 rfl ?_
    refine p_icmp_gt 68 49 dX11_rests_46 (by omega) (by omega) (by omega) (by omega) (fun h46 => absurd (by omega) (fun h9 : False => h9)) (fun h46 => ?_)
    refine p_iload_n 50 dX11_rests_49 rfl rfl ?_
    refine p_iload_n 51 dX11_rests_50 rfl rfl ?_
    refine p_iload 53 dX11_rests_51 rfl ?_
    refine p_callS3i 56 dX11_rests_53 (s_isRestC hw (a := a) (b := i) ha (by omega)) lk_X11_312 mX11_isRest (by decide) (Nat.le_of_ble_eq_true rfl) ?_
    rintro _ _ ⟨rfl, e9⟩
    have e9 := e9.symm
    subst e9
    refine p_if_eq 62 59 dX11_rests_56 (by split <;> omega) (by split <;> omega) (fun h56 => ?_) (fun h56 => ?_)
    · have h56 := if_eq0 h56
      refine p_iinc 65 dX11_rests_62 rfl rfl rfl ?_
      dsimp only [List.set]
      refine p_goto 42 dX11_rests_65 ?_
      have e := ih (i + 1) (by omega)
      have er : q_rc w (7 * a + i + 1) = q_rc w (7 * a + i) + (if q_rest w ((7 * a + i) / 7) ((7 * a + i) % 7) then 1 else 0) := rfl
      rw [show (7 * a + i) / 7 = a by omega, show (7 * a + i) % 7 = i by omega] at er
      rw [show 7 * a + (i + 1) = 7 * a + i + 1 by omega, er] at e
      first
        | (rw [if_neg h56, Nat.add_zero] at e; exact e)
        | (rw [if_pos h56] at e; exact e)
    · have h56 := if_neq0 h56
      refine p_iinc 62 dX11_rests_59 rfl rfl rfl ?_
      dsimp only [List.set]
      refine p_iinc 65 dX11_rests_62 rfl rfl rfl ?_
      dsimp only [List.set]
      refine p_goto 42 dX11_rests_65 ?_
      have e := ih (i + 1) (by omega)
      have er : q_rc w (7 * a + i + 1) = q_rc w (7 * a + i) + (if q_rest w ((7 * a + i) / 7) ((7 * a + i) % 7) then 1 else 0) := rfl
      rw [show (7 * a + i) / 7 = a by omega, show (7 * a + i) % 7 = i by omega] at er
      rw [show 7 * a + (i + 1) = 7 * a + i + 1 by omega, er] at e
      first
        | (rw [if_neg h56, Nat.add_zero] at e; exact e)
        | (rw [if_pos h56] at e; exact e)
theorem l_restsA {l : Launch} {X : ZX} {M : ZM} {w : Nat} (hw : w ≤ 99) {Q : Option ZV → ZM → Prop} (kk : ∀ o : List (Option ZV), (∃ o4, o = [some (zr 0), some (zi (w : Int)), some (zi (q_rc w 49 : Int)), some (zi ((7 : Nat) : Int)), o4]) → zP l X 2 tX11_rests 74 o [] M Q) : ∀ (j i : Nat), i + j = 7 → ∀ o4 : Option ZV, zP l X 2 tX11_rests 33 [some (zr 0), some (zi (w : Int)), some (zi (q_rc w (7 * i) : Int)), some (zi (i : Int)), o4] [] M (Q) := by
  intro j
  induction j with
  | zero =>
    intro i hi o4
    refine p_iload_n 34 dX11_rests_33 rfl rfl ?_
    refine p_bipush 36 dX11_rests_34 rfl ?_
    refine p_icmp_gt 74 39 dX11_rests_36 (by omega) (by omega) (by omega) (by omega) (fun h36 => ?_) (fun h36 => absurd (by omega) (fun h9 : False => h9))
    rw [Nat.add_zero] at hi
    subst hi
    exact kk _ ⟨o4, rfl⟩
  | succ j ih =>
    intro i hi o4
    refine p_iload_n 34 dX11_rests_33 rfl rfl ?_
    refine p_bipush 36 dX11_rests_34 rfl ?_
    refine p_icmp_gt 74 39 dX11_rests_36 (by omega) (by omega) (by omega) (by omega) (fun h36 => absurd (by omega) (fun h9 : False => h9)) (fun h36 => ?_)
    refine p_iconst 40 dX11_rests_39 ?_
    refine p_istore 42 dX11_rests_40 (Nat.le_of_ble_eq_true rfl) rfl rfl ?_
    dsimp only [List.set]
    refine l_restsB hw (a := i) (by omega) (fun o ho => ?_) 7 0 rfl
    subst ho
    refine p_iinc 71 dX11_rests_68 rfl rfl rfl ?_
    dsimp only [List.set]
    refine p_goto 33 dX11_rests_71 ?_
    exact ih (i + 1) (by omega) _
theorem c_rests {l : Launch} {X : ZX} {M : ZM} (hI : IC M M) (hF : WF M) {v : Int} (hv1 : -2147483648 ≤ v) (hv2 : v < 2147483648) : zCi l X 2 yX11_rests tX11_rests [zr 0, zi v] M (CQ M (pa_rests (M 124 14) v)) := by
  obtain ⟨hW, ⟨c, c', hcc, hco, hsp, hC⟩, ⟨j1, j2, j3, j4, j5⟩, hN, hpast, hten, ⟨hz0, hsea⟩, hfit⟩ := id hI
  have hR := hF.r
  have hT := hF.t
  have hh := hF.h
  have e0 : M 127 0 = (q_n (M 127) 0 : Int) := hR.n (by decide)
  have e2 : M 127 2 = (q_n (M 127) 2 : Int) := hR.n (by decide)
  have e3 : M 127 3 = (q_n (M 127) 3 : Int) := hR.n (by decide)
  have e4 : M 127 4 = (q_n (M 127) 4 : Int) := hR.n (by decide)
  have bR := hR.2.1
  have h20 : M 124 14 = 0 → M 127 2 = 0 := fun h => hF.r0 h 2 (by decide)
  have h30 : M 124 14 = 0 → M 127 3 = 0 := fun h => hF.r0 h 3 (by decide)
  have h40 : M 124 14 = 0 → M 127 4 = 0 := fun h => hF.r0 h 4 (by decide)
  have hwo : M 49 3 = M 129 16 := hN.2.2.2.1
  have t160 := hT.1 16 (by decide)
  have t161 := hT.2.2.2.2.1
  refine zC.of [some (zr 0), some (zi v), none, none, none] (by decide +kernel) rfl rfl (Nat.le_of_ble_eq_true rfl) rfl ?_
  rcases hcc with ⟨rfl, rfl⟩ | ⟨rfl, rfl⟩
  · have hto : M 2 0 = M 124 14 := hC.1.1
    have hla : M 2 1 = M 127 0 := hC.1.2.1
    have hsn : M 2 2 = M 127 1 := hC.1.2.2.1
    have hcs : M 3 0 = M 127 2 := hC.1.2.2.2.1
    have hca : M 8 0 = M 127 3 := hC.1.2.2.2.2.1
    have hcw : M 13 0 = M 127 4 := hC.1.2.2.2.2.2.1
    have hcb : M 13 1 = M 127 5 := hC.1.2.2.2.2.2.2.1
    have hcor : M 19 0 = M 127 6 := hC.1.2.2.2.2.2.2.2.1
    have hcn : M 19 4 = M 127 7 := hC.1.2.2.2.2.2.2.2.2
    refine p_aload_n 1 dX11_rests_0 rfl rfl (by decide) ?_
    refine p_getR 0 4 dX11_rests_1 fX11_16 rfl hco ?_
    refine p_getI 2 7 dX11_rests_4 fX11_114 rfl ?_
    rw [hto]
    refine p_if_ne 16 10 dX11_rests_7 (by omega) (by omega) (fun h7 => ?_) (fun h7 => ?_)
    · refine p_iload_n 17 dX11_rests_16 rfl rfl ?_
      refine p_callS1i 20 dX11_rests_17 (s_isWorth (by omega) (by omega)) lk_X11_305 mX11_isWorth (by decide) (Nat.le_of_ble_eq_true rfl) ?_
      rintro _ _ ⟨rfl, e9⟩
      have e9 := e9.symm
      subst e9
      refine p_if_ne 29 23 dX11_rests_20 (by split <;> omega) (by split <;> omega) (fun h20 => ?_) (fun h20 => ?_)
      · have h20w := if_ne0 h20
        obtain ⟨n, rfl⟩ : ∃ k : Nat, v = (k : Int) := ⟨v.toNat, by omega⟩
        refine p_iconst 30 dX11_rests_29 ?_
        refine p_istore_n 31 dX11_rests_30 rfl (Nat.le_of_ble_eq_true rfl) rfl rfl ?_
        dsimp only [List.set]
        refine p_iconst 32 dX11_rests_31 ?_
        refine p_istore_n 33 dX11_rests_32 rfl (Nat.le_of_ble_eq_true rfl) rfl rfl ?_
        dsimp only [List.set]
        refine l_restsA (w := n) (by omega) (fun o ho => ?_) 7 0 rfl _
        obtain ⟨o4, rfl⟩ := ho
        refine p_aload_n 75 dX11_rests_74 rfl rfl (by decide) ?_
        refine p_iload_n 76 dX11_rests_75 rfl rfl ?_
        refine p_callV1i 0 79 dX11_rests_76 s_grant lk_X11_108 mX11_grant rfl rfl (by decide) (Nat.le_of_ble_eq_true rfl) ?_
        rintro _ _ ⟨rfl, rfl⟩
        refine p_iret dX11_rests_79 rfl ?_
        exact ⟨_, rfl, CQ.of hI hF (fun k _ => rfl) (by unfold pa_rests; (repeat' split) <;> first | rfl | (exfalso; omega)) (by unfold pa_rests; (repeat' split) <;> first | rfl | (exfalso; omega)) (by decide)⟩
      · have h20w := if_nne0 h20
        refine p_aload_n 24 dX11_rests_23 rfl rfl (by decide) ?_
        refine p_iconst 25 dX11_rests_24 ?_
        refine p_callV1i 0 28 dX11_rests_25 s_refuse lk_X11_73 mX11_refuse rfl rfl (by decide) (Nat.le_of_ble_eq_true rfl) ?_
        rintro _ _ ⟨rfl, rfl⟩
        refine p_iret dX11_rests_28 rfl ?_
        exact ⟨_, rfl, CQ.of hI hF (fun k _ => rfl) (by unfold pa_rests; (repeat' split) <;> first | rfl | (exfalso; omega)) (by unfold pa_rests; (repeat' split) <;> first | rfl | (exfalso; omega)) (by decide)⟩
    · refine p_aload_n 11 dX11_rests_10 rfl rfl (by decide) ?_
      refine p_iconst 12 dX11_rests_11 ?_
      refine p_callV1i 0 15 dX11_rests_12 s_refuse lk_X11_73 mX11_refuse rfl rfl (by decide) (Nat.le_of_ble_eq_true rfl) ?_
      rintro _ _ ⟨rfl, rfl⟩
      refine p_iret dX11_rests_15 rfl ?_
      exact ⟨_, rfl, CQ.of hI hF (fun k _ => rfl) (by unfold pa_rests; (repeat' split) <;> first | rfl | (exfalso; omega)) (by unfold pa_rests; (repeat' split) <;> first | rfl | (exfalso; omega)) (by decide)⟩
  · have hto : M 25 0 = M 124 14 := hC.1.1
    have hla : M 25 1 = M 127 0 := hC.1.2.1
    have hsn : M 25 2 = M 127 1 := hC.1.2.2.1
    have hcs : M 26 0 = M 127 2 := hC.1.2.2.2.1
    have hca : M 31 0 = M 127 3 := hC.1.2.2.2.2.1
    have hcw : M 36 0 = M 127 4 := hC.1.2.2.2.2.2.1
    have hcb : M 36 1 = M 127 5 := hC.1.2.2.2.2.2.2.1
    have hcor : M 42 0 = M 127 6 := hC.1.2.2.2.2.2.2.2.1
    have hcn : M 42 4 = M 127 7 := hC.1.2.2.2.2.2.2.2.2
    refine p_aload_n 1 dX11_rests_0 rfl rfl (by decide) ?_
    refine p_getR 0 4 dX11_rests_1 fX11_16 rfl hco ?_
    refine p_getI 25 7 dX11_rests_4 fX11_114 rfl ?_
    rw [hto]
    refine p_if_ne 16 10 dX11_rests_7 (by omega) (by omega) (fun h7 => ?_) (fun h7 => ?_)
    · refine p_iload_n 17 dX11_rests_16 rfl rfl ?_
      refine p_callS1i 20 dX11_rests_17 (s_isWorth (by omega) (by omega)) lk_X11_305 mX11_isWorth (by decide) (Nat.le_of_ble_eq_true rfl) ?_
      rintro _ _ ⟨rfl, e9⟩
      have e9 := e9.symm
      subst e9
      refine p_if_ne 29 23 dX11_rests_20 (by split <;> omega) (by split <;> omega) (fun h20 => ?_) (fun h20 => ?_)
      · have h20w := if_ne0 h20
        obtain ⟨n, rfl⟩ : ∃ k : Nat, v = (k : Int) := ⟨v.toNat, by omega⟩
        refine p_iconst 30 dX11_rests_29 ?_
        refine p_istore_n 31 dX11_rests_30 rfl (Nat.le_of_ble_eq_true rfl) rfl rfl ?_
        dsimp only [List.set]
        refine p_iconst 32 dX11_rests_31 ?_
        refine p_istore_n 33 dX11_rests_32 rfl (Nat.le_of_ble_eq_true rfl) rfl rfl ?_
        dsimp only [List.set]
        refine l_restsA (w := n) (by omega) (fun o ho => ?_) 7 0 rfl _
        obtain ⟨o4, rfl⟩ := ho
        refine p_aload_n 75 dX11_rests_74 rfl rfl (by decide) ?_
        refine p_iload_n 76 dX11_rests_75 rfl rfl ?_
        refine p_callV1i 0 79 dX11_rests_76 s_grant lk_X11_108 mX11_grant rfl rfl (by decide) (Nat.le_of_ble_eq_true rfl) ?_
        rintro _ _ ⟨rfl, rfl⟩
        refine p_iret dX11_rests_79 rfl ?_
        exact ⟨_, rfl, CQ.of hI hF (fun k _ => rfl) (by unfold pa_rests; (repeat' split) <;> first | rfl | (exfalso; omega)) (by unfold pa_rests; (repeat' split) <;> first | rfl | (exfalso; omega)) (by decide)⟩
      · have h20w := if_nne0 h20
        refine p_aload_n 24 dX11_rests_23 rfl rfl (by decide) ?_
        refine p_iconst 25 dX11_rests_24 ?_
        refine p_callV1i 0 28 dX11_rests_25 s_refuse lk_X11_73 mX11_refuse rfl rfl (by decide) (Nat.le_of_ble_eq_true rfl) ?_
        rintro _ _ ⟨rfl, rfl⟩
        refine p_iret dX11_rests_28 rfl ?_
        exact ⟨_, rfl, CQ.of hI hF (fun k _ => rfl) (by unfold pa_rests; (repeat' split) <;> first | rfl | (exfalso; omega)) (by unfold pa_rests; (repeat' split) <;> first | rfl | (exfalso; omega)) (by decide)⟩
    · refine p_aload_n 11 dX11_rests_10 rfl rfl (by decide) ?_
      refine p_iconst 12 dX11_rests_11 ?_
      refine p_callV1i 0 15 dX11_rests_12 s_refuse lk_X11_73 mX11_refuse rfl rfl (by decide) (Nat.le_of_ble_eq_true rfl) ?_
      rintro _ _ ⟨rfl, rfl⟩
      refine p_iret dX11_rests_15 rfl ?_
      exact ⟨_, rfl, CQ.of hI hF (fun k _ => rfl) (by unfold pa_rests; (repeat' split) <;> first | rfl | (exfalso; omega)) (by unfold pa_rests; (repeat' split) <;> first | rfl | (exfalso; omega)) (by decide)⟩
theorem l_restB {l : Launch} {X : ZX} {M : ZM} {w : Nat} (hw : w ≤ 99) {a : Nat} (ha : a ≤ 6) {Q : Option ZV → ZM → Prop} (kr : zP l X 2 tX11_rest 54 [some (zr 0)] [] M Q ∨ True) (kk : ∀ o : List (Option ZV), q_fr w (7 * a + 7) = -2 → o = [some (zr 0), some (zi (w : Int)), some (zi (a : Int)), some (zi ((7 : Nat) : Int))] → zP l X 2 tX11_rest 71 o [] M Q) (kf : ∀ v : Int, v = q_fr w 49 → Q (some (zi v)) (zset M 0 2 0)) : ∀ (j i : Nat), i + j = 7 → q_fr w (7 * a + i) = -2 → zP l X 2 tX11_rest 39 [some (zr 0), some (zi (w : Int)), some (zi (a : Int)), some (zi (i : Int))] [] M (Q) := by
  intro j
  induction j with
  | zero =>
    intro i hi hq
    refine p_iload_n 40 dX11_rest_39 rfl rfl ?_
    refine p_bipush 42 dX11_rest_40 rfl ?_
    refine p_icmp_gt 71 45 dX11_rest_42 (by omega) (by omega) (by omega) (by omega) (fun h42 => ?_) (fun h42 => absurd (by omega) (fun h9 : False => h9))
    rw [Nat.add_zero] at hi
    subst hi
    exact kk _ hq rfl
  | succ j ih =>
    intro i hi hq
    refine p_iload_n 40 dX11_rest_39 rfl rfl ?_
    refine p_bipush 42 dX11_rest_40 rfl ?_
    refine p_icmp_gt 71 45 dX11_rest_42 (by omega) (by omega) (by omega) (by omega) (fun h42 => absurd (by omega) (fun h9 : False => h9)) (fun h42 => ?_)
    refine p_iload_n 46 dX11_rest_45 rfl rfl ?_
    refine p_iload_n 47 dX11_rest_46 rfl rfl ?_
    refine p_iload_n 48 dX11_rest_47 rfl rfl ?_
    refine p_callS3i 51 dX11_rest_48 (s_isRestC hw (a := a) (b := i) ha (by omega)) lk_X11_312 mX11_isRest (by decide) (Nat.le_of_ble_eq_true rfl) ?_
    rintro _ _ ⟨rfl, e9⟩
    have e9 := e9.symm
    subst e9
    refine p_if_eq 65 54 dX11_rest_51 (by split <;> omega) (by split <;> omega) (fun h51 => ?_) (fun h51 => ?_)
    · have h51 := if_eq0 h51
      refine p_iinc 68 dX11_rest_65 rfl rfl rfl ?_
      dsimp only [List.set]
      refine p_goto 39 dX11_rest_68 ?_
      refine ih (i + 1) (by omega) ?_
      have er : q_fr w (7 * a + i + 1) = if q_fr w (7 * a + i) = -2 ∧ q_rest w ((7 * a + i) / 7) ((7 * a + i) % 7) = true then ((10 * ((7 * a + i) / 7) + (7 * a + i) % 7 : Nat) : Int) else q_fr w (7 * a + i) := rfl
      rw [show 7 * a + (i + 1) = 7 * a + i + 1 by omega, er, show (7 * a + i) / 7 = a by omega, show (7 * a + i) % 7 = i by omega, if_neg (fun g => h51 g.2)]
      exact hq
    · have h51 := if_neq0 h51
      refine p_aload_n 55 dX11_rest_54 rfl rfl (by decide) ?_
      refine p_bipush 57 dX11_rest_55 rfl ?_
      refine p_iload_n 58 dX11_rest_57 rfl rfl ?_
      refine p_imul 59 dX11_rest_58 ?_
      refine p_iload_n 60 dX11_rest_59 rfl rfl ?_
      refine p_iadd 61 dX11_rest_60 ?_
      refine p_callV1i 0 64 dX11_rest_61 s_grant lk_X11_108 mX11_grant rfl rfl (by decide) (Nat.le_of_ble_eq_true rfl) ?_
      rintro _ _ ⟨rfl, rfl⟩
      refine p_iret dX11_rest_64 rfl ?_
      refine kf _ ?_
      have hs := q_fr_stay w (i := 7 * a + i + 1) (by
        have er : q_fr w (7 * a + i + 1) = if q_fr w (7 * a + i) = -2 ∧ q_rest w ((7 * a + i) / 7) ((7 * a + i) % 7) = true then ((10 * ((7 * a + i) / 7) + (7 * a + i) % 7 : Nat) : Int) else q_fr w (7 * a + i) := rfl
        rw [er, show (7 * a + i) / 7 = a by omega, show (7 * a + i) % 7 = i by omega, if_pos ⟨hq, h51⟩]
        omega) (49 - (7 * a + i + 1))
      rw [show 7 * a + i + 1 + (49 - (7 * a + i + 1)) = 49 by omega] at hs
      rw [hs]
      have er : q_fr w (7 * a + i + 1) = if q_fr w (7 * a + i) = -2 ∧ q_rest w ((7 * a + i) / 7) ((7 * a + i) % 7) = true then ((10 * ((7 * a + i) / 7) + (7 * a + i) % 7 : Nat) : Int) else q_fr w (7 * a + i) := rfl
      rw [er, show (7 * a + i) / 7 = a by omega, show (7 * a + i) % 7 = i by omega, if_pos ⟨hq, h51⟩]
      omega
theorem l_restA {l : Launch} {X : ZX} {M : ZM} {w : Nat} (hw : w ≤ 99) {Q : Option ZV → ZM → Prop} (kf : ∀ v : Int, v = q_fr w 49 → Q (some (zi v)) (zset M 0 2 0)) : ∀ (j i : Nat), i + j = 7 → q_fr w (7 * i) = -2 → ∀ o4 : Option ZV, zP l X 2 tX11_rest 31 [some (zr 0), some (zi (w : Int)), some (zi (i : Int)), o4] [] M (Q) := by
  intro j
  induction j with
  | zero =>
    intro i hi hq o4
    refine p_iload_n 32 dX11_rest_31 rfl rfl ?_
    refine p_bipush 34 dX11_rest_32 rfl ?_
    refine p_icmp_gt 77 37 dX11_rest_34 (by omega) (by omega) (by omega) (by omega) (fun h34 => ?_) (fun h34 => absurd (by omega) (fun h9 : False => h9))
    refine p_aload_n 78 dX11_rest_77 rfl rfl (by decide) ?_
    refine p_bipush 80 dX11_rest_78 rfl ?_
    refine p_callV1i 0 83 dX11_rest_80 s_grant lk_X11_108 mX11_grant rfl rfl (by decide) (Nat.le_of_ble_eq_true rfl) ?_
    rintro _ _ ⟨rfl, rfl⟩
    refine p_iret dX11_rest_83 rfl ?_
    rw [Nat.add_zero] at hi
    subst hi
    exact kf _ hq.symm
  | succ j ih =>
    intro i hi hq o4
    refine p_iload_n 32 dX11_rest_31 rfl rfl ?_
    refine p_bipush 34 dX11_rest_32 rfl ?_
    refine p_icmp_gt 77 37 dX11_rest_34 (by omega) (by omega) (by omega) (by omega) (fun h34 => absurd (by omega) (fun h9 : False => h9)) (fun h34 => ?_)
    refine p_iconst 38 dX11_rest_37 ?_
    refine p_istore_n 39 dX11_rest_38 rfl (Nat.le_of_ble_eq_true rfl) rfl rfl ?_
    dsimp only [List.set]
    refine l_restB hw (a := i) (by omega) (Or.inr trivial) (fun o hq2 ho => ?_) kf 7 0 rfl hq
    subst ho
    refine p_iinc 74 dX11_rest_71 rfl rfl rfl ?_
    dsimp only [List.set]
    refine p_goto 31 dX11_rest_74 ?_
    exact ih (i + 1) (by omega) (by rw [show 7 * (i + 1) = 7 * i + 7 by omega]; exact hq2) _
theorem c_rest {l : Launch} {X : ZX} {M : ZM} (hI : IC M M) (hF : WF M) {v : Int} (hv1 : -2147483648 ≤ v) (hv2 : v < 2147483648) : zCi l X 2 yX11_rest tX11_rest [zr 0, zi v] M (CQ M (pa_rest (M 124 14) v)) := by
  obtain ⟨hW, ⟨c, c', hcc, hco, hsp, hC⟩, ⟨j1, j2, j3, j4, j5⟩, hN, hpast, hten, ⟨hz0, hsea⟩, hfit⟩ := id hI
  have hR := hF.r
  have hT := hF.t
  have hh := hF.h
  have e0 : M 127 0 = (q_n (M 127) 0 : Int) := hR.n (by decide)
  have e2 : M 127 2 = (q_n (M 127) 2 : Int) := hR.n (by decide)
  have e3 : M 127 3 = (q_n (M 127) 3 : Int) := hR.n (by decide)
  have e4 : M 127 4 = (q_n (M 127) 4 : Int) := hR.n (by decide)
  have bR := hR.2.1
  have h20 : M 124 14 = 0 → M 127 2 = 0 := fun h => hF.r0 h 2 (by decide)
  have h30 : M 124 14 = 0 → M 127 3 = 0 := fun h => hF.r0 h 3 (by decide)
  have h40 : M 124 14 = 0 → M 127 4 = 0 := fun h => hF.r0 h 4 (by decide)
  have hwo : M 49 3 = M 129 16 := hN.2.2.2.1
  have t160 := hT.1 16 (by decide)
  have t161 := hT.2.2.2.2.1
  refine zC.of [some (zr 0), some (zi v), none, none] (by decide +kernel) rfl rfl (Nat.le_of_ble_eq_true rfl) rfl ?_
  rcases hcc with ⟨rfl, rfl⟩ | ⟨rfl, rfl⟩
  · have hto : M 2 0 = M 124 14 := hC.1.1
    have hla : M 2 1 = M 127 0 := hC.1.2.1
    have hsn : M 2 2 = M 127 1 := hC.1.2.2.1
    have hcs : M 3 0 = M 127 2 := hC.1.2.2.2.1
    have hca : M 8 0 = M 127 3 := hC.1.2.2.2.2.1
    have hcw : M 13 0 = M 127 4 := hC.1.2.2.2.2.2.1
    have hcb : M 13 1 = M 127 5 := hC.1.2.2.2.2.2.2.1
    have hcor : M 19 0 = M 127 6 := hC.1.2.2.2.2.2.2.2.1
    have hcn : M 19 4 = M 127 7 := hC.1.2.2.2.2.2.2.2.2
    refine p_aload_n 1 dX11_rest_0 rfl rfl (by decide) ?_
    refine p_getR 0 4 dX11_rest_1 fX11_16 rfl hco ?_
    refine p_getI 2 7 dX11_rest_4 fX11_114 rfl ?_
    rw [hto]
    refine p_if_ne 16 10 dX11_rest_7 (by omega) (by omega) (fun h7 => ?_) (fun h7 => ?_)
    · refine p_iload_n 17 dX11_rest_16 rfl rfl ?_
      refine p_callS1i 20 dX11_rest_17 (s_isWorth (by omega) (by omega)) lk_X11_305 mX11_isWorth (by decide) (Nat.le_of_ble_eq_true rfl) ?_
      rintro _ _ ⟨rfl, e9⟩
      have e9 := e9.symm
      subst e9
      refine p_if_ne 29 23 dX11_rest_20 (by split <;> omega) (by split <;> omega) (fun h20 => ?_) (fun h20 => ?_)
      · have h20w := if_ne0 h20
        obtain ⟨n, rfl⟩ : ∃ k : Nat, v = (k : Int) := ⟨v.toNat, by omega⟩
        refine p_iconst 30 dX11_rest_29 ?_
        refine p_istore_n 31 dX11_rest_30 rfl (Nat.le_of_ble_eq_true rfl) rfl rfl ?_
        dsimp only [List.set]
        refine l_restA (w := n) (by omega) (fun v hv => ?_) 7 0 rfl rfl _
        exact ⟨_, rfl, CQ.of hI hF (fun k _ => rfl) (by unfold pa_rest; rw [if_neg (by omega), if_pos (by omega), Int.toNat_natCast, hv]) (by unfold pa_rest; rw [if_neg (by omega), if_pos (by omega)]) (by decide)⟩
      · have h20w := if_nne0 h20
        refine p_aload_n 24 dX11_rest_23 rfl rfl (by decide) ?_
        refine p_iconst 25 dX11_rest_24 ?_
        refine p_callV1i 0 28 dX11_rest_25 s_refuse lk_X11_73 mX11_refuse rfl rfl (by decide) (Nat.le_of_ble_eq_true rfl) ?_
        rintro _ _ ⟨rfl, rfl⟩
        refine p_iret dX11_rest_28 rfl ?_
        exact ⟨_, rfl, CQ.of hI hF (fun k _ => rfl) (by unfold pa_rest; (repeat' split) <;> first | (exfalso; omega) | rfl) (by unfold pa_rest; (repeat' split) <;> first | (exfalso; omega) | rfl) (by decide)⟩
    · refine p_aload_n 11 dX11_rest_10 rfl rfl (by decide) ?_
      refine p_iconst 12 dX11_rest_11 ?_
      refine p_callV1i 0 15 dX11_rest_12 s_refuse lk_X11_73 mX11_refuse rfl rfl (by decide) (Nat.le_of_ble_eq_true rfl) ?_
      rintro _ _ ⟨rfl, rfl⟩
      refine p_iret dX11_rest_15 rfl ?_
      exact ⟨_, rfl, CQ.of hI hF (fun k _ => rfl) (by unfold pa_rest; (repeat' split) <;> first | (exfalso; omega) | rfl) (by unfold pa_rest; (repeat' split) <;> first | (exfalso; omega) | rfl) (by decide)⟩
  · have hto : M 25 0 = M 124 14 := hC.1.1
    have hla : M 25 1 = M 127 0 := hC.1.2.1
    have hsn : M 25 2 = M 127 1 := hC.1.2.2.1
    have hcs : M 26 0 = M 127 2 := hC.1.2.2.2.1
    have hca : M 31 0 = M 127 3 := hC.1.2.2.2.2.1
    have hcw : M 36 0 = M 127 4 := hC.1.2.2.2.2.2.1
    have hcb : M 36 1 = M 127 5 := hC.1.2.2.2.2.2.2.1
    have hcor : M 42 0 = M 127 6 := hC.1.2.2.2.2.2.2.2.1
    have hcn : M 42 4 = M 127 7 := hC.1.2.2.2.2.2.2.2.2
    refine p_aload_n 1 dX11_rest_0 rfl rfl (by decide) ?_
    refine p_getR 0 4 dX11_rest_1 fX11_16 rfl hco ?_
    refine p_getI 25 7 dX11_rest_4 fX11_114 rfl ?_
    rw [hto]
    refine p_if_ne 16 10 dX11_rest_7 (by omega) (by omega) (fun h7 => ?_) (fun h7 => ?_)
    · refine p_iload_n 17 dX11_rest_16 rfl rfl ?_
      refine p_callS1i 20 dX11_rest_17 (s_isWorth (by omega) (by omega)) lk_X11_305 mX11_isWorth (by decide) (Nat.le_of_ble_eq_true rfl) ?_
      rintro _ _ ⟨rfl, e9⟩
      have e9 := e9.symm
      subst e9
      refine p_if_ne 29 23 dX11_rest_20 (by split <;> omega) (by split <;> omega) (fun h20 => ?_) (fun h20 => ?_)
      · have h20w := if_ne0 h20
        obtain ⟨n, rfl⟩ : ∃ k : Nat, v = (k : Int) := ⟨v.toNat, by omega⟩
        refine p_iconst 30 dX11_rest_29 ?_
        refine p_istore_n 31 dX11_rest_30 rfl (Nat.le_of_ble_eq_true rfl) rfl rfl ?_
        dsimp only [List.set]
        refine l_restA (w := n) (by omega) (fun v hv => ?_) 7 0 rfl rfl _
        exact ⟨_, rfl, CQ.of hI hF (fun k _ => rfl) (by unfold pa_rest; rw [if_neg (by omega), if_pos (by omega), Int.toNat_natCast, hv]) (by unfold pa_rest; rw [if_neg (by omega), if_pos (by omega)]) (by decide)⟩
      · have h20w := if_nne0 h20
        refine p_aload_n 24 dX11_rest_23 rfl rfl (by decide) ?_
        refine p_iconst 25 dX11_rest_24 ?_
        refine p_callV1i 0 28 dX11_rest_25 s_refuse lk_X11_73 mX11_refuse rfl rfl (by decide) (Nat.le_of_ble_eq_true rfl) ?_
        rintro _ _ ⟨rfl, rfl⟩
        refine p_iret dX11_rest_28 rfl ?_
        exact ⟨_, rfl, CQ.of hI hF (fun k _ => rfl) (by unfold pa_rest; (repeat' split) <;> first | (exfalso; omega) | rfl) (by unfold pa_rest; (repeat' split) <;> first | (exfalso; omega) | rfl) (by decide)⟩
    · refine p_aload_n 11 dX11_rest_10 rfl rfl (by decide) ?_
      refine p_iconst 12 dX11_rest_11 ?_
      refine p_callV1i 0 15 dX11_rest_12 s_refuse lk_X11_73 mX11_refuse rfl rfl (by decide) (Nat.le_of_ble_eq_true rfl) ?_
      rintro _ _ ⟨rfl, rfl⟩
      refine p_iret dX11_rest_15 rfl ?_
      exact ⟨_, rfl, CQ.of hI hF (fun k _ => rfl) (by unfold pa_rest; (repeat' split) <;> first | (exfalso; omega) | rfl) (by unfold pa_rest; (repeat' split) <;> first | (exfalso; omega) | rfl) (by decide)⟩
