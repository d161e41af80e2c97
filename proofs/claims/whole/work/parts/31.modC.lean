/-- so many places of one row copied to another -/
def zcopy (M : ZM) (f a t i m : Nat) : ZM := fun x b => if x = t ∧ i ≤ b ∧ b < i + m then M f (a + (b - i)) else M x b
theorem zcopy_zero (M : ZM) (f a t i : Nat) : zcopy M f a t i 0 = M := by
  funext x b
  unfold zcopy
  rw [if_neg (by omega)]
theorem zcopy_succ (M : ZM) {f a t i m : Nat} (h : f ≠ t) : zset (zcopy M f a t i m) t (i + m) (zcopy M f a t i m f (a + m)) = zcopy M f a t i (m + 1) := by
  funext x b
  have e : zcopy M f a t i m f (a + m) = M f (a + m) := by
    unfold zcopy
    rw [if_neg (by rintro ⟨g, -⟩; exact h g)]
  rw [e]
  unfold zset zcopy
  by_cases hx : x = t
  · rw [if_pos hx]
    by_cases hb : b = i + m
    · rw [if_pos hb, if_pos ⟨hx, by omega, by omega⟩, hb]
      congr 1
      omega
    · rw [if_neg hb]
      by_cases hc : i ≤ b ∧ b < i + m
      · rw [if_pos ⟨hx, hc.1, hc.2⟩, if_pos ⟨hx, by omega, by omega⟩]
      · rw [if_neg (by rintro ⟨-, g⟩; exact hc g), if_neg (by rintro ⟨-, g1, g2⟩; omega)]
  · rw [if_neg hx, if_neg (by rintro ⟨g, -⟩; exact hx g), if_neg (by rintro ⟨g, -⟩; exact hx g)]
theorem zcopy_ne (M : ZM) {f a t i m x : Nat} (h : x ≠ t) : zcopy M f a t i m x = M x := by
  funext b
  unfold zcopy
  rw [if_neg (by rintro ⟨g, -⟩; exact h g)]
theorem l_copy {l : Launch} {X : ZX} {M : ZM} {f t lf lt a i m : Nat} (hf : zTT[f]? = some (.inr (0, lf))) (ht : zTT[t]? = some (.inr (0, lt))) (hne : f ≠ t) (h1 : a + m ≤ lf) (h2 : i + m ≤ lt) (hm : m < 1000000) (hz1 : lf < 2147483648) (hz2 : lt < 2147483648) : ∀ (j k : Nat), k + j = m → zP l X 0 tX12_copy 3 [some (zr (f : Int)), some (zi (a : Int)), some (zr (t : Int)), some (zi (i : Int)), some (zi (m : Int)), some (zi (k : Int))] [] (zcopy M f a t i k) (fun r M' => r = none ∧ M' = zcopy M f a t i m) := by
  intro j
  induction j with
  | zero =>
    intro k hk
    refine p_iload 5 dX12_copy_3 rfl ?_
    refine p_iload 7 dX12_copy_5 rfl ?_
    refine p_icmp_ge 28 10 dX12_copy_7 (by omega) (by omega) (by omega) (by omega) (fun h7 => ?_) (fun h7 => absurd (by omega) (fun h9 : False => h9))
    refine p_vret dX12_copy_28 rfl ?_
    rw [Nat.add_zero] at hk
    rw [hk]
    exact ⟨rfl, rfl⟩
  | succ j ih =>
    intro k hk
    refine p_iload 5 dX12_copy_3 rfl ?_
    refine p_iload 7 dX12_copy_5 rfl ?_
    refine p_icmp_ge 28 10 dX12_copy_7 (by omega) (by omega) (by omega) (by omega) (fun h7 => absurd (by omega) (fun h9 : False => h9)) (fun h7 => ?_)
    refine p_aload_n 11 dX12_copy_10 rfl rfl (by omega) ?_
    refine p_iload_n 12 dX12_copy_11 rfl rfl ?_
    refine p_iload 14 dX12_copy_12 rfl ?_
    refine p_iadd 15 dX12_copy_14 ?_
    refine p_aload_n 16 dX12_copy_15 rfl rfl (by omega) ?_
    refine p_iload_n 17 dX12_copy_16 rfl rfl ?_
    refine p_iload 19 dX12_copy_17 rfl ?_
    refine p_iadd 20 dX12_copy_19 ?_
    refine p_ialdn (f) 21 (a + k) dX12_copy_20 hf (by omega) (by omega) ?_
    refine p_iastn (t) 22 (i + k) dX12_copy_21 ht (by omega) (by omega) ?_
    refine p_iinc 25 dX12_copy_22 rfl rfl rfl ?_
    dsimp only [List.set]
    refine p_goto 3 dX12_copy_25 ?_
    rw [zcopy_succ M hne]
    exact ih (k + 1) (by omega)
theorem s_copy {l : Launch} {X : ZX} {M : ZM} {f t lf lt a i m : Nat} (hf : zTT[f]? = some (.inr (0, lf))) (ht : zTT[t]? = some (.inr (0, lt))) (hne : f ≠ t) (h1 : a + m ≤ lf) (h2 : i + m ≤ lt) (hm : m < 1000000) : zCv l X 0 yX12_copy tX12_copy [zr (f : Int), zi (a : Int), zr (t : Int), zi (i : Int), zi (m : Int)] M (fun M' => M' = zcopy M f a t i m) := by
  refine zC.of [some (zr (f : Int)), some (zi (a : Int)), some (zr (t : Int)), some (zi (i : Int)), some (zi (m : Int)), none] (by decide +kernel) rfl rfl (Nat.le_of_ble_eq_true rfl) rfl ?_
  refine p_iconst 1 dX12_copy_0 ?_
  refine p_istore 3 dX12_copy_1 (Nat.le_of_ble_eq_true rfl) rfl rfl ?_
  dsimp only [List.set]
  have e := l_copy (l := l) (X := X) (M := M) hf ht hne h1 h2 hm (pz_TTlen hf) (pz_TTlen ht) m 0 (Nat.zero_add _)
  rw [zcopy_zero] at e
  exact e
theorem q_abS_lt {r : Nat → Nat} (hr : ∀ k, k < 7 → r (38 + 3 * k + 2) < 128) {S k : Nat} (hS : S < 128) (hk : k < 7) : q_abS r S k < 128 := by
  unfold q_abS
  split
  · exact Nat.or_lt_two_pow (n := 7) hS (hr k hk)
  · exact hS
theorem q_abK_lt {r : Nat → Nat} (hr : ∀ k, k < 7 → r (38 + 3 * k + 2) < 128) {S : Nat} (hS : S < 128) : ∀ k, k ≤ 7 → q_abK r S k < 128 := by
  intro k
  induction k with
  | zero => intro _; exact hS
  | succ k ih => intro hk; exact q_abS_lt hr (ih (by omega)) (by omega)
theorem q_abN_lt {r : Nat → Nat} (hr : ∀ k, k < 7 → r (38 + 3 * k + 2) < 128) {S : Nat} (hS : S < 128) : ∀ n, q_abN r S n < 128 := by
  intro n
  induction n with
  | zero => exact hS
  | succ n ih => exact q_abK_lt hr ih 7 (Nat.le_refl 7)
theorem q_ab_lt {r : Nat → Nat} (hr : ∀ k, k < 7 → r (38 + 3 * k + 2) < 128) {w : Nat} (hw : w < 7) : q_ab r w < 128 := q_abN_lt hr (hr w hw) 7
theorem wfR.ab {ρ : Nat → Int} (hR : wfR ρ) : ∀ k, k < 7 → q_n ρ (38 + 3 * k + 2) < 128 := by
  intro k hk
  have h := (hR.2.2.2.2.1 k hk).2.2
  have h0 := hR.1 (38 + 3 * k + 2) (by omega)
  unfold q_n
  omega
theorem l_abK_127 {l : Launch} {X : ZX} {M : ZM} {ρ : Nat → Int} (hE : ∀ i, i < 421 → M 127 i = ρ i) (hB : ∀ k, k < 7 → q_n ρ (38 + 3 * k + 2) < 128) (hP : ∀ i, i < 421 → 0 ≤ ρ i) {w S m : Nat} (hS : S < 128) {Q : Option ZV → ZM → Prop} (kk : zP l X 1 tX12_allBefore 62 [some (zr 127), some (zi (w : Int)), some (zi (q_abK (q_n ρ) S 7 : Int)), some (zi (m : Int)), some (zi ((7 : Nat) : Int))] [] M Q) : ∀ (j i : Nat), i + j = 7 → zP l X 1 tX12_allBefore 22 [some (zr 127), some (zi (w : Int)), some (zi (q_abK (q_n ρ) S i : Int)), some (zi (m : Int)), some (zi (i : Int))] [] M (Q) := by
  intro j
  induction j with
  | zero =>
    intro i hi
    refine p_iload 24 dX12_allBefore_22 rfl ?_
    refine p_bipush 26 dX12_allBefore_24 rfl ?_
    refine p_icmp_ge 62 29 dX12_allBefore_26 (by omega) (by omega) (by omega) (by omega) (fun h26 => ?_) (fun h26 => absurd (by omega) (fun h9 : False => h9))
    rw [Nat.add_zero] at hi
    rw [hi]
    exact kk
  | succ j ih =>
    intro i hi
    have hlt := q_abK_lt hB hS i (by omega)
    have hb2 := hB i (by omega)
    refine p_iload 24 dX12_allBefore_22 rfl ?_
    refine p_bipush 26 dX12_allBefore_24 rfl ?_
    refine p_icmp_ge 62 29 dX12_allBefore_26 (by omega) (by omega) (by omega) (by omega) (fun h26 => absurd (by omega) (fun h9 : False => h9)) (fun h26 => ?_)
    refine p_iload_n 30 dX12_allBefore_29 rfl rfl ?_
    refine p_iload_n 31 dX12_allBefore_30 rfl rfl ?_
    refine p_iload 33 dX12_allBefore_31 rfl ?_
    refine p_callS2i 36 dX12_allBefore_33 (s_hasBit (S := q_abK (q_n ρ) S i) (k := i) (by omega) (by omega)) lk_X12_241 mX12_hasBit (by decide) (Nat.le_of_ble_eq_true rfl) ?_
    rintro _ _ ⟨rfl, rfl⟩
    refine p_if_eq 53 39 dX12_allBefore_36 (by split <;> omega) (by split <;> omega) (fun h36 => ?_) (fun h36 => ?_)
    · refine p_iconst 54 dX12_allBefore_53 ?_
      refine p_ior 55 dX12_allBefore_54 ?_
      refine p_istore_n 56 dX12_allBefore_55 rfl (Nat.le_of_ble_eq_true rfl) rfl rfl ?_
      dsimp only [List.set]
      refine p_iinc 59 dX12_allBefore_56 rfl rfl rfl ?_
      dsimp only [List.set]
      refine p_goto 22 dX12_allBefore_59 ?_
      have e := ih (i + 1) (by omega)
      have er : q_abK (q_n ρ) S (i + 1) = if (q_abK (q_n ρ) S i).testBit i then q_abK (q_n ρ) S i ||| q_n ρ (38 + 3 * i + 2) else q_abK (q_n ρ) S i := rfl
      rw [er] at e
      cases hb : (q_abK (q_n ρ) S i).testBit i
      · rw [hb] at e h36
        first
          | (rw [z_ior_zero _ (by omega)]; exact e)
          | exact absurd rfl h36
      · rw [hb] at e h36
        first
          | (rw [show ρ (38 + 3 * i + 2) = (q_n ρ (38 + 3 * i + 2) : Int) from (Int.toNat_of_nonneg (hP _ (by omega))).symm, z_ior_n _ _ (by omega) (by omega)]; exact e)
          | exact absurd h36 (by decide)
    · refine p_aload_n 40 dX12_allBefore_39 rfl rfl (by decide) ?_
      refine p_bipush 42 dX12_allBefore_40 rfl ?_
      refine p_iconst 43 dX12_allBefore_42 ?_
      refine p_iload 45 dX12_allBefore_43 rfl ?_
      refine p_imul 46 dX12_allBefore_45 ?_
      refine p_iadd 47 dX12_allBefore_46 ?_
      refine p_iconst 48 dX12_allBefore_47 ?_
      refine p_iadd 49 dX12_allBefore_48 ?_
      refine p_ialdn 127 50 (38 + 3 * i + 2) dX12_allBefore_49 rfl (by omega) (by omega) ?_
      rw [hE _ (by omega)]
      refine p_goto 54 dX12_allBefore_50 ?_
      refine p_ior 55 dX12_allBefore_54 ?_
      refine p_istore_n 56 dX12_allBefore_55 rfl (Nat.le_of_ble_eq_true rfl) rfl rfl ?_
      dsimp only [List.set]
      refine p_iinc 59 dX12_allBefore_56 rfl rfl rfl ?_
      dsimp only [List.set]
      refine p_goto 22 dX12_allBefore_59 ?_
      have e := ih (i + 1) (by omega)
      have er : q_abK (q_n ρ) S (i + 1) = if (q_abK (q_n ρ) S i).testBit i then q_abK (q_n ρ) S i ||| q_n ρ (38 + 3 * i + 2) else q_abK (q_n ρ) S i := rfl
      rw [er] at e
      cases hb : (q_abK (q_n ρ) S i).testBit i
      · rw [hb] at e h36
        first
          | (rw [z_ior_zero _ (by omega)]; exact e)
          | exact absurd rfl h36
      · rw [hb] at e h36
        first
          | (rw [show ρ (38 + 3 * i + 2) = (q_n ρ (38 + 3 * i + 2) : Int) from (Int.toNat_of_nonneg (hP _ (by omega))).symm, z_ior_n _ _ (by omega) (by omega)]; exact e)
          | exact absurd h36 (by decide)
theorem l_abN_127 {l : Launch} {X : ZX} {M : ZM} {ρ : Nat → Int} (hE : ∀ i, i < 421 → M 127 i = ρ i) (hB : ∀ k, k < 7 → q_n ρ (38 + 3 * k + 2) < 128) (hP : ∀ i, i < 421 → 0 ≤ ρ i) {w : Nat} (hw : w < 7) : ∀ (j i : Nat), i + j = 7 → ∀ o4 : Option ZV, zP l X 1 tX12_allBefore 13 [some (zr 127), some (zi (w : Int)), some (zi (q_abN (q_n ρ) (q_n ρ (38 + 3 * w + 2)) i : Int)), some (zi (i : Int)), o4] [] M (fun r M' => ∃ a, r = some (zi a) ∧ (a = (q_ab (q_n ρ) w : Int) ∧ M' = M)) := by
  intro j
  induction j with
  | zero =>
    intro i hi o4
    refine p_iload_n 14 dX12_allBefore_13 rfl rfl ?_
    refine p_bipush 16 dX12_allBefore_14 rfl ?_
    refine p_icmp_ge 68 19 dX12_allBefore_16 (by omega) (by omega) (by omega) (by omega) (fun h16 => ?_) (fun h16 => absurd (by omega) (fun h9 : False => h9))
    refine p_iload_n 69 dX12_allBefore_68 rfl rfl ?_
    refine p_iret dX12_allBefore_69 rfl ?_
    rw [Nat.add_zero] at hi
    exact ⟨_, rfl, by unfold q_ab; rw [hi], rfl⟩
  | succ j ih =>
    intro i hi o4
    refine p_iload_n 14 dX12_allBefore_13 rfl rfl ?_
    refine p_bipush 16 dX12_allBefore_14 rfl ?_
    refine p_icmp_ge 68 19 dX12_allBefore_16 (by omega) (by omega) (by omega) (by omega) (fun h16 => absurd (by omega) (fun h9 : False => h9)) (fun h16 => ?_)
    refine p_iconst 20 dX12_allBefore_19 ?_
    refine p_istore 22 dX12_allBefore_20 (Nat.le_of_ble_eq_true rfl) rfl rfl ?_
    dsimp only [List.set]
    refine l_abK_127 hE hB hP (S := q_abN (q_n ρ) (q_n ρ (38 + 3 * w + 2)) i) (m := i) (q_abN_lt hB (hB w hw) i) ?_ 7 0 rfl
    refine p_iinc 65 dX12_allBefore_62 rfl rfl rfl ?_
    dsimp only [List.set]
    refine p_goto 13 dX12_allBefore_65 ?_
    exact ih (i + 1) (by omega) _
theorem s_allBefore_127 {l : Launch} {X : ZX} {M : ZM} {ρ : Nat → Int} (hE : ∀ i, i < 421 → M 127 i = ρ i) (hB : ∀ k, k < 7 → q_n ρ (38 + 3 * k + 2) < 128) (hP : ∀ i, i < 421 → 0 ≤ ρ i) {w : Nat} (hw : w < 7) : zCi l X 1 yX12_allBefore tX12_allBefore [zr 127, zi (w : Int)] M (fun a M' => a = (q_ab (q_n ρ) w : Int) ∧ M' = M) := by
  refine zC.of [some (zr 127), some (zi (w : Int)), none, none, none] (by decide +kernel) rfl rfl (Nat.le_of_ble_eq_true rfl) rfl ?_
  refine p_aload_n 1 dX12_allBefore_0 rfl rfl (by decide) ?_
  refine p_bipush 3 dX12_allBefore_1 rfl ?_
  refine p_iconst 4 dX12_allBefore_3 ?_
  refine p_iload_n 5 dX12_allBefore_4 rfl rfl ?_
  refine p_imul 6 dX12_allBefore_5 ?_
  refine p_iadd 7 dX12_allBefore_6 ?_
  refine p_iconst 8 dX12_allBefore_7 ?_
  refine p_iadd 9 dX12_allBefore_8 ?_
  refine p_ialdn 127 10 (38 + 3 * w + 2) dX12_allBefore_9 rfl (by omega) (by omega) ?_
  rw [hE _ (by omega), show ρ (38 + 3 * w + 2) = (q_n ρ (38 + 3 * w + 2) : Int) from (Int.toNat_of_nonneg (hP _ (by omega))).symm]
  refine p_istore_n 11 dX12_allBefore_10 rfl (Nat.le_of_ble_eq_true rfl) rfl rfl ?_
  dsimp only [List.set]
  refine p_iconst 12 dX12_allBefore_11 ?_
  refine p_istore_n 13 dX12_allBefore_12 rfl (Nat.le_of_ble_eq_true rfl) rfl rfl ?_
  dsimp only [List.set]
  exact l_abN_127 hE hB hP hw 7 0 rfl _
theorem l_abK_128 {l : Launch} {X : ZX} {M : ZM} {ρ : Nat → Int} (hE : ∀ i, i < 421 → M 128 i = ρ i) (hB : ∀ k, k < 7 → q_n ρ (38 + 3 * k + 2) < 128) (hP : ∀ i, i < 421 → 0 ≤ ρ i) {w S m : Nat} (hS : S < 128) {Q : Option ZV → ZM → Prop} (kk : zP l X 1 tX12_allBefore 62 [some (zr 128), some (zi (w : Int)), some (zi (q_abK (q_n ρ) S 7 : Int)), some (zi (m : Int)), some (zi ((7 : Nat) : Int))] [] M Q) : ∀ (j i : Nat), i + j = 7 → zP l X 1 tX12_allBefore 22 [some (zr 128), some (zi (w : Int)), some (zi (q_abK (q_n ρ) S i : Int)), some (zi (m : Int)), some (zi (i : Int))] [] M (Q) := by
  intro j
  induction j with
  | zero =>
    intro i hi
    refine p_iload 24 dX12_allBefore_22 rfl ?_
    refine p_bipush 26 dX12_allBefore_24 rfl ?_
    refine p_icmp_ge 62 29 dX12_allBefore_26 (by omega) (by omega) (by omega) (by omega) (fun h26 => ?_) (fun h26 => absurd (by omega) (fun h9 : False => h9))
    rw [Nat.add_zero] at hi
    rw [hi]
    exact kk
  | succ j ih =>
    intro i hi
    have hlt := q_abK_lt hB hS i (by omega)
    have hb2 := hB i (by omega)
    refine p_iload 24 dX12_allBefore_22 rfl ?_
    refine p_bipush 26 dX12_allBefore_24 rfl ?_
    refine p_icmp_ge 62 29 dX12_allBefore_26 (by omega) (by omega) (by omega) (by omega) (fun h26 => absurd (by omega) (fun h9 : False => h9)) (fun h26 => ?_)
    refine p_iload_n 30 dX12_allBefore_29 rfl rfl ?_
    refine p_iload_n 31 dX12_allBefore_30 rfl rfl ?_
    refine p_iload 33 dX12_allBefore_31 rfl ?_
    refine p_callS2i 36 dX12_allBefore_33 (s_hasBit (S := q_abK (q_n ρ) S i) (k := i) (by omega) (by omega)) lk_X12_241 mX12_hasBit (by decide) (Nat.le_of_ble_eq_true rfl) ?_
    rintro _ _ ⟨rfl, rfl⟩
    refine p_if_eq 53 39 dX12_allBefore_36 (by split <;> omega) (by split <;> omega) (fun h36 => ?_) (fun h36 => ?_)
    · refine p_iconst 54 dX12_allBefore_53 ?_
      refine p_ior 55 dX12_allBefore_54 ?_
      refine p_istore_n 56 dX12_allBefore_55 rfl (Nat.le_of_ble_eq_true rfl) rfl rfl ?_
      dsimp only [List.set]
      refine p_iinc 59 dX12_allBefore_56 rfl rfl rfl ?_
      dsimp only [List.set]
      refine p_goto 22 dX12_allBefore_59 ?_
      have e := ih (i + 1) (by omega)
      have er : q_abK (q_n ρ) S (i + 1) = if (q_abK (q_n ρ) S i).testBit i then q_abK (q_n ρ) S i ||| q_n ρ (38 + 3 * i + 2) else q_abK (q_n ρ) S i := rfl
      rw [er] at e
      cases hb : (q_abK (q_n ρ) S i).testBit i
      · rw [hb] at e h36
        first
          | (rw [z_ior_zero _ (by omega)]; exact e)
          | exact absurd rfl h36
      · rw [hb] at e h36
        first
          | (rw [show ρ (38 + 3 * i + 2) = (q_n ρ (38 + 3 * i + 2) : Int) from (Int.toNat_of_nonneg (hP _ (by omega))).symm, z_ior_n _ _ (by omega) (by omega)]; exact e)
          | exact absurd h36 (by decide)
    · refine p_aload_n 40 dX12_allBefore_39 rfl rfl (by decide) ?_
      refine p_bipush 42 dX12_allBefore_40 rfl ?_
      refine p_iconst 43 dX12_allBefore_42 ?_
      refine p_iload 45 dX12_allBefore_43 rfl ?_
      refine p_imul 46 dX12_allBefore_45 ?_
      refine p_iadd 47 dX12_allBefore_46 ?_
      refine p_iconst 48 dX12_allBefore_47 ?_
      refine p_iadd 49 dX12_allBefore_48 ?_
      refine p_ialdn 128 50 (38 + 3 * i + 2) dX12_allBefore_49 rfl (by omega) (by omega) ?_
      rw [hE _ (by omega)]
      refine p_goto 54 dX12_allBefore_50 ?_
      refine p_ior 55 dX12_allBefore_54 ?_
      refine p_istore_n 56 dX12_allBefore_55 rfl (Nat.le_of_ble_eq_true rfl) rfl rfl ?_
      dsimp only [List.set]
      refine p_iinc 59 dX12_allBefore_56 rfl rfl rfl ?_
      dsimp only [List.set]
      refine p_goto 22 dX12_allBefore_59 ?_
      have e := ih (i + 1) (by omega)
      have er : q_abK (q_n ρ) S (i + 1) = if (q_abK (q_n ρ) S i).testBit i then q_abK (q_n ρ) S i ||| q_n ρ (38 + 3 * i + 2) else q_abK (q_n ρ) S i := rfl
      rw [er] at e
      cases hb : (q_abK (q_n ρ) S i).testBit i
      · rw [hb] at e h36
        first
          | (rw [z_ior_zero _ (by omega)]; exact e)
          | exact absurd rfl h36
      · rw [hb] at e h36
        first
          | (rw [show ρ (38 + 3 * i + 2) = (q_n ρ (38 + 3 * i + 2) : Int) from (Int.toNat_of_nonneg (hP _ (by omega))).symm, z_ior_n _ _ (by omega) (by omega)]; exact e)
          | exact absurd h36 (by decide)
theorem l_abN_128 {l : Launch} {X : ZX} {M : ZM} {ρ : Nat → Int} (hE : ∀ i, i < 421 → M 128 i = ρ i) (hB : ∀ k, k < 7 → q_n ρ (38 + 3 * k + 2) < 128) (hP : ∀ i, i < 421 → 0 ≤ ρ i) {w : Nat} (hw : w < 7) : ∀ (j i : Nat), i + j = 7 → ∀ o4 : Option ZV, zP l X 1 tX12_allBefore 13 [some (zr 128), some (zi (w : Int)), some (zi (q_abN (q_n ρ) (q_n ρ (38 + 3 * w + 2)) i : Int)), some (zi (i : Int)), o4] [] M (fun r M' => ∃ a, r = some (zi a) ∧ (a = (q_ab (q_n ρ) w : Int) ∧ M' = M)) := by
  intro j
  induction j with
  | zero =>
    intro i hi o4
    refine p_iload_n 14 dX12_allBefore_13 rfl rfl ?_
    refine p_bipush 16 dX12_allBefore_14 rfl ?_
    refine p_icmp_ge 68 19 dX12_allBefore_16 (by omega) (by omega) (by omega) (by omega) (fun h16 => ?_) (fun h16 => absurd (by omega) (fun h9 : False => h9))
    refine p_iload_n 69 dX12_allBefore_68 rfl rfl ?_
    refine p_iret dX12_allBefore_69 rfl ?_
    rw [Nat.add_zero] at hi
    exact ⟨_, rfl, by unfold q_ab; rw [hi], rfl⟩
  | succ j ih =>
    intro i hi o4
    refine p_iload_n 14 dX12_allBefore_13 rfl rfl ?_
    refine p_bipush 16 dX12_allBefore_14 rfl ?_
    refine p_icmp_ge 68 19 dX12_allBefore_16 (by omega) (by omega) (by omega) (by omega) (fun h16 => absurd (by omega) (fun h9 : False => h9)) (fun h16 => ?_)
    refine p_iconst 20 dX12_allBefore_19 ?_
    refine p_istore 22 dX12_allBefore_20 (Nat.le_of_ble_eq_true rfl) rfl rfl ?_
    dsimp only [List.set]
    refine l_abK_128 hE hB hP (S := q_abN (q_n ρ) (q_n ρ (38 + 3 * w + 2)) i) (m := i) (q_abN_lt hB (hB w hw) i) ?_ 7 0 rfl
    refine p_iinc 65 dX12_allBefore_62 rfl rfl rfl ?_
    dsimp only [List.set]
    refine p_goto 13 dX12_allBefore_65 ?_
    exact ih (i + 1) (by omega) _
theorem s_allBefore_128 {l : Launch} {X : ZX} {M : ZM} {ρ : Nat → Int} (hE : ∀ i, i < 421 → M 128 i = ρ i) (hB : ∀ k, k < 7 → q_n ρ (38 + 3 * k + 2) < 128) (hP : ∀ i, i < 421 → 0 ≤ ρ i) {w : Nat} (hw : w < 7) : zCi l X 1 yX12_allBefore tX12_allBefore [zr 128, zi (w : Int)] M (fun a M' => a = (q_ab (q_n ρ) w : Int) ∧ M' = M) := by
  refine zC.of [some (zr 128), some (zi (w : Int)), none, none, none] (by decide +kernel) rfl rfl (Nat.le_of_ble_eq_true rfl) rfl ?_
  refine p_aload_n 1 dX12_allBefore_0 rfl rfl (by decide) ?_
  refine p_bipush 3 dX12_allBefore_1 rfl ?_
  refine p_iconst 4 dX12_allBefore_3 ?_
  refine p_iload_n 5 dX12_allBefore_4 rfl rfl ?_
  refine p_imul 6 dX12_allBefore_5 ?_
  refine p_iadd 7 dX12_allBefore_6 ?_
  refine p_iconst 8 dX12_allBefore_7 ?_
  refine p_iadd 9 dX12_allBefore_8 ?_
  refine p_ialdn 128 10 (38 + 3 * w + 2) dX12_allBefore_9 rfl (by omega) (by omega) ?_
  rw [hE _ (by omega), show ρ (38 + 3 * w + 2) = (q_n ρ (38 + 3 * w + 2) : Int) from (Int.toNat_of_nonneg (hP _ (by omega))).symm]
  refine p_istore_n 11 dX12_allBefore_10 rfl (Nat.le_of_ble_eq_true rfl) rfl rfl ?_
  dsimp only [List.set]
  refine p_iconst 12 dX12_allBefore_11 ?_
  refine p_istore_n 13 dX12_allBefore_12 rfl (Nat.le_of_ble_eq_true rfl) rfl rfl ?_
  dsimp only [List.set]
  exact l_abN_128 hE hB hP hw 7 0 rfl _
theorem z_lrem_n (a b : Nat) (ha : a < 2147483648) (hb : b < 2147483648) : z_lrem (a : Int) (b : Int) = ((a % b : Nat) : Int) := by
  unfold z_lrem
  have h1 := w64_id (n := (a : Int)) (by omega) (by omega)
  have h2 := w64_id (n := (b : Int)) (by omega) (by omega)
  unfold w64 at h1 h2
  have hle : a / b ≤ a := Nat.div_le_self a b
  have hd : (Int64.ofInt (a : Int) / Int64.ofInt (b : Int)).toInt = ((a / b : Nat) : Int) := by
    rw [Int64.toInt_div, h1, h2]
    have e : ((Int64.size : Nat) : Int) = 18446744073709551616 := rfl
    have e3 : (a : Int).tdiv (b : Int) = ((a / b : Nat) : Int) := by
      rw [Int.tdiv_eq_ediv_of_nonneg (by omega)]
      norm_cast
    rw [e3]
    generalize a / b = q at hle ⊢
    clear e3
    exact Int.bmod_eq_of_le (by omega) (by omega)
  have e1 : Int64.ofInt (a : Int) / Int64.ofInt (b : Int) = Int64.ofInt ((a / b : Nat) : Int) := by
    rw [← hd, Int64.ofInt_toInt]
  rw [e1, ← Int64.ofInt_mul, ← Int64.ofInt_sub]
  have e2 : (a : Int) - ((a / b : Nat) : Int) * (b : Int) = ((a % b : Nat) : Int) := by
    have := Nat.div_add_mod a b
    have h9 : (a : Int) = (b : Int) * ((a / b : Nat) : Int) + ((a % b : Nat) : Int) := by exact_mod_cast this.symm
    rw [Int.mul_comm ((a / b : Nat) : Int) (b : Int)]
    omega
  rw [e2]
  have hle2 : a % b ≤ a := Nat.mod_le a b
  exact w64_id (by omega) (by omega)
theorem z_ldiv_n (a b : Nat) (ha : a < 2147483648) (hb : b < 2147483648) : z_ldiv (a : Int) (b : Int) = ((a / b : Nat) : Int) := by
  unfold z_ldiv
  have h1 := w64_id (n := (a : Int)) (by omega) (by omega)
  have h2 := w64_id (n := (b : Int)) (by omega) (by omega)
  unfold w64 at h1 h2
  have hle : a / b ≤ a := Nat.div_le_self a b
  rw [Int64.toInt_div, h1, h2]
  have e : ((Int64.size : Nat) : Int) = 18446744073709551616 := rfl
  have e3 : (a : Int).tdiv (b : Int) = ((a / b : Nat) : Int) := by
    rw [Int.tdiv_eq_ediv_of_nonneg (by omega)]
    norm_cast
  rw [e3]
  generalize a / b = q at hle ⊢
  clear e3
  exact Int.bmod_eq_of_le (by omega) (by omega)
/-- a share in lowest words: the upper or the lower number -/
def q_low (u v : Nat) (b : Int) : Int := (((if b = 0 then u else v) / Nat.gcd u v : Nat) : Int)
theorem l_lowest {l : Launch} {X : ZX} {M : ZM} {d : Nat} {u v : Nat} {b : Int} (hb : b = 0 ∨ b = 1) (hu : u < 2147483648) (hv : v < 2147483648) : ∀ (f x y : Nat), y ≤ f → x < 2147483648 → y < 2147483648 → 0 < x + y → Nat.gcd y x = Nat.gcd u v → ∀ o9 : Option ZV, zP l X d tX12_lowest 6 [some (zl (u : Int)), none, some (zl (v : Int)), none, some (zi b), some (zl (x : Int)), none, some (zl (y : Int)), none, o9, none] [] M (fun r M' => ∃ a, r = some (zl a) ∧ (a = q_low u v b ∧ M' = M)) := by
  intro f
  induction f with
  | zero =>
    intro x y hf hx hy hp hg o9
    have e : y = 0 := by omega
    subst e
    have ec : z_lcmp ((0 : Nat) : Int) 0 = 0 := by decide
    refine p_lload 8 dX12_lowest_6 rfl ?_
    refine p_lconst (z := 0) 9 dX12_lowest_8 rfl ?_
    refine p_lcmp 10 dX12_lowest_9 ?_
    refine p_if_eq 31 13 dX12_lowest_10 (by rw [ec]; decide) (by rw [ec]; decide) (fun h10 => ?_) (fun h10 => absurd (h10 ec) (fun h9 : False => h9))
    refine p_iload 33 dX12_lowest_31 rfl ?_
    refine p_if_eq 40 36 dX12_lowest_33 (by omega) (by omega) (fun h33 => ?_) (fun h33 => ?_)
    · refine p_lload_n 41 dX12_lowest_40 rfl rfl ?_
      refine p_lload 43 dX12_lowest_41 rfl ?_
      refine p_ldiv 44 dX12_lowest_43 (by rw [w64_id (by omega) (by omega)]; omega) ?_
      refine p_lret dX12_lowest_44 rfl ?_
      rw [Nat.gcd_zero_left] at hg
      refine ⟨_, rfl, ?_, rfl⟩
      unfold q_low
      rw [← hg]
      first
        | (rw [if_neg (by omega)]; exact z_ldiv_n v x hv hx)
        | (rw [if_pos (by omega)]; exact z_ldiv_n u x hu hx)
    · refine p_lload_n 37 dX12_lowest_36 rfl rfl ?_
      refine p_goto 41 dX12_lowest_37 ?_
      refine p_lload 43 dX12_lowest_41 rfl ?_
      refine p_ldiv 44 dX12_lowest_43 (by rw [w64_id (by omega) (by omega)]; omega) ?_
      refine p_lret dX12_lowest_44 rfl ?_
      rw [Nat.gcd_zero_left] at hg
      refine ⟨_, rfl, ?_, rfl⟩
      unfold q_low
      rw [← hg]
      first
        | (rw [if_neg (by omega)]; exact z_ldiv_n v x hv hx)
        | (rw [if_pos (by omega)]; exact z_ldiv_n u x hu hx)
  | succ f ih =>
    intro x y hf hx hy hp hg o9
    by_cases e0 : y = 0
    · subst e0
      have ec : z_lcmp ((0 : Nat) : Int) 0 = 0 := by decide
      refine p_lload 8 dX12_lowest_6 rfl ?_
      refine p_lconst (z := 0) 9 dX12_lowest_8 rfl ?_
      refine p_lcmp 10 dX12_lowest_9 ?_
      refine p_if_eq 31 13 dX12_lowest_10 (by rw [ec]; decide) (by rw [ec]; decide) (fun h10 => ?_) (fun h10 => absurd (h10 ec) (fun h9 : False => h9))
      refine p_iload 33 dX12_lowest_31 rfl ?_
      refine p_if_eq 40 36 dX12_lowest_33 (by omega) (by omega) (fun h33 => ?_) (fun h33 => ?_)
      · refine p_lload_n 41 dX12_lowest_40 rfl rfl ?_
        refine p_lload 43 dX12_lowest_41 rfl ?_
        refine p_ldiv 44 dX12_lowest_43 (by rw [w64_id (by omega) (by omega)]; omega) ?_
        refine p_lret dX12_lowest_44 rfl ?_
        rw [Nat.gcd_zero_left] at hg
        refine ⟨_, rfl, ?_, rfl⟩
        unfold q_low
        rw [← hg]
        first
          | (rw [if_neg (by omega)]; exact z_ldiv_n v x hv hx)
          | (rw [if_pos (by omega)]; exact z_ldiv_n u x hu hx)
      · refine p_lload_n 37 dX12_lowest_36 rfl rfl ?_
        refine p_goto 41 dX12_lowest_37 ?_
        refine p_lload 43 dX12_lowest_41 rfl ?_
        refine p_ldiv 44 dX12_lowest_43 (by rw [w64_id (by omega) (by omega)]; omega) ?_
        refine p_lret dX12_lowest_44 rfl ?_
        rw [Nat.gcd_zero_left] at hg
        refine ⟨_, rfl, ?_, rfl⟩
        unfold q_low
        rw [← hg]
        first
          | (rw [if_neg (by omega)]; exact z_ldiv_n v x hv hx)
          | (rw [if_pos (by omega)]; exact z_ldiv_n u x hu hx)
    · have ec : z_lcmp (y : Int) 0 = 1 := by
        unfold z_lcmp
        rw [show w64 0 = 0 from by decide, w64_id (by omega) (by omega), if_pos (by omega)]
      have hlt : x % y < y := Nat.mod_lt x (by omega)
      refine p_lload 8 dX12_lowest_6 rfl ?_
      refine p_lconst (z := 0) 9 dX12_lowest_8 rfl ?_
      refine p_lcmp 10 dX12_lowest_9 ?_
      refine p_if_eq 31 13 dX12_lowest_10 (by rw [ec]; decide) (by rw [ec]; decide) (fun h10 => absurd (by rw [ec] at h10; omega) (fun h9 : False => h9)) (fun h10 => ?_)
      refine p_lload 15 dX12_lowest_13 rfl ?_
      refine p_lload 17 dX12_lowest_15 rfl ?_
      refine p_lrem 18 dX12_lowest_17 (by rw [w64_id (by omega) (by omega)]; omega) ?_
      rw [z_lrem_n x y hx hy]
      refine p_lstore 20 dX12_lowest_18 (Nat.le_of_ble_eq_true rfl) rfl rfl ?_
      dsimp only [List.set]
      refine p_lload 22 dX12_lowest_20 rfl ?_
      refine p_lstore 24 dX12_lowest_22 (Nat.le_of_ble_eq_true rfl) rfl rfl ?_
      dsimp only [List.set]
      refine p_lload 26 dX12_lowest_24 rfl ?_
      refine p_lstore 28 dX12_lowest_26 (Nat.le_of_ble_eq_true rfl) rfl rfl ?_
      dsimp only [List.set]
      refine p_goto 6 dX12_lowest_28 ?_
      refine ih y (x % y) (by omega) hy (by omega) (by omega) ?_ _
      rw [← hg, Nat.gcd_rec y x]
theorem s_lowest {l : Launch} {X : ZX} {M : ZM} {u v : Nat} {b : Int} (hb : b = 0 ∨ b = 1) (hu : u < 2147483648) (hv : v < 2147483648) (hp : 0 < v) : zCl l X 0 yX12_lowest tX12_lowest [zl (u : Int), zl (v : Int), zi b] M (fun a M' => a = q_low u v b ∧ M' = M) := by
  refine zC.of [some (zl (u : Int)), none, some (zl (v : Int)), none, some (zi b), none, none, none, none, none, none] (by decide +kernel) rfl rfl (Nat.le_of_ble_eq_true rfl) rfl ?_
  refine p_lload_n 1 dX12_lowest_0 rfl rfl ?_
  refine p_lstore 3 dX12_lowest_1 (Nat.le_of_ble_eq_true rfl) rfl rfl ?_
  dsimp only [List.set]
  refine p_lload_n 4 dX12_lowest_3 rfl rfl ?_
  refine p_lstore 6 dX12_lowest_4 (Nat.le_of_ble_eq_true rfl) rfl rfl ?_
  dsimp only [List.set]
  exact l_lowest hb hu hv u v u (Nat.le_refl u) hv hu (by omega) rfl _
theorem w32_nat {n : Nat} (h : n < 2147483648) : w32 (n : Int) = (n : Int) := w32_id (by omega) (by omega)
/-- steps of the division with remainder halve what is over in two -/
theorem q_euclid {a b : Nat} (hb : 0 < b) (h : 0 < a % b) : 2 * (b % (a % b)) ≤ b := by
  have h1 : a % b < b := Nat.mod_lt a hb
  have h2 : b % (a % b) < a % b := Nat.mod_lt b h
  have h3 := Nat.div_add_mod b (a % b)
  have h4 : 1 ≤ b / (a % b) := Nat.div_pos (by omega) h
  have h5 : a % b * 1 ≤ a % b * (b / (a % b)) := Nat.mul_le_mul_left _ h4
  omega
theorem l_cd0 {l : Launch} {X : ZX} {M : ZM} {d : Nat} {u v i a : Nat} (hi : i ≤ 64) (o5 : Option ZV) : zP l X d tX11_commonDivisor 7 [some (zi (u : Int)), some (zi (v : Int)), some (zi (a : Int)), some (zi (((0 : Nat) : Int) : Int)), some (zi (i : Int)), o5] [] M (fun r M' => ∃ x, r = some (zi x) ∧ (x = (a : Int) ∧ M' = M)) := by
  refine p_iload 9 dX11_commonDivisor_7 rfl ?_
  refine p_bipush 11 dX11_commonDivisor_9 rfl ?_
  refine p_icmp_ge 34 14 dX11_commonDivisor_11 (by omega) (by omega) (by omega) (by omega) (fun h11 => ?_) (fun h11 => ?_)
  · refine p_iload_n 35 dX11_commonDivisor_34 rfl rfl ?_
    refine p_iret dX11_commonDivisor_35 rfl ?_
    exact ⟨_, rfl, rfl, rfl⟩
  · refine p_iload_n 15 dX11_commonDivisor_14 rfl rfl ?_
    refine p_if_le 34 18 dX11_commonDivisor_15 (by omega) (by omega) (fun h15 => ?_) (fun h15 => absurd (by omega) (fun h9 : False => h9))
    refine p_iload_n 35 dX11_commonDivisor_34 rfl rfl ?_
    refine p_iret dX11_commonDivisor_35 rfl ?_
    exact ⟨_, rfl, rfl, rfl⟩
theorem l_cd1 {l : Launch} {X : ZX} {M : ZM} {d : Nat} {u v i a b : Nat} {Q : Option ZV → ZM → Prop} (hi : i < 64) (ha : a < 2147483648) (hb : b < 2147483648) (h0 : 0 < b) (o5 : Option ZV) (kk : ∀ o : Option ZV, zP l X d tX11_commonDivisor 7 [some (zi (u : Int)), some (zi (v : Int)), some (zi (b : Int)), some (zi (((a % b : Nat) : Int) : Int)), some (zi (((i + 1 : Nat) : Int) : Int)), o] [] M Q) : zP l X d tX11_commonDivisor 7 [some (zi (u : Int)), some (zi (v : Int)), some (zi (a : Int)), some (zi (b : Int)), some (zi (i : Int)), o5] [] M Q := by
  refine p_iload 9 dX11_commonDivisor_7 rfl ?_
  refine p_bipush 11 dX11_commonDivisor_9 rfl ?_
  refine p_icmp_ge 34 14 dX11_commonDivisor_11 (by omega) (by omega) (by omega) (by omega) (fun h11 => absurd (by omega) (fun h9 : False => h9)) (fun h11 => ?_)
  refine p_iload_n 15 dX11_commonDivisor_14 rfl rfl ?_
  refine p_if_le 34 18 dX11_commonDivisor_15 (by omega) (by omega) (fun h15 => absurd (by omega) (fun h9 : False => h9)) (fun h15 => ?_)
  refine p_iload_n 19 dX11_commonDivisor_18 rfl rfl ?_
  refine p_iload_n 20 dX11_commonDivisor_19 rfl rfl ?_
  refine p_irem 21 dX11_commonDivisor_20 (by rw [w32_id (by omega) (by omega)]; omega) ?_
  rw [z_irem_n a b ha hb]
  refine p_istore 23 dX11_commonDivisor_21 (Nat.le_of_ble_eq_true rfl) rfl rfl ?_
  dsimp only [List.set]
  refine p_iload_n 24 dX11_commonDivisor_23 rfl rfl ?_
  refine p_istore_n 25 dX11_commonDivisor_24 rfl (Nat.le_of_ble_eq_true rfl) rfl rfl ?_
  dsimp only [List.set]
  refine p_iload 27 dX11_commonDivisor_25 rfl ?_
  refine p_istore_n 28 dX11_commonDivisor_27 rfl (Nat.le_of_ble_eq_true rfl) rfl rfl ?_
  dsimp only [List.set]
  refine p_iinc 31 dX11_commonDivisor_28 rfl rfl rfl ?_
  dsimp only [List.set]
  refine p_goto 7 dX11_commonDivisor_31 ?_
  exact kk _
theorem l_cd {l : Launch} {X : ZX} {M : ZM} {d : Nat} {u v : Nat} : ∀ (k i a b : Nat), i + 2 * k ≤ 64 → a < 2147483648 → b < 2147483648 → b < 2 ^ k → Nat.gcd b a = Nat.gcd u v → ∀ o5 : Option ZV, zP l X d tX11_commonDivisor 7 [some (zi (u : Int)), some (zi (v : Int)), some (zi (a : Int)), some (zi (b : Int)), some (zi (i : Int)), o5] [] M (fun r M' => ∃ x, r = some (zi x) ∧ (x = (Nat.gcd u v : Int) ∧ M' = M)) := by
  intro k
  induction k with
  | zero =>
    intro i a b hi ha hb hk hg o5
    have e : b = 0 := by simpa using hk
    subst e
    rw [Nat.gcd_zero_left] at hg
    rw [← hg]
    exact l_cd0 (by omega) o5
  | succ k ih =>
    intro i a b hi ha hb hk hg o5
    by_cases e0 : b = 0
    · subst e0
      rw [Nat.gcd_zero_left] at hg
      rw [← hg]
      exact l_cd0 (by omega) o5
    · have h1 : a % b < b := Nat.mod_lt a (by omega)
      refine l_cd1 (by omega) ha hb (by omega) o5 (fun o => ?_)
      have hg1 : Nat.gcd (a % b) b = Nat.gcd u v := by rw [← hg, Nat.gcd_rec b a]
      by_cases e1 : a % b = 0
      · rw [e1] at hg1 ⊢
        rw [Nat.gcd_zero_left] at hg1
        rw [← hg1]
        exact l_cd0 (by omega) o
      · have h2 := q_euclid (a := a) (b := b) (by omega) (by omega)
        have h3 : b % (a % b) < a % b := Nat.mod_lt b (by omega)
        refine l_cd1 (by omega) hb (by omega) (by omega) o (fun o => ?_)
        refine ih (i + 1 + 1) (a % b) (b % (a % b)) (by omega) (by omega) (by omega) ?_ ?_ o
        · rw [Nat.pow_succ] at hk
          omega
        · rw [← hg1, Nat.gcd_rec (a % b) b]
theorem s_commonDivisor {l : Launch} {X : ZX} {M : ZM} {u v : Nat} (hu : u < 2147483648) (hv : v < 2147483648) : zCi l X 0 yX11_commonDivisor tX11_commonDivisor [zi (u : Int), zi (v : Int)] M (fun x M' => x = (Nat.gcd u v : Int) ∧ M' = M) := by
  refine zC.of [some (zi (u : Int)), some (zi (v : Int)), none, none, none, none] (by decide +kernel) rfl rfl (Nat.le_of_ble_eq_true rfl) rfl ?_
  refine p_iload_n 1 dX11_commonDivisor_0 rfl rfl ?_
  refine p_istore_n 2 dX11_commonDivisor_1 rfl (Nat.le_of_ble_eq_true rfl) rfl rfl ?_
  dsimp only [List.set]
  refine p_iload_n 3 dX11_commonDivisor_2 rfl rfl ?_
  refine p_istore_n 4 dX11_commonDivisor_3 rfl (Nat.le_of_ble_eq_true rfl) rfl rfl ?_
  dsimp only [List.set]
  refine p_iconst 5 dX11_commonDivisor_4 ?_
  refine p_istore 7 dX11_commonDivisor_5 (Nat.le_of_ble_eq_true rfl) rfl rfl ?_
  dsimp only [List.set]
  exact l_cd 31 0 u v (by decide) hu hv hv (Nat.gcd_comm v u) _
theorem s_grantPart {l : Launch} {X : ZX} {M : ZM} {u v : Nat} {b : Int} (hb : b = 0 ∨ b = 1) (hu : u < 2147483648) (hv : v < 2147483648) (hp : 0 < v) : zCl l X 1 yX11_grantPart tX11_grantPart [zr 0, zi (u : Int), zi (v : Int), zi b] M (fun a M' => a = q_low u v b ∧ M' = zset M 0 2 0) := by
  have hg : 0 < Nat.gcd u v := Nat.gcd_pos_of_pos_right u hp
  have hg2 : Nat.gcd u v ≤ v := Nat.gcd_le_right u hp
  have hd1 : u / Nat.gcd u v ≤ u := Nat.div_le_self _ _
  have hd2 : v / Nat.gcd u v ≤ v := Nat.div_le_self _ _
  refine zC.of [some (zr 0), some (zi (u : Int)), some (zi (v : Int)), some (zi b), none] (by decide +kernel) rfl rfl (Nat.le_of_ble_eq_true rfl) rfl ?_
  refine p_aload_n 1 dX11_grantPart_0 rfl rfl (by decide) ?_
  refine p_iconst 2 dX11_grantPart_1 ?_
  refine p_putI 0 5 dX11_grantPart_2 wX11_111 rfl ?_
  refine p_iload_n 6 dX11_grantPart_5 rfl rfl ?_
  refine p_iload_n 7 dX11_grantPart_6 rfl rfl ?_
  refine p_callS2i 10 dX11_grantPart_7 (s_commonDivisor hu hv) lk_X11_384 mX11_commonDivisor (by decide) (Nat.le_of_ble_eq_true rfl) ?_
  rintro _ _ ⟨rfl, rfl⟩
  refine p_istore 12 dX11_grantPart_10 (Nat.le_of_ble_eq_true rfl) rfl rfl ?_
  dsimp only [List.set]
  refine p_iload 14 dX11_grantPart_12 rfl ?_
  refine p_if_gt 27 17 dX11_grantPart_14 (by omega) (by omega) (fun h14 => ?_) (fun h14 => absurd (by omega) (fun h9 : False => h9))
  refine p_iload_n 28 dX11_grantPart_27 rfl rfl ?_
  refine p_if_eq 35 31 dX11_grantPart_28 (by omega) (by omega) (fun h28 => ?_) (fun h28 => ?_)
  · refine p_iload_n 36 dX11_grantPart_35 rfl rfl ?_
    refine p_iload 38 dX11_grantPart_36 rfl ?_
    refine p_idiv 39 dX11_grantPart_38 (by rw [w32_id (by omega) (by omega)]; omega) ?_
    refine p_i2l 40 dX11_grantPart_39 ?_
    refine p_lret dX11_grantPart_40 rfl ?_
    refine ⟨_, rfl, ?_, rfl⟩
    unfold q_low
    first
      | (rw [if_neg (by omega), z_idiv_n v _ hv (by omega)]; exact w32_nat (Nat.lt_of_le_of_lt hd2 hv))
      | (rw [if_pos (by omega), z_idiv_n u _ hu (by omega)]; exact w32_nat (Nat.lt_of_le_of_lt hd1 hu))
  · refine p_iload_n 32 dX11_grantPart_31 rfl rfl ?_
    refine p_goto 36 dX11_grantPart_32 ?_
    refine p_iload 38 dX11_grantPart_36 rfl ?_
    refine p_idiv 39 dX11_grantPart_38 (by rw [w32_id (by omega) (by omega)]; omega) ?_
    refine p_i2l 40 dX11_grantPart_39 ?_
    refine p_lret dX11_grantPart_40 rfl ?_
    refine ⟨_, rfl, ?_, rfl⟩
    unfold q_low
    first
      | (rw [if_neg (by omega), z_idiv_n v _ hv (by omega)]; exact w32_nat (Nat.lt_of_le_of_lt hd2 hv))
      | (rw [if_pos (by omega), z_idiv_n u _ hu (by omega)]; exact w32_nat (Nat.lt_of_le_of_lt hd1 hu))
