/-! FITS -/
theorem q_part_le {ρ : Nat → Int} (h6 : q_n ρ 6 ≤ 6) (sh dn : Int) : q_part ρ sh dn ≤ 6 := by
  unfold q_part
  cases hq : q_first (fun o => decide (q_sg ρ o = sh) && decide (q_dd ρ o = dn)) (q_n ρ 6) with
  | none => exact Nat.le_refl 6
  | some w =>
    have := (q_first_some hq).1
    show w ≤ 6
    omega
theorem p6 {n : Nat} (h : n ≤ 6) : 2 ^ n ≤ 64 := Nat.pow_le_pow_right (n := 2) (by decide) h
def q_pc (ρ : Nat → Int) (sh : Int) (p : Nat) : Nat → Nat := q_cntp (fun S => q_fit ρ S && decide (q_part ρ sh (q_done ρ sh S) = p))
theorem q_pc_skip {ρ : Nat → Int} {sh : Int} {i : Nat} (h : ¬ q_fit ρ i = true) (p : Nat) : q_pc ρ sh p (i + 1) = q_pc ρ sh p i := by
  show q_cntp _ i + (if (q_fit ρ i && _) = true then 1 else 0) = _
  rw [Bool.eq_false_iff.mpr h]
  rfl
theorem q_pc_take {ρ : Nat → Int} {sh : Int} {i : Nat} (h : q_fit ρ i = true) (p : Nat) : q_pc ρ sh p (i + 1) = q_pc ρ sh p i + (if q_part ρ sh (q_done ρ sh i) = p then 1 else 0) := by
  show q_cntp _ i + (if (q_fit ρ i && decide (q_part ρ sh (q_done ρ sh i) = p)) = true then 1 else 0) = _
  rw [h, Bool.true_and]
  by_cases e : q_part ρ sh (q_done ρ sh i) = p
  · rw [if_pos (decide_eq_true e), if_pos e]
    rfl
  · rw [if_neg (by rw [decide_eq_false e]; decide), if_neg e]
    rfl
theorem q_mx0_le (ρ : Nat → Int) (sh : Int) : ∀ i, q_max (fun _ => true) (q_parts ρ sh) 0 i ≤ 2 ^ q_n ρ 6 := by
  intro i
  exact q_max_le (Nat.zero_le _) (fun a _ _ => q_cntp_le _ _)
theorem l_mostC {l : Launch} {X : ZX} {M : ZM} {c : Nat} (hc : isC c) {ρ : Nat → Int} {h : Int} {N : ZM} (hW : zWc N) (hC : ICc ρ h c N) (hR : wfR ρ) {sh : Int} : ∀ (j i : Nat), i + j = 7 → ∀ {M : ZM}, (∀ a, a ≠ 123 → M a = N a) → (∀ p, p < 7 → M 123 p = (q_parts ρ sh p : Int)) → zP l X 3 tX1_mostLeft 97 [some (zr 121), some (zr ((c + 17 : Nat) : Int)), some (zl sh), none, some (zi (q_max (fun _ => true) (q_parts ρ sh) 0 i : Int)), some (zi (i : Int))] [] M (fun r M' => ∃ a, r = some (zi a) ∧ a = (q_most ρ sh : Int) ∧ ∀ a, a ≠ 123 → M' a = N a) := by
  have e6 : ρ 6 = (q_n ρ 6 : Int) := hR.n (by decide)
  have b6 := hR.2.1.2.2.2.2.2.2.1
  have e7 : ρ 7 = (q_n ρ 7 : Int) := hR.n (by decide)
  have b7 := hR.2.1.2.2.2.2.2.2.2
  have hcl := hc.lt
  have hp6 := p6 (n := q_n ρ 6) (by omega)
  intro j
  induction j with
  | zero =>
    intro i hi M hM hk
    have hW9 : zWc M := hW.fr (fun q hq => by
      have hr : ∀ q ∈ zwC, q.1 ≠ 123 := by decide +kernel
      rw [hM _ (hr q hq)])
    refine p_iload 99 dX1_mostLeft_97 rfl ?_
    refine p_bipush 101 dX1_mostLeft_99 rfl ?_
    refine p_icmp_gt 124 104 dX1_mostLeft_101 (by omega) (by omega) (by omega) (by omega) (fun h101 => ?_) (fun h101 => absurd (by omega) (fun h9 : False => h9))
    refine p_iload 126 dX1_mostLeft_124 rfl ?_
    refine p_iret dX1_mostLeft_126 rfl ?_
    rw [Nat.add_zero] at hi
    subst hi
    exact ⟨_, rfl, rfl, hM⟩
  | succ j ih =>
    intro i hi M hM hk
    have hW9 : zWc M := hW.fr (fun q hq => by
      have hr : ∀ q ∈ zwC, q.1 ≠ 123 := by decide +kernel
      rw [hM _ (hr q hq)])
    have hm0 := q_mx0_le ρ sh i
    have hpl : q_parts ρ sh i ≤ 2 ^ q_n ρ 6 := q_cntp_le _ _
    refine p_iload 99 dX1_mostLeft_97 rfl ?_
    refine p_bipush 101 dX1_mostLeft_99 rfl ?_
    refine p_icmp_gt 124 104 dX1_mostLeft_101 (by omega) (by omega) (by omega) (by omega) (fun h101 => absurd (by omega) (fun h9 : False => h9)) (fun h101 => ?_)
    refine p_iload 106 dX1_mostLeft_104 rfl ?_
    refine p_aload_n 107 dX1_mostLeft_106 rfl rfl (by decide) ?_
    refine p_getR 121 110 dX1_mostLeft_107 fX1_15 rfl (hW9 (121, 7, 123) (by decide)) ?_
    refine p_iload 112 dX1_mostLeft_110 rfl ?_
    refine p_ialdn 123 113 (i) dX1_mostLeft_112 rfl (by omega) (by omega) ?_
    rw [hk i (by omega)]
    refine p_mmax 116 dX1_mostLeft_113 lk_X1_77 (by decide) (Nat.le_of_ble_eq_true rfl) (by omega) (by omega) (by omega) (by omega) ?_
    refine p_istore 118 dX1_mostLeft_116 (Nat.le_of_ble_eq_true rfl) rfl rfl ?_
    dsimp only [List.set]
    refine p_iinc 121 dX1_mostLeft_118 rfl rfl rfl ?_
    dsimp only [List.set]
    refine p_goto 97 dX1_mostLeft_121 ?_
    have e := ih (i + 1) (by omega) hM hk
    rw [q_max_pos (p := fun _ => true) rfl] at e
    have em : ((max (q_max (fun _ => true) (q_parts ρ sh) 0 i) (q_parts ρ sh i) : Nat) : Int) = if ((q_max (fun _ => true) (q_parts ρ sh) 0 i : Nat) : Int) < ((q_parts ρ sh i : Nat) : Int) then ((q_parts ρ sh i : Nat) : Int) else ((q_max (fun _ => true) (q_parts ρ sh) 0 i : Nat) : Int) := by
      split <;> omega
    rw [em] at e
    exact e
theorem l_mostB {l : Launch} {X : ZX} {M : ZM} {c : Nat} (hc : isC c) {ρ : Nat → Int} {h : Int} {N : ZM} (hW : zWc N) (hC : ICc ρ h c N) (hR : wfR ρ) {sh : Int} (hsh : 0 ≤ sh ∧ sh < 1099511627776) (hfit : ∀ S, S < 2 ^ q_n ρ 6 → N 122 S = if q_fit ρ S = true then 1 else 0) : ∀ (j i : Nat), i + j = 2 ^ q_n ρ 6 → ∀ {M : ZM} (o5 : Option ZV), (∀ a, a ≠ 123 → M a = N a) → (∀ p, p < 7 → M 123 p = (q_pc ρ sh p i : Int)) → zP l X 3 tX1_mostLeft 27 [some (zr 121), some (zr ((c + 17 : Nat) : Int)), some (zl sh), none, some (zi (i : Int)), o5] [] M (fun r M' => ∃ a, r = some (zi a) ∧ a = (q_most ρ sh : Int) ∧ ∀ a, a ≠ 123 → M' a = N a) := by
  have e6 : ρ 6 = (q_n ρ 6 : Int) := hR.n (by decide)
  have b6 := hR.2.1.2.2.2.2.2.2.1
  have e7 : ρ 7 = (q_n ρ 7 : Int) := hR.n (by decide)
  have b7 := hR.2.1.2.2.2.2.2.2.2
  have hcl := hc.lt
  have hp6 := p6 (n := q_n ρ 6) (by omega)
  have hp0 : 0 < 2 ^ q_n ρ 6 := Nat.two_pow_pos _
  intro j
  induction j with
  | zero =>
    intro i hi M o5 hM hk
    have hW9 : zWc M := hW.fr (fun q hq => by
      have hr : ∀ q ∈ zwC, q.1 ≠ 123 := by decide +kernel
      rw [hM _ (hr q hq)])
    refine p_iload 29 dX1_mostLeft_27 rfl ?_
    refine p_aload_n 30 dX1_mostLeft_29 rfl rfl (by omega) ?_
    refine p_getI (c + 17) 33 dX1_mostLeft_30 fX1_30 hc.tt3.1 ?_
    rw [hM (c + 17) (by omega), hC.1.2.2.2.2.2.2.2.1, e6]
    refine p_callN1i 36 dX1_mostLeft_33 (s_fullBits (n := q_n ρ 6) (by omega)) ln_X1_33 mX11_fullBits (by decide) (Nat.le_of_ble_eq_true rfl) ?_
    rintro _ _ ⟨rfl, e9⟩
    have e9 := e9.symm
    subst e9
    refine p_icmp_gt 91 39 dX1_mostLeft_36 (by omega) (by omega) (by omega) (by omega) (fun h36 => ?_) (fun h36 => absurd (by omega) (fun h9 : False => h9))
    refine p_iconst 92 dX1_mostLeft_91 ?_
    refine p_istore 94 dX1_mostLeft_92 (Nat.le_of_ble_eq_true rfl) rfl rfl ?_
    dsimp only [List.set]
    refine p_iconst 95 dX1_mostLeft_94 ?_
    refine p_istore 97 dX1_mostLeft_95 (Nat.le_of_ble_eq_true rfl) rfl rfl ?_
    dsimp only [List.set]
    rw [Nat.add_zero] at hi
    subst hi
    exact l_mostC (l := l) (X := X) (M := M) hc hW hC hR 7 0 rfl hM hk
  | succ j ih =>
    intro i hi M o5 hM hk
    have hW9 : zWc M := hW.fr (fun q hq => by
      have hr : ∀ q ∈ zwC, q.1 ≠ 123 := by decide +kernel
      rw [hM _ (hr q hq)])
    have hC9 : ICc ρ h c M := hC.congr (fun a g1 g2 => hM a (by omega))
    have hpl := q_part_le (ρ := ρ) (by omega) sh (q_done ρ sh i)
    refine p_iload 29 dX1_mostLeft_27 rfl ?_
    refine p_aload_n 30 dX1_mostLeft_29 rfl rfl (by omega) ?_
    refine p_getI (c + 17) 33 dX1_mostLeft_30 fX1_30 hc.tt3.1 ?_
    rw [hM (c + 17) (by omega), hC.1.2.2.2.2.2.2.2.1, e6]
    refine p_callN1i 36 dX1_mostLeft_33 (s_fullBits (n := q_n ρ 6) (by omega)) ln_X1_33 mX11_fullBits (by decide) (Nat.le_of_ble_eq_true rfl) ?_
    rintro _ _ ⟨rfl, e9⟩
    have e9 := e9.symm
    subst e9
    refine p_icmp_gt 91 39 dX1_mostLeft_36 (by omega) (by omega) (by omega) (by omega) (fun h36 => absurd (by omega) (fun h9 : False => h9)) (fun h36 => ?_)
    refine p_aload_n 40 dX1_mostLeft_39 rfl rfl (by decide) ?_
    refine p_getR 121 43 dX1_mostLeft_40 fX1_9 rfl (hW9 (121, 6, 122) (by decide)) ?_
    refine p_iload 45 dX1_mostLeft_43 rfl ?_
    refine p_zaldn 122 46 (i) dX1_mostLeft_45 rfl (by omega) (by omega) ?_
    rw [hM 122 (by decide), hfit i (by omega)]
    refine p_if_eq 85 49 dX1_mostLeft_46 (by split <;> omega) (by split <;> omega) (fun h46 => ?_) (fun h46 => ?_)
    · have hno : ¬ q_fit ρ i = true := if_eq0 h46
      refine p_iinc 88 dX1_mostLeft_85 rfl rfl rfl ?_
      dsimp only [List.set]
      refine p_goto 27 dX1_mostLeft_88 ?_
      refine ih (i + 1) (by omega) _ hM (fun p hp => ?_)
      rw [q_pc_skip hno]
      exact hk p hp
    · have hyes : q_fit ρ i = true := if_neq0 h46
      refine p_aload_n 50 dX1_mostLeft_49 rfl rfl (by omega) ?_
      refine p_lload_n 51 dX1_mostLeft_50 rfl rfl ?_
      refine p_aload_n 52 dX1_mostLeft_51 rfl rfl (by omega) ?_
      refine p_lload_n 53 dX1_mostLeft_52 rfl rfl ?_
      refine p_iload 55 dX1_mostLeft_53 rfl ?_
      refine p_callV2l (c + 17) 58 dX1_mostLeft_55 (s_deedBy hc hW9 hC9 hR hsh (S := i) (by omega)) lk_X1_69 mX4_deedBy hc.tt3.1 rfl (by decide) (Nat.le_of_ble_eq_true rfl) ?_
      rintro _ _ ⟨rfl, e9⟩
      have e9 := e9.symm
      subst e9
      refine p_callV2i (c + 17) 61 dX1_mostLeft_58 (s_firstOfDeed hc hW9 hC9 hR hsh (q_done_bd hR sh i)) lk_X1_73 mX4_firstOfDeed hc.tt3.1 rfl (by decide) (Nat.le_of_ble_eq_true rfl) ?_
      rintro _ _ ⟨rfl, e9⟩
      have e9 := e9.symm
      subst e9
      generalize hfo : q_first (fun o => decide (q_sg ρ o = sh) && decide (q_dd ρ o = q_done ρ sh i)) (q_n ρ 6) = fo
      refine p_istore 63 dX1_mostLeft_61 (Nat.le_of_ble_eq_true rfl) rfl rfl ?_
      dsimp only [List.set]
      refine p_aload_n 64 dX1_mostLeft_63 rfl rfl (by decide) ?_
      refine p_getR 121 67 dX1_mostLeft_64 fX1_15 rfl (hW9 (121, 7, 123) (by decide)) ?_
      refine p_iload 69 dX1_mostLeft_67 rfl ?_
      refine p_iconst 70 dX1_mostLeft_69 ?_
      refine p_icmp_ne 78 73 dX1_mostLeft_70 (by cases fo with | none => decide | some w => (show _ ≤ (w : Int); omega)) (by cases fo with | none => decide | some w => (have := (q_first_some hfo).1; show (w : Int) < _; omega)) (by decide) (by decide) (fun h70 => ?_) (fun h70 => ?_)
      · have hcast : q_mn fo = ((q_part ρ sh (q_done ρ sh i) : Nat) : Int) := by
          unfold q_part
          rw [hfo]
          cases fo with
          | none => exact absurd rfl h70
          | some w => rfl
        refine p_iload 80 dX1_mostLeft_78 rfl ?_
        rw [hcast]
        refine p_dup2 81 dX1_mostLeft_80 ?_
        refine p_ialdn 123 82 (q_part ρ sh (q_done ρ sh i)) dX1_mostLeft_81 rfl rfl (by omega) ?_
        rw [hk _ (by omega)]
        refine p_iconst 83 dX1_mostLeft_82 ?_
        refine p_iadd 84 dX1_mostLeft_83 ?_
        refine p_iastn 123 85 (q_part ρ sh (q_done ρ sh i)) dX1_mostLeft_84 rfl rfl (by omega) ?_
        refine p_iinc 88 dX1_mostLeft_85 rfl rfl rfl ?_
        dsimp only [List.set]
        refine p_goto 27 dX1_mostLeft_88 ?_
        refine ih (i + 1) (by omega) _ (fun a ha => by rw [zset_ne _ ha]; exact hM a ha) (fun p hp => ?_)
        rw [q_pc_take hyes]
        by_cases e : q_part ρ sh (q_done ρ sh i) = p
        · rw [if_pos e, ← e, zset_at]
          rfl
        · rw [if_neg e, zset_k (fun g => e g.symm), hk p hp]
          rfl
      · have hpq : q_part ρ sh (q_done ρ sh i) = 6 := by
          unfold q_part
          rw [hfo]
          cases fo with
          | none => rfl
          | some w =>
            have : (w : Int) = -1 := Decidable.not_not.mp h70
            omega
        have hcast : (6 : Int) = ((q_part ρ sh (q_done ρ sh i) : Nat) : Int) := by rw [hpq]; rfl
        refine p_bipush 75 dX1_mostLeft_73 rfl ?_
        refine p_goto 80 dX1_mostLeft_75 ?_
        rw [hcast]
        refine p_dup2 81 dX1_mostLeft_80 ?_
        refine p_ialdn 123 82 (q_part ρ sh (q_done ρ sh i)) dX1_mostLeft_81 rfl rfl (by omega) ?_
        rw [hk _ (by omega)]
        refine p_iconst 83 dX1_mostLeft_82 ?_
        refine p_iadd 84 dX1_mostLeft_83 ?_
        refine p_iastn 123 85 (q_part ρ sh (q_done ρ sh i)) dX1_mostLeft_84 rfl rfl (by omega) ?_
        refine p_iinc 88 dX1_mostLeft_85 rfl rfl rfl ?_
        dsimp only [List.set]
        refine p_goto 27 dX1_mostLeft_88 ?_
        refine ih (i + 1) (by omega) _ (fun a ha => by rw [zset_ne _ ha]; exact hM a ha) (fun p hp => ?_)
        rw [q_pc_take hyes]
        by_cases e : q_part ρ sh (q_done ρ sh i) = p
        · rw [if_pos e, ← e, zset_at]
          rfl
        · rw [if_neg e, zset_k (fun g => e g.symm), hk p hp]
          rfl
theorem l_mostA {l : Launch} {X : ZX} {M : ZM} {c : Nat} (hc : isC c) {ρ : Nat → Int} {h : Int} {N : ZM} (hW : zWc N) (hC : ICc ρ h c N) (hR : wfR ρ) {sh : Int} (hsh : 0 ≤ sh ∧ sh < 1099511627776) (hfit : ∀ S, S < 2 ^ q_n ρ 6 → N 122 S = if q_fit ρ S = true then 1 else 0) : ∀ (j i : Nat), i + j = 7 → ∀ {M : ZM}, (∀ a, a ≠ 123 → M a = N a) → (∀ p, p < i → M 123 p = 0) → zP l X 3 tX1_mostLeft 3 [some (zr 121), some (zr ((c + 17 : Nat) : Int)), some (zl sh), none, some (zi (i : Int)), none] [] M (fun r M' => ∃ a, r = some (zi a) ∧ a = (q_most ρ sh : Int) ∧ ∀ a, a ≠ 123 → M' a = N a) := by
  have e6 : ρ 6 = (q_n ρ 6 : Int) := hR.n (by decide)
  have b6 := hR.2.1.2.2.2.2.2.2.1
  have e7 : ρ 7 = (q_n ρ 7 : Int) := hR.n (by decide)
  have b7 := hR.2.1.2.2.2.2.2.2.2
  have hcl := hc.lt
  have hp6 := p6 (n := q_n ρ 6) (by omega)
  intro j
  induction j with
  | zero =>
    intro i hi M hM hk
    have hW9 : zWc M := hW.fr (fun q hq => by
      have hr : ∀ q ∈ zwC, q.1 ≠ 123 := by decide +kernel
      rw [hM _ (hr q hq)])
    refine p_iload 5 dX1_mostLeft_3 rfl ?_
    refine p_bipush 7 dX1_mostLeft_5 rfl ?_
    refine p_icmp_gt 24 10 dX1_mostLeft_7 (by omega) (by omega) (by omega) (by omega) (fun h7 => ?_) (fun h7 => absurd (by omega) (fun h9 : False => h9))
    refine p_iconst 25 dX1_mostLeft_24 ?_
    refine p_istore 27 dX1_mostLeft_25 (Nat.le_of_ble_eq_true rfl) rfl rfl ?_
    dsimp only [List.set]
    rw [Nat.add_zero] at hi
    subst hi
    exact l_mostB (l := l) (X := X) (M := M) hc hW hC hR hsh hfit (2 ^ q_n ρ 6) 0 (Nat.zero_add _) none hM (fun p hp => hk p hp)
  | succ j ih =>
    intro i hi M hM hk
    have hW9 : zWc M := hW.fr (fun q hq => by
      have hr : ∀ q ∈ zwC, q.1 ≠ 123 := by decide +kernel
      rw [hM _ (hr q hq)])
    refine p_iload 5 dX1_mostLeft_3 rfl ?_
    refine p_bipush 7 dX1_mostLeft_5 rfl ?_
    refine p_icmp_gt 24 10 dX1_mostLeft_7 (by omega) (by omega) (by omega) (by omega) (fun h7 => absurd (by omega) (fun h9 : False => h9)) (fun h7 => ?_)
    refine p_aload_n 11 dX1_mostLeft_10 rfl rfl (by decide) ?_
    refine p_getR 121 14 dX1_mostLeft_11 fX1_15 rfl (hW9 (121, 7, 123) (by decide)) ?_
    refine p_iload 16 dX1_mostLeft_14 rfl ?_
    refine p_iconst 17 dX1_mostLeft_16 ?_
    refine p_iastn 123 18 (i) dX1_mostLeft_17 rfl (by omega) (by omega) ?_
    refine p_iinc 21 dX1_mostLeft_18 rfl rfl rfl ?_
    dsimp only [List.set]
    refine p_goto 3 dX1_mostLeft_21 ?_
    refine ih (i + 1) (by omega) (fun a ha => by rw [zset_ne _ ha]; exact hM a ha) (fun p hp => ?_)
    by_cases e : p = i
    · subst e; exact zset_at _ _ _ _
    · rw [zset_k e]; exact hk p (by omega)
theorem s_mostLeft {l : Launch} {X : ZX} {M : ZM} {c : Nat} (hc : isC c) {ρ : Nat → Int} {h : Int} (hW : zWc M) (hC : ICc ρ h c M) (hR : wfR ρ) {sh : Int} (hsh : 0 ≤ sh ∧ sh < 1099511627776) (hfit : ∀ S, S < 2 ^ q_n ρ 6 → M 122 S = if q_fit ρ S = true then 1 else 0) : zCi l X 3 yX1_mostLeft tX1_mostLeft [zr 121, zr ((c + 17 : Nat) : Int), zl sh] M (fun a M' => a = (q_most ρ sh : Int) ∧ ∀ a, a ≠ 123 → M' a = M a) := by
  refine zC.of [some (zr 121), some (zr ((c + 17 : Nat) : Int)), some (zl sh), none, none, none] (by decide +kernel) rfl rfl (Nat.le_of_ble_eq_true rfl) rfl ?_
  refine p_iconst 1 dX1_mostLeft_0 ?_
  refine p_istore 3 dX1_mostLeft_1 (Nat.le_of_ble_eq_true rfl) rfl rfl ?_
  dsimp only [List.set]
  exact l_mostA (l := l) (X := X) (M := M) hc hW hC hR hsh hfit 7 0 rfl (fun _ _ => rfl) (fun p hp => absurd hp (by omega))
theorem q_most_le (ρ : Nat → Int) (sh : Int) : q_most ρ sh ≤ 2 ^ q_n ρ 6 := q_mx0_le ρ sh 7
theorem q_ask_bd {ρ : Nat → Int} (h6 : q_n ρ 6 ≤ 6) : ∀ i, i ≤ 6 → (-2 ≤ (q_ask ρ i).1 ∧ (q_ask ρ i).1 ≤ 6) ∧ -2 ≤ (q_ask ρ i).2 ∧ (q_ask ρ i).2 ≤ 64 := by
  intro i
  induction i with
  | zero => intro _; exact ⟨⟨by show (-2 : Int) ≤ -2; decide, by show (-2 : Int) ≤ 6; decide⟩, by show (-2 : Int) ≤ -2; decide, by show (-2 : Int) ≤ 64; decide⟩
  | succ i ih =>
    intro hi
    have e : q_ask ρ (i + 1) = if q_new ρ i = true ∧ ((q_ask ρ i).1 = -2 ∨ (q_most ρ (q_sg ρ i) : Int) < (q_ask ρ i).2) then ((i : Int), (q_most ρ (q_sg ρ i) : Int)) else q_ask ρ i := rfl
    have h1 := q_most_le ρ (q_sg ρ i)
    have h2 := p6 h6
    rw [e]
    split
    · exact ⟨⟨by show (-2 : Int) ≤ (i : Int); omega, by show (i : Int) ≤ 6; omega⟩, by show (-2 : Int) ≤ ((q_most ρ (q_sg ρ i) : Nat) : Int); omega, by show ((q_most ρ (q_sg ρ i) : Nat) : Int) ≤ 64; omega⟩
    · exact ih (by omega)
theorem l_chooseSign {l : Launch} {X : ZX} {M : ZM} {c : Nat} (hc : isC c) {ρ : Nat → Int} {h : Int} {N : ZM} (hW : zWc N) (hC : ICc ρ h c N) (hR : wfR ρ) (hfit : ∀ S, S < 2 ^ q_n ρ 6 → N 122 S = if q_fit ρ S = true then 1 else 0) : ∀ (j i : Nat), i + j = q_n ρ 6 → ∀ {M : ZM} (o3 : Option ZV), (∀ a, a ≠ 121 → a ≠ 123 → M a = N a) → (∀ k, k ≠ 4 → k ≠ 5 → M 121 k = N 121 k) → M 121 4 = (q_ask ρ i).1 → M 121 5 = (q_ask ρ i).2 → zP l X 4 tX1_chooseSign 22 [some (zr 121), some (zr ((c + 17 : Nat) : Int)), some (zi (i : Int)), o3] [] M (fun r M' => r = none ∧ (∀ a, a ≠ 121 → a ≠ 123 → M' a = N a) ∧ (∀ k, k ≠ 4 → k ≠ 5 → M' 121 k = N 121 k) ∧ M' 121 4 = (q_ask ρ (q_n ρ 6)).1 ∧ M' 121 5 = (q_ask ρ (q_n ρ 6)).2) := by
  have e6 : ρ 6 = (q_n ρ 6 : Int) := hR.n (by decide)
  have b6 := hR.2.1.2.2.2.2.2.2.1
  have e7 : ρ 7 = (q_n ρ 7 : Int) := hR.n (by decide)
  have b7 := hR.2.1.2.2.2.2.2.2.2
  have hcl := hc.lt
  have hp6 := p6 (n := q_n ρ 6) (by omega)
  intro j
  induction j with
  | zero =>
    intro i hi M o3 hM hM2 k4 k5
    have hW9 : zWc M := hW.fr (fun q hq => by
      have hr : ∀ q ∈ zwC, q.1 ≠ 123 ∧ (q.1 = 121 → q.2.1 ≠ 4 ∧ q.2.1 ≠ 5) := by decide +kernel
      by_cases e : q.1 = 121
      · rw [e]
        exact hM2 _ ((hr q hq).2 e).1 ((hr q hq).2 e).2
      · rw [hM _ e (hr q hq).1])
    refine p_iload_n 23 dX1_chooseSign_22 rfl rfl ?_
    refine p_aload_n 24 dX1_chooseSign_23 rfl rfl (by omega) ?_
    refine p_getI (c + 17) 27 dX1_chooseSign_24 fX1_30 hc.tt3.1 ?_
    rw [hM (c + 17) (by omega) (by omega), hC.1.2.2.2.2.2.2.2.1, e6]
    refine p_icmp_ge 96 30 dX1_chooseSign_27 (by omega) (by omega) (by omega) (by omega) (fun h27 => ?_) (fun h27 => absurd (by omega) (fun h9 : False => h9))
    refine p_vret dX1_chooseSign_96 rfl ?_
    rw [Nat.add_zero] at hi
    subst hi
    exact ⟨rfl, hM, hM2, k4, k5⟩
  | succ j ih =>
    intro i hi M o3 hM hM2 k4 k5
    have hW9 : zWc M := hW.fr (fun q hq => by
      have hr : ∀ q ∈ zwC, q.1 ≠ 123 ∧ (q.1 = 121 → q.2.1 ≠ 4 ∧ q.2.1 ≠ 5) := by decide +kernel
      by_cases e : q.1 = 121
      · rw [e]
        exact hM2 _ ((hr q hq).2 e).1 ((hr q hq).2 e).2
      · rw [hM _ e (hr q hq).1])
    have hC9 : ICc ρ h c M := hC.congr (fun a g1 g2 => hM a (by omega) (by omega))
    have hfit9 : ∀ S, S < 2 ^ q_n ρ 6 → M 122 S = if q_fit ρ S = true then 1 else 0 := fun S hS => by rw [hM 122 (by decide) (by decide)]; exact hfit S hS
    have hab := q_ask_bd (ρ := ρ) (by omega) i (by omega)
    have hml := q_most_le ρ (q_sg ρ i)
    have ea : q_ask ρ (i + 1) = if q_new ρ i = true ∧ ((q_ask ρ i).1 = -2 ∨ (q_most ρ (q_sg ρ i) : Int) < (q_ask ρ i).2) then ((i : Int), (q_most ρ (q_sg ρ i) : Int)) else q_ask ρ i := rfl
    refine p_iload_n 23 dX1_chooseSign_22 rfl rfl ?_
    refine p_aload_n 24 dX1_chooseSign_23 rfl rfl (by omega) ?_
    refine p_getI (c + 17) 27 dX1_chooseSign_24 fX1_30 hc.tt3.1 ?_
    rw [hM (c + 17) (by omega) (by omega), hC.1.2.2.2.2.2.2.2.1, e6]
    refine p_icmp_ge 96 30 dX1_chooseSign_27 (by omega) (by omega) (by omega) (by omega) (fun h27 => absurd (by omega) (fun h9 : False => h9)) (fun h27 => ?_)
    refine p_aload_n 31 dX1_chooseSign_30 rfl rfl (by omega) ?_
    refine p_iload_n 32 dX1_chooseSign_31 rfl rfl ?_
    refine p_callV1i (c + 17) 35 dX1_chooseSign_32 (s_isFirstOfSign hc hW9 hC9 hR (o := i) (by omega)) lk_X1_53 mX4_isFirstOfSign hc.tt3.1 rfl (by decide) (Nat.le_of_ble_eq_true rfl) ?_
    rintro _ _ ⟨rfl, e9⟩
    have e9 := e9.symm
    subst e9
    refine p_if_eq 90 38 dX1_chooseSign_35 (by split <;> omega) (by split <;> omega) (fun h35 => ?_) (fun h35 => ?_)
    · have hno : ¬ q_new ρ i = true := by
        unfold q_new
        rw [Bool.eq_false_iff.mpr (if_eq0 h35)]
        simp
      refine p_iinc 93 dX1_chooseSign_90 rfl rfl rfl ?_
      dsimp only [List.set]
      refine p_goto 22 dX1_chooseSign_93 ?_
      first
        | (refine ih (i + 1) (by omega) _ hM hM2 ?_ ?_
           · rw [ea, if_neg (fun g => hno g.1)]; exact k4
           · rw [ea, if_neg (fun g => hno g.1)]; exact k5)
        | (refine ih (i + 1) (by omega) _ hM8 hM82 ?_ ?_
           · rw [ea, if_neg (fun g => by have := g.2; omega)]; exact k4
           · rw [ea, if_neg (fun g => by have := g.2; omega)]; exact k5)
        | (refine ih (i + 1) (by omega) _ (fun a g1 g2 => by rw [zset_ne _ g1, zset_ne _ g1]; exact hM8 a g1 g2) (fun k g1 g2 => by rw [zset_k g2, zset_k g1]; exact hM82 k g1 g2) ?_ ?_
           · rw [ea, if_pos ⟨hyes, by omega⟩, zset_k (by decide), zset_at]
           · rw [ea, if_pos ⟨hyes, by omega⟩, zset_at])
    · have hfs := if_neq0 h35
      refine p_aload_n 39 dX1_chooseSign_38 rfl rfl (by omega) ?_
      refine p_aload_n 40 dX1_chooseSign_39 rfl rfl (by omega) ?_
      refine p_getR (c + 17) 43 dX1_chooseSign_40 fX1_57 hc.tt3.1 (hc.wire3 hW9).1 ?_
      refine p_iload_n 44 dX1_chooseSign_43 rfl rfl ?_
      refine p_laldn (c + 18) 45 (i) dX1_chooseSign_44 hc.tt3.2.1 (by omega) (by omega) ?_
      rw [(hC9.2.2.2.2.1 i (by omega)).1]
      refine p_callV1i (c + 17) 48 dX1_chooseSign_45 (s_wasSeenC hc hW9 hC9 hR (sh := q_sg ρ i) (q_sg_bd hR (by omega))) lk_X1_61 mX4_wasSeen hc.tt3.1 rfl (by decide) (Nat.le_of_ble_eq_true rfl) ?_
      rintro _ _ ⟨rfl, e9⟩
      have e9 := e9.symm
      subst e9
      refine p_if_ne 90 51 dX1_chooseSign_48 (by split <;> omega) (by split <;> omega) (fun h48 => ?_) (fun h48 => ?_)
      · have hno : ¬ q_new ρ i = true := by
          unfold q_new
          by_cases g : q_all (fun k => decide (q_ss ρ k ≠ q_sg ρ i)) (q_n ρ 7) = true
          · rw [if_pos g] at h48; exact absurd rfl h48
          · rw [Bool.eq_false_iff.mpr g, Bool.and_false]; decide
        refine p_iinc 93 dX1_chooseSign_90 rfl rfl rfl ?_
        dsimp only [List.set]
        refine p_goto 22 dX1_chooseSign_93 ?_
        first
          | (refine ih (i + 1) (by omega) _ hM hM2 ?_ ?_
             · rw [ea, if_neg (fun g => hno g.1)]; exact k4
             · rw [ea, if_neg (fun g => hno g.1)]; exact k5)
          | (refine ih (i + 1) (by omega) _ hM8 hM82 ?_ ?_
             · rw [ea, if_neg (fun g => by have := g.2; omega)]; exact k4
             · rw [ea, if_neg (fun g => by have := g.2; omega)]; exact k5)
          | (refine ih (i + 1) (by omega) _ (fun a g1 g2 => by rw [zset_ne _ g1, zset_ne _ g1]; exact hM8 a g1 g2) (fun k g1 g2 => by rw [zset_k g2, zset_k g1]; exact hM82 k g1 g2) ?_ ?_
             · rw [ea, if_pos ⟨hyes, by omega⟩, zset_k (by decide), zset_at]
             · rw [ea, if_pos ⟨hyes, by omega⟩, zset_at])
      · have hyes : q_new ρ i = true := by
          unfold q_new
          by_cases g : q_all (fun k => decide (q_ss ρ k ≠ q_sg ρ i)) (q_n ρ 7) = true
          · rw [g, hfs]; rfl
          · rw [if_neg g] at h48; exact absurd (by decide) h48
        refine p_aload_n 52 dX1_chooseSign_51 rfl rfl (by decide) ?_
        refine p_aload_n 53 dX1_chooseSign_52 rfl rfl (by omega) ?_
        refine p_aload_n 54 dX1_chooseSign_53 rfl rfl (by omega) ?_
        refine p_getR (c + 17) 57 dX1_chooseSign_54 fX1_57 hc.tt3.1 (hc.wire3 hW9).1 ?_
        refine p_iload_n 58 dX1_chooseSign_57 rfl rfl ?_
        refine p_laldn (c + 18) 59 (i) dX1_chooseSign_58 hc.tt3.2.1 (by omega) (by omega) ?_
        rw [(hC9.2.2.2.2.1 i (by omega)).1]
        refine p_callV2i 121 62 dX1_chooseSign_59 (s_mostLeft hc hW9 hC9 hR (sh := q_sg ρ i) (q_sg_bd hR (by omega)) hfit9) lk_X1_65 mX1_mostLeft rfl rfl (by decide) (Nat.le_of_ble_eq_true rfl) ?_
        rintro _ M8 ⟨rfl, hm8⟩
        have k4 : M8 121 4 = (q_ask ρ i).1 := by rw [hm8 121 (by decide)]; exact k4
        have k5 : M8 121 5 = (q_ask ρ i).2 := by rw [hm8 121 (by decide)]; exact k5
        have hM8 : ∀ a, a ≠ 121 → a ≠ 123 → M8 a = N a := fun a g1 g2 => (hm8 a g2).trans (hM a g1 g2)
        have hM82 : ∀ k, k ≠ 4 → k ≠ 5 → M8 121 k = N 121 k := fun k g1 g2 => by rw [hm8 121 (by decide)]; exact hM2 k g1 g2
        refine p_istore_n 63 dX1_chooseSign_62 rfl (Nat.le_of_ble_eq_true rfl) rfl rfl ?_
        dsimp only [List.set]
        refine p_aload_n 64 dX1_chooseSign_63 rfl rfl (by decide) ?_
        refine p_getI 121 67 dX1_chooseSign_64 fX1_47 rfl ?_
        rw [k4]
        refine p_bipush 69 dX1_chooseSign_67 rfl ?_
        refine p_icmp_eq 80 72 dX1_chooseSign_69 (by omega) (by omega) (by decide) (by decide) (fun h69 => ?_) (fun h69 => ?_)
        · refine p_aload_n 81 dX1_chooseSign_80 rfl rfl (by decide) ?_
          refine p_iload_n 82 dX1_chooseSign_81 rfl rfl ?_
          refine p_putI 121 85 dX1_chooseSign_82 wX1_47 rfl ?_
          refine p_aload_n 86 dX1_chooseSign_85 rfl rfl (by decide) ?_
          refine p_iload_n 87 dX1_chooseSign_86 rfl rfl ?_
          refine p_putI 121 90 dX1_chooseSign_87 wX1_50 rfl ?_
          refine p_iinc 93 dX1_chooseSign_90 rfl rfl rfl ?_
          dsimp only [List.set]
          refine p_goto 22 dX1_chooseSign_93 ?_
          first
            | (refine ih (i + 1) (by omega) _ hM hM2 ?_ ?_
               · rw [ea, if_neg (fun g => hno g.1)]; exact k4
               · rw [ea, if_neg (fun g => hno g.1)]; exact k5)
            | (refine ih (i + 1) (by omega) _ hM8 hM82 ?_ ?_
               · rw [ea, if_neg (fun g => by have := g.2; omega)]; exact k4
               · rw [ea, if_neg (fun g => by have := g.2; omega)]; exact k5)
            | (refine ih (i + 1) (by omega) _ (fun a g1 g2 => by rw [zset_ne _ g1, zset_ne _ g1]; exact hM8 a g1 g2) (fun k g1 g2 => by rw [zset_k g2, zset_k g1]; exact hM82 k g1 g2) ?_ ?_
               · rw [ea, if_pos ⟨hyes, by omega⟩, zset_k (by decide), zset_at]
               · rw [ea, if_pos ⟨hyes, by omega⟩, zset_at])
        · refine p_iload_n 73 dX1_chooseSign_72 rfl rfl ?_
          refine p_aload_n 74 dX1_chooseSign_73 rfl rfl (by decide) ?_
          refine p_getI 121 77 dX1_chooseSign_74 fX1_50 rfl ?_
          rw [k5]
          refine p_icmp_ge 90 80 dX1_chooseSign_77 (by omega) (by omega) (by omega) (by omega) (fun h77 => ?_) (fun h77 => ?_)
          · refine p_iinc 93 dX1_chooseSign_90 rfl rfl rfl ?_
            dsimp only [List.set]
            refine p_goto 22 dX1_chooseSign_93 ?_
            first
              | (refine ih (i + 1) (by omega) _ hM hM2 ?_ ?_
                 · rw [ea, if_neg (fun g => hno g.1)]; exact k4
                 · rw [ea, if_neg (fun g => hno g.1)]; exact k5)
              | (refine ih (i + 1) (by omega) _ hM8 hM82 ?_ ?_
                 · rw [ea, if_neg (fun g => by have := g.2; omega)]; exact k4
                 · rw [ea, if_neg (fun g => by have := g.2; omega)]; exact k5)
              | (refine ih (i + 1) (by omega) _ (fun a g1 g2 => by rw [zset_ne _ g1, zset_ne _ g1]; exact hM8 a g1 g2) (fun k g1 g2 => by rw [zset_k g2, zset_k g1]; exact hM82 k g1 g2) ?_ ?_
                 · rw [ea, if_pos ⟨hyes, by omega⟩, zset_k (by decide), zset_at]
                 · rw [ea, if_pos ⟨hyes, by omega⟩, zset_at])
          · refine p_aload_n 81 dX1_chooseSign_80 rfl rfl (by decide) ?_
            refine p_iload_n 82 dX1_chooseSign_81 rfl rfl ?_
            refine p_putI 121 85 dX1_chooseSign_82 wX1_47 rfl ?_
            refine p_aload_n 86 dX1_chooseSign_85 rfl rfl (by decide) ?_
            refine p_iload_n 87 dX1_chooseSign_86 rfl rfl ?_
            refine p_putI 121 90 dX1_chooseSign_87 wX1_50 rfl ?_
            refine p_iinc 93 dX1_chooseSign_90 rfl rfl rfl ?_
            dsimp only [List.set]
            refine p_goto 22 dX1_chooseSign_93 ?_
            first
              | (refine ih (i + 1) (by omega) _ hM hM2 ?_ ?_
                 · rw [ea, if_neg (fun g => hno g.1)]; exact k4
                 · rw [ea, if_neg (fun g => hno g.1)]; exact k5)
              | (refine ih (i + 1) (by omega) _ hM8 hM82 ?_ ?_
                 · rw [ea, if_neg (fun g => by have := g.2; omega)]; exact k4
                 · rw [ea, if_neg (fun g => by have := g.2; omega)]; exact k5)
              | (refine ih (i + 1) (by omega) _ (fun a g1 g2 => by rw [zset_ne _ g1, zset_ne _ g1]; exact hM8 a g1 g2) (fun k g1 g2 => by rw [zset_k g2, zset_k g1]; exact hM82 k g1 g2) ?_ ?_
                 · rw [ea, if_pos ⟨hyes, by omega⟩, zset_k (by decide), zset_at]
                 · rw [ea, if_pos ⟨hyes, by omega⟩, zset_at])
theorem s_chooseSign {l : Launch} {X : ZX} {M : ZM} {c : Nat} (hc : isC c) {ρ : Nat → Int} {h : Int} (hW : zWc M) (hC : ICc ρ h c M) (hR : wfR ρ) (hfit : ∀ S, S < 2 ^ q_n ρ 6 → M 122 S = if q_fit ρ S = true then 1 else 0) (hct : M 121 1 = (q_fits ρ : Int)) : zCv l X 4 yX1_chooseSign tX1_chooseSign [zr 121, zr ((c + 17 : Nat) : Int)] M (fun M' => (∀ a, a ≠ 121 → a ≠ 123 → M' a = M a) ∧ (∀ k, k ≠ 4 → k ≠ 5 → M' 121 k = M 121 k) ∧ M' 121 4 = (q_asked ρ).1 ∧ M' 121 5 = (q_asked ρ).2) := by
  have e6 : ρ 6 = (q_n ρ 6 : Int) := hR.n (by decide)
  have b6 := hR.2.1.2.2.2.2.2.2.1
  have e7 : ρ 7 = (q_n ρ 7 : Int) := hR.n (by decide)
  have b7 := hR.2.1.2.2.2.2.2.2.2
  have hcl := hc.lt
  have hp6 := p6 (n := q_n ρ 6) (by omega)
  have hfl : q_fits ρ ≤ 2 ^ q_n ρ 6 := q_cntp_le _ _
  refine zC.of [some (zr 121), some (zr ((c + 17 : Nat) : Int)), none, none] (by decide +kernel) rfl rfl (Nat.le_of_ble_eq_true rfl) rfl ?_
  refine p_aload_n 1 dX1_chooseSign_0 rfl rfl (by decide) ?_
  refine p_bipush 3 dX1_chooseSign_1 rfl ?_
  refine p_putI 121 6 dX1_chooseSign_3 wX1_47 rfl ?_
  refine p_aload_n 7 dX1_chooseSign_6 rfl rfl (by decide) ?_
  refine p_bipush 9 dX1_chooseSign_7 rfl ?_
  refine p_putI 121 12 dX1_chooseSign_9 wX1_50 rfl ?_
  refine p_aload_n 13 dX1_chooseSign_12 rfl rfl (by decide) ?_
  refine p_getI 121 16 dX1_chooseSign_13 fX1_23 rfl ?_
  rw [show zset (zset M 121 4 (-2)) 121 5 (-2) 121 1 = (q_fits ρ : Int) from hct]
  refine p_if_ne 20 19 dX1_chooseSign_16 (by omega) (by omega) (fun h16 => ?_) (fun h16 => ?_)
  · refine p_iconst 21 dX1_chooseSign_20 ?_
    refine p_istore_n 22 dX1_chooseSign_21 rfl (Nat.le_of_ble_eq_true rfl) rfl rfl ?_
    dsimp only [List.set]
    refine (l_chooseSign (l := l) (X := X) (M := M) (N := zset (zset M 121 4 (-2)) 121 5 (-2)) hc ((hW.set (by decide +kernel)).set (by decide +kernel)) (hC.congr (fun a g1 g2 => by rw [zset_ne _ (by omega), zset_ne _ (by omega)])) hR (fun S hS => by rw [zset_ne _ (by decide), zset_ne _ (by decide)]; exact hfit S hS) (q_n ρ 6) 0 (Nat.zero_add _) none (fun _ _ _ => rfl) (fun _ _ _ => rfl) rfl rfl).mono (fun r M9 h9 => ?_)
    obtain ⟨g0, g1, g2, g3, g4⟩ := h9
    refine ⟨g0, fun a k1 k2 => by rw [g1 a k1 k2, zset_ne _ k1, zset_ne _ k1], fun k k1 k2 => by rw [g2 k k1 k2, zset_k k2, zset_k k1], ?_, ?_⟩
    · unfold q_asked; rw [if_neg (by omega)]; exact g3
    · unfold q_asked; rw [if_neg (by omega)]; exact g4
  · refine p_vret dX1_chooseSign_19 rfl ?_
    refine ⟨rfl, fun a g1 g2 => by rw [zset_ne _ g1, zset_ne _ g1], fun k g1 g2 => by rw [zset_k g2, zset_k g1], ?_, ?_⟩ <;> unfold q_asked <;> rw [if_pos (by omega)] <;> rfl
theorem q_orp_lt {p : Nat → Bool} {m : Nat} : ∀ n, n ≤ 2 ^ m → q_orp p n < 2 ^ m := by
  intro n
  induction n with
  | zero => intro _; exact Nat.two_pow_pos _
  | succ n ih =>
    intro hn
    show (if p n then q_orp p n ||| n else q_orp p n) < _
    split
    · exact Nat.or_lt_two_pow (ih (by omega)) (by omega)
    · exact ih (by omega)
theorem q_andp_le {p : Nat → Bool} {b : Nat} : ∀ n, q_andp p b n ≤ b := by
  intro n
  induction n with
  | zero => exact Nat.le_refl _
  | succ n ih =>
    show (if p n then q_andp p b n &&& n else q_andp p b n) ≤ _
    split
    · exact Nat.le_trans Nat.and_le_left ih
    · exact ih
theorem l_learnF {l : Launch} {X : ZX} {M : ZM} {c : Nat} (hc : isC c) {ρ : Nat → Int} {h : Int} {N : ZM} (hW : zWc N) (hC : ICc ρ h c N) (hR : wfR ρ) : ∀ (j i : Nat), i + j = 2 ^ q_n ρ 6 → ∀ {M : ZM}, (∀ a, a ≠ 121 → a ≠ 122 → M a = N a) → (∀ k, k ≠ 1 → k ≠ 2 → k ≠ 3 → M 121 k = N 121 k) → M 121 1 = (q_cntp (q_fit ρ) i : Int) → M 121 2 = (q_orp (q_fit ρ) i : Int) → M 121 3 = (q_andp (q_fit ρ) (2 ^ q_n ρ 6 - 1) i : Int) → (∀ S, S < i → M 122 S = if q_fit ρ S = true then 1 else 0) → zP l X 5 tX1_learn 31 [some (zr 121), some (zr ((c + 17 : Nat) : Int)), some (zi (i : Int))] [] M (fun r M' => r = none ∧ (∀ a, a < 121 ∨ 123 < a → M' a = N a) ∧ (∀ k, 6 ≤ k → M' 121 k = N 121 k) ∧ M' 121 0 = 1 ∧ ICf ρ M') := by
  have e6 : ρ 6 = (q_n ρ 6 : Int) := hR.n (by decide)
  have b6 := hR.2.1.2.2.2.2.2.2.1
  have e7 : ρ 7 = (q_n ρ 7 : Int) := hR.n (by decide)
  have b7 := hR.2.1.2.2.2.2.2.2.2
  have hcl := hc.lt
  have hp6 := p6 (n := q_n ρ 6) (by omega)
  have hp0 : 0 < 2 ^ q_n ρ 6 := Nat.two_pow_pos _
  intro j
  induction j with
  | zero =>
    intro i hi M hM hM2 k1 k2 k3 hk
    have hi2 : i = 2 ^ q_n ρ 6 := by omega
    have hcl2 := q_cntp_le (q_fit ρ) i
    have hW9 : zWc M := hW.fr (fun q hq => by
      have hr : ∀ q ∈ zwC, q.1 ≠ 122 ∧ (q.1 = 121 → q.2.1 ≠ 1 ∧ q.2.1 ≠ 2 ∧ q.2.1 ≠ 3) := by decide +kernel
      by_cases e : q.1 = 121
      · rw [e]
        exact hM2 _ ((hr q hq).2 e).1 ((hr q hq).2 e).2.1 ((hr q hq).2 e).2.2
      · rw [hM _ e (hr q hq).1])
    have hC9 : ICc ρ h c M := hC.congr (fun a g1 g2 => hM a (by omega) (by omega))
    have htail : ∀ (M8 : ZM), (∀ a, a ≠ 121 → a ≠ 122 → M8 a = N a) → (∀ k, k ≠ 1 → k ≠ 2 → k ≠ 3 → M8 121 k = N 121 k) → M8 121 1 = (q_fits ρ : Int) → M8 121 2 = (q_could ρ : Int) → M8 121 3 = (q_surely ρ : Int) → (∀ S, S < 2 ^ q_n ρ 6 → M8 122 S = if q_fit ρ S = true then 1 else 0) → zP l X 5 tX1_learn 120 [some (zr 121), some (zr ((c + 17 : Nat) : Int)), some (zi (i : Int))] [] M8 (fun r M' => r = none ∧ (∀ a, a < 121 ∨ 123 < a → M' a = N a) ∧ (∀ k, 6 ≤ k → M' 121 k = N 121 k) ∧ M' 121 0 = 1 ∧ ICf ρ M') := by
      intro M8 hM8 hM82 k18 k28 k38 hfit8
      have hW8 : zWc M8 := hW.fr (fun q hq => by
        have hr : ∀ q ∈ zwC, q.1 ≠ 122 ∧ (q.1 = 121 → q.2.1 ≠ 1 ∧ q.2.1 ≠ 2 ∧ q.2.1 ≠ 3) := by decide +kernel
        by_cases e : q.1 = 121
        · rw [e]
          exact hM82 _ ((hr q hq).2 e).1 ((hr q hq).2 e).2.1 ((hr q hq).2 e).2.2
        · rw [hM8 _ e (hr q hq).1])
      have hC8 : ICc ρ h c M8 := hC.congr (fun a g1 g2 => hM8 a (by omega) (by omega))
      refine p_aload_n 121 dX1_learn_120 rfl rfl (by decide) ?_
      refine p_aload_n 122 dX1_learn_121 rfl rfl (by omega) ?_
      refine p_callV1v 121 125 dX1_learn_122 (s_chooseSign hc hW8 hC8 hR hfit8 k18) lk_X1_43 mX1_chooseSign rfl rfl (by decide) (Nat.le_of_ble_eq_true rfl) ?_
      intro M7 h7
      obtain ⟨f1, f2, f3, f4⟩ := h7
      refine p_aload_n 126 dX1_learn_125 rfl rfl (by decide) ?_
      refine p_iconst 127 dX1_learn_126 ?_
      refine p_putZ 121 130 dX1_learn_127 wX1_19 rfl (by decide) ?_
      refine p_vret dX1_learn_130 rfl ?_
      refine ⟨rfl, fun a ha => ?_, fun k hk => ?_, rfl, ?_⟩
      · rw [zset_ne _ (by omega), f1 a (by omega) (by omega)]
        exact hM8 a (by omega) (by omega)
      · rw [zset_k (by omega), f2 k (by omega) (by omega)]
        exact hM82 k (by omega) (by omega) (by omega)
      · refine ⟨?_, ?_, ?_, ?_, ?_⟩
        · rw [zset_k (by decide), f2 1 (by decide) (by decide)]; exact k18
        · rw [zset_k (by decide), f2 2 (by decide) (by decide)]; exact k28
        · rw [zset_k (by decide), f2 3 (by decide) (by decide)]; exact k38
        · rw [zset_k (by decide)]; exact f3
        · rw [zset_k (by decide)]; exact f4
    refine p_iload_n 32 dX1_learn_31 rfl rfl ?_
    refine p_aload_n 33 dX1_learn_32 rfl rfl (by omega) ?_
    refine p_getI (c + 17) 36 dX1_learn_33 fX1_30 hc.tt3.1 ?_
    rw [hM (c + 17) (by omega) (by omega), hC.1.2.2.2.2.2.2.2.1, e6]
    refine p_callN1i 39 dX1_learn_36 (s_fullBits (n := q_n ρ 6) (by omega)) ln_X1_33 mX11_fullBits (by decide) (Nat.le_of_ble_eq_true rfl) ?_
    rintro _ _ ⟨rfl, e9⟩
    have e9 := e9.symm
    subst e9
    refine p_icmp_gt 108 42 dX1_learn_39 (by omega) (by omega) (by omega) (by omega) (fun h39 => ?_) (fun h39 => absurd (by omega) (fun h9 : False => h9))
    refine p_aload_n 109 dX1_learn_108 rfl rfl (by decide) ?_
    refine p_getI 121 112 dX1_learn_109 fX1_23 rfl ?_
    rw [k1]
    refine p_if_ne 120 115 dX1_learn_112 (by omega) (by omega) (fun h112 => ?_) (fun h112 => ?_)
    · have hs : q_surely ρ = q_andp (q_fit ρ) (2 ^ q_n ρ 6 - 1) (2 ^ q_n ρ 6) := by
        unfold q_surely
        rw [if_neg (by show ¬ q_cntp (q_fit ρ) (2 ^ q_n ρ 6) = 0; rw [← hi2]; omega)]
      first
        | exact htail M hM hM2 (by rw [k1, hi2]; rfl) (by rw [k2, hi2]; rfl) (by rw [k3, hs, hi2]) (fun S hS => hk S (by omega))
        | exact htail (zset M 121 3 0) (fun a g1 g2 => by rw [zset_ne _ g1]; exact hM a g1 g2) (fun k g1 g2 g3 => by rw [zset_k g3]; exact hM2 k g1 g2 g3) (by rw [zset_k (by decide), k1, hi2]; rfl) (by rw [zset_k (by decide), k2, hi2]; rfl) (by rw [zset_at, hs]; rfl) (fun S hS => by rw [zset_ne _ (by decide)]; exact hk S (by omega))
    · have hs : q_surely ρ = 0 := by
        unfold q_surely
        rw [if_pos (by show q_cntp (q_fit ρ) (2 ^ q_n ρ 6) = 0; rw [← hi2]; omega)]
      refine p_aload_n 116 dX1_learn_115 rfl rfl (by decide) ?_
      refine p_iconst 117 dX1_learn_116 ?_
      refine p_putI 121 120 dX1_learn_117 wX1_37 rfl ?_
      first
        | exact htail M hM hM2 (by rw [k1, hi2]; rfl) (by rw [k2, hi2]; rfl) (by rw [k3, hs, hi2]) (fun S hS => hk S (by omega))
        | exact htail (zset M 121 3 0) (fun a g1 g2 => by rw [zset_ne _ g1]; exact hM a g1 g2) (fun k g1 g2 g3 => by rw [zset_k g3]; exact hM2 k g1 g2 g3) (by rw [zset_k (by decide), k1, hi2]; rfl) (by rw [zset_k (by decide), k2, hi2]; rfl) (by rw [zset_at, hs]; rfl) (fun S hS => by rw [zset_ne _ (by decide)]; exact hk S (by omega))
  | succ j ih =>
    intro i hi M hM hM2 k1 k2 k3 hk
    have hW9 : zWc M := hW.fr (fun q hq => by
      have hr : ∀ q ∈ zwC, q.1 ≠ 122 ∧ (q.1 = 121 → q.2.1 ≠ 1 ∧ q.2.1 ≠ 2 ∧ q.2.1 ≠ 3) := by decide +kernel
      by_cases e : q.1 = 121
      · rw [e]
        exact hM2 _ ((hr q hq).2 e).1 ((hr q hq).2 e).2.1 ((hr q hq).2 e).2.2
      · rw [hM _ e (hr q hq).1])
    have hC9 : ICc ρ h c M := hC.congr (fun a g1 g2 => hM a (by omega) (by omega))
    have ho1 := q_orp_lt (p := q_fit ρ) (m := q_n ρ 6) i (by omega)
    have ha1 := q_andp_le (p := q_fit ρ) (b := 2 ^ q_n ρ 6 - 1) i
    have hfv := q_fv_le (p := fun n => !(decide (q_done ρ (q_ss ρ n) i = q_sd ρ n))) (i := q_n ρ 7)
    change -2 ≤ q_fv (q_unl ρ i) ∧ q_fv (q_unl ρ i) < _ at hfv
    refine p_iload_n 32 dX1_learn_31 rfl rfl ?_
    refine p_aload_n 33 dX1_learn_32 rfl rfl (by omega) ?_
    refine p_getI (c + 17) 36 dX1_learn_33 fX1_30 hc.tt3.1 ?_
    rw [hM (c + 17) (by omega) (by omega), hC.1.2.2.2.2.2.2.2.1, e6]
    refine p_callN1i 39 dX1_learn_36 (s_fullBits (n := q_n ρ 6) (by omega)) ln_X1_33 mX11_fullBits (by decide) (Nat.le_of_ble_eq_true rfl) ?_
    rintro _ _ ⟨rfl, e9⟩
    have e9 := e9.symm
    subst e9
    refine p_icmp_gt 108 42 dX1_learn_39 (by omega) (by omega) (by omega) (by omega) (fun h39 => absurd (by omega) (fun h9 : False => h9)) (fun h39 => ?_)
    refine p_aload_n 43 dX1_learn_42 rfl rfl (by decide) ?_
    refine p_getR 121 46 dX1_learn_43 fX1_9 rfl (hW9 (121, 6, 122) (by decide)) ?_
    refine p_iload_n 47 dX1_learn_46 rfl rfl ?_
    refine p_aload_n 48 dX1_learn_47 rfl rfl (by omega) ?_
    refine p_iload_n 49 dX1_learn_48 rfl rfl ?_
    refine p_callV1i (c + 17) 52 dX1_learn_49 (s_firstUnlike hc hW9 hC9 hR (S := i) (by omega)) lk_X1_40 mX4_firstUnlike hc.tt3.1 rfl (by decide) (Nat.le_of_ble_eq_true rfl) ?_
    rintro _ _ ⟨rfl, e9⟩
    have e9 := e9.symm
    subst e9
    refine p_bipush 54 dX1_learn_52 rfl ?_
    refine p_icmp_ne 61 57 dX1_learn_54 (by omega) (by omega) (by decide) (by decide) (fun h54 => ?_) (fun h54 => ?_)
    · have hno : ¬ q_fit ρ i = true := fun g => h54 ((q_unl_fit ρ i).mpr g)
      have hWs : zWc (zset M 122 i 0) := hW9.setc (by decide +kernel)
      refine p_iconst 62 dX1_learn_61 ?_
      refine p_zastn 122 63 (i) dX1_learn_62 rfl (by omega) (by omega) (by decide) ?_
      have hW9 := hWs
      refine p_aload_n 64 dX1_learn_63 rfl rfl (by decide) ?_
      refine p_getR 121 67 dX1_learn_64 fX1_9 rfl (hW9 (121, 6, 122) (by decide)) ?_
      refine p_iload_n 68 dX1_learn_67 rfl rfl ?_
      refine p_zaldn 122 69 (i) dX1_learn_68 rfl (by omega) (by omega) ?_
      rw [zset_at]
      refine p_if_eq 102 72 dX1_learn_69 (by decide) (by decide) (fun h69 => ?_) (fun h69 => ?_)
      · refine p_iinc 105 dX1_learn_102 rfl rfl rfl ?_
        dsimp only [List.set]
        refine p_goto 31 dX1_learn_105 ?_
        first
          | (refine ih (i + 1) (by omega) (fun a g1 g2 => by rw [zset_ne _ g2]; exact hM a g1 g2) (fun k g1 g2 g3 => by rw [zset_ne _ (by decide)]; exact hM2 k g1 g2 g3) ?_ ?_ ?_ (fun S hS => ?_)
             · rw [zset_ne _ (by decide), k1]; show _ = ((q_cntp (q_fit ρ) i + (if q_fit ρ i then 1 else 0) : Nat) : Int); rw [if_neg hno]; rfl
             · rw [zset_ne _ (by decide), k2]; show _ = ((if q_fit ρ i then _ else q_orp (q_fit ρ) i : Nat) : Int); rw [if_neg hno]
             · rw [zset_ne _ (by decide), k3]; show _ = ((if q_fit ρ i then _ else q_andp (q_fit ρ) (2 ^ q_n ρ 6 - 1) i : Nat) : Int); rw [if_neg hno]
             · by_cases e : S = i
               · subst e; rw [zset_at, if_neg hno]
               · rw [zset_k e]; exact hk S (by omega))
          | (refine ih (i + 1) (by omega) (fun a g1 g2 => by rw [zset_ne _ g1, zset_ne _ g1, zset_ne _ g1, zset_ne _ g2]; exact hM a g1 g2) (fun k g1 g2 g3 => by rw [zset_k g3, zset_k g2, zset_k g1, zset_ne _ (by decide)]; exact hM2 k g1 g2 g3) ?_ ?_ ?_ (fun S hS => ?_)
             · rw [zset_k (by decide), zset_k (by decide), zset_at]; show _ = ((q_cntp (q_fit ρ) i + (if q_fit ρ i then 1 else 0) : Nat) : Int); rw [if_pos hyes]; rfl
             · rw [zset_k (by decide), zset_at]; show _ = ((if q_fit ρ i then q_orp (q_fit ρ) i ||| i else _ : Nat) : Int); rw [if_pos hyes]
             · rw [zset_at]; show _ = ((if q_fit ρ i then q_andp (q_fit ρ) (2 ^ q_n ρ 6 - 1) i &&& i else _ : Nat) : Int); rw [if_pos hyes]
             · rw [zset_ne _ (by decide), zset_ne _ (by decide), zset_ne _ (by decide)]
               by_cases e : S = i
               · subst e; rw [zset_at, if_pos hyes]
               · rw [zset_k e]; exact hk S (by omega))
          | exact absurd h69 (by decide)
          | exact absurd rfl h69
      · refine p_aload_n 73 dX1_learn_72 rfl rfl (by decide) ?_
        refine p_dupR 74 dX1_learn_73 ?_
        refine p_getI 121 77 dX1_learn_74 fX1_23 rfl ?_
        rw [zset_ne _ (by decide), k1]
        refine p_iconst 78 dX1_learn_77 ?_
        refine p_iadd 79 dX1_learn_78 ?_
        refine p_putI 121 82 dX1_learn_79 wX1_23 rfl ?_
        refine p_aload_n 83 dX1_learn_82 rfl rfl (by decide) ?_
        refine p_dupR 84 dX1_learn_83 ?_
        refine p_getI 121 87 dX1_learn_84 fX1_27 rfl ?_
        rw [zset_k (by decide), zset_ne _ (by decide), k2]
        refine p_iload_n 88 dX1_learn_87 rfl rfl ?_
        refine p_ior 89 dX1_learn_88 ?_
        rw [z_ior_n _ i (by omega) (by omega)]
        refine p_putI 121 92 dX1_learn_89 wX1_27 rfl ?_
        refine p_aload_n 93 dX1_learn_92 rfl rfl (by decide) ?_
        refine p_dupR 94 dX1_learn_93 ?_
        refine p_getI 121 97 dX1_learn_94 fX1_37 rfl ?_
        rw [zset_k (by decide), zset_k (by decide), zset_ne _ (by decide), k3]
        refine p_iload_n 98 dX1_learn_97 rfl rfl ?_
        refine p_iand 99 dX1_learn_98 ?_
        rw [z_iand_n _ i (by omega) (by omega)]
        refine p_putI 121 102 dX1_learn_99 wX1_37 rfl ?_
        refine p_iinc 105 dX1_learn_102 rfl rfl rfl ?_
        dsimp only [List.set]
        refine p_goto 31 dX1_learn_105 ?_
        first
          | (refine ih (i + 1) (by omega) (fun a g1 g2 => by rw [zset_ne _ g2]; exact hM a g1 g2) (fun k g1 g2 g3 => by rw [zset_ne _ (by decide)]; exact hM2 k g1 g2 g3) ?_ ?_ ?_ (fun S hS => ?_)
             · rw [zset_ne _ (by decide), k1]; show _ = ((q_cntp (q_fit ρ) i + (if q_fit ρ i then 1 else 0) : Nat) : Int); rw [if_neg hno]; rfl
             · rw [zset_ne _ (by decide), k2]; show _ = ((if q_fit ρ i then _ else q_orp (q_fit ρ) i : Nat) : Int); rw [if_neg hno]
             · rw [zset_ne _ (by decide), k3]; show _ = ((if q_fit ρ i then _ else q_andp (q_fit ρ) (2 ^ q_n ρ 6 - 1) i : Nat) : Int); rw [if_neg hno]
             · by_cases e : S = i
               · subst e; rw [zset_at, if_neg hno]
               · rw [zset_k e]; exact hk S (by omega))
          | (refine ih (i + 1) (by omega) (fun a g1 g2 => by rw [zset_ne _ g1, zset_ne _ g1, zset_ne _ g1, zset_ne _ g2]; exact hM a g1 g2) (fun k g1 g2 g3 => by rw [zset_k g3, zset_k g2, zset_k g1, zset_ne _ (by decide)]; exact hM2 k g1 g2 g3) ?_ ?_ ?_ (fun S hS => ?_)
             · rw [zset_k (by decide), zset_k (by decide), zset_at]; show _ = ((q_cntp (q_fit ρ) i + (if q_fit ρ i then 1 else 0) : Nat) : Int); rw [if_pos hyes]; rfl
             · rw [zset_k (by decide), zset_at]; show _ = ((if q_fit ρ i then q_orp (q_fit ρ) i ||| i else _ : Nat) : Int); rw [if_pos hyes]
             · rw [zset_at]; show _ = ((if q_fit ρ i then q_andp (q_fit ρ) (2 ^ q_n ρ 6 - 1) i &&& i else _ : Nat) : Int); rw [if_pos hyes]
             · rw [zset_ne _ (by decide), zset_ne _ (by decide), zset_ne _ (by decide)]
               by_cases e : S = i
               · subst e; rw [zset_at, if_pos hyes]
               · rw [zset_k e]; exact hk S (by omega))
          | exact absurd h69 (by decide)
          | exact absurd rfl h69
    · have hyes : q_fit ρ i = true := (q_unl_fit ρ i).mp (Decidable.not_not.mp h54)
      have hWs : zWc (zset M 122 i 1) := hW9.setc (by decide +kernel)
      refine p_iconst 58 dX1_learn_57 ?_
      refine p_goto 62 dX1_learn_58 ?_
      refine p_zastn 122 63 (i) dX1_learn_62 rfl (by omega) (by omega) (by decide) ?_
      have hW9 := hWs
      refine p_aload_n 64 dX1_learn_63 rfl rfl (by decide) ?_
      refine p_getR 121 67 dX1_learn_64 fX1_9 rfl (hW9 (121, 6, 122) (by decide)) ?_
      refine p_iload_n 68 dX1_learn_67 rfl rfl ?_
      refine p_zaldn 122 69 (i) dX1_learn_68 rfl (by omega) (by omega) ?_
      rw [zset_at]
      refine p_if_eq 102 72 dX1_learn_69 (by decide) (by decide) (fun h69 => ?_) (fun h69 => ?_)
      · refine p_iinc 105 dX1_learn_102 rfl rfl rfl ?_
        dsimp only [List.set]
        refine p_goto 31 dX1_learn_105 ?_
        first
          | (refine ih (i + 1) (by omega) (fun a g1 g2 => by rw [zset_ne _ g2]; exact hM a g1 g2) (fun k g1 g2 g3 => by rw [zset_ne _ (by decide)]; exact hM2 k g1 g2 g3) ?_ ?_ ?_ (fun S hS => ?_)
             · rw [zset_ne _ (by decide), k1]; show _ = ((q_cntp (q_fit ρ) i + (if q_fit ρ i then 1 else 0) : Nat) : Int); rw [if_neg hno]; rfl
             · rw [zset_ne _ (by decide), k2]; show _ = ((if q_fit ρ i then _ else q_orp (q_fit ρ) i : Nat) : Int); rw [if_neg hno]
             · rw [zset_ne _ (by decide), k3]; show _ = ((if q_fit ρ i then _ else q_andp (q_fit ρ) (2 ^ q_n ρ 6 - 1) i : Nat) : Int); rw [if_neg hno]
             · by_cases e : S = i
               · subst e; rw [zset_at, if_neg hno]
               · rw [zset_k e]; exact hk S (by omega))
          | (refine ih (i + 1) (by omega) (fun a g1 g2 => by rw [zset_ne _ g1, zset_ne _ g1, zset_ne _ g1, zset_ne _ g2]; exact hM a g1 g2) (fun k g1 g2 g3 => by rw [zset_k g3, zset_k g2, zset_k g1, zset_ne _ (by decide)]; exact hM2 k g1 g2 g3) ?_ ?_ ?_ (fun S hS => ?_)
             · rw [zset_k (by decide), zset_k (by decide), zset_at]; show _ = ((q_cntp (q_fit ρ) i + (if q_fit ρ i then 1 else 0) : Nat) : Int); rw [if_pos hyes]; rfl
             · rw [zset_k (by decide), zset_at]; show _ = ((if q_fit ρ i then q_orp (q_fit ρ) i ||| i else _ : Nat) : Int); rw [if_pos hyes]
             · rw [zset_at]; show _ = ((if q_fit ρ i then q_andp (q_fit ρ) (2 ^ q_n ρ 6 - 1) i &&& i else _ : Nat) : Int); rw [if_pos hyes]
             · rw [zset_ne _ (by decide), zset_ne _ (by decide), zset_ne _ (by decide)]
               by_cases e : S = i
               · subst e; rw [zset_at, if_pos hyes]
               · rw [zset_k e]; exact hk S (by omega))
          | exact absurd h69 (by decide)
          | exact absurd rfl h69
      · refine p_aload_n 73 dX1_learn_72 rfl rfl (by decide) ?_
        refine p_dupR 74 dX1_learn_73 ?_
        refine p_getI 121 77 dX1_learn_74 fX1_23 rfl ?_
        rw [zset_ne _ (by decide), k1]
        refine p_iconst 78 dX1_learn_77 ?_
        refine p_iadd 79 dX1_learn_78 ?_
        refine p_putI 121 82 dX1_learn_79 wX1_23 rfl ?_
        refine p_aload_n 83 dX1_learn_82 rfl rfl (by decide) ?_
        refine p_dupR 84 dX1_learn_83 ?_
        refine p_getI 121 87 dX1_learn_84 fX1_27 rfl ?_
        rw [zset_k (by decide), zset_ne _ (by decide), k2]
        refine p_iload_n 88 dX1_learn_87 rfl rfl ?_
        refine p_ior 89 dX1_learn_88 ?_
        rw [z_ior_n _ i (by omega) (by omega)]
        refine p_putI 121 92 dX1_learn_89 wX1_27 rfl ?_
        refine p_aload_n 93 dX1_learn_92 rfl rfl (by decide) ?_
        refine p_dupR 94 dX1_learn_93 ?_
        refine p_getI 121 97 dX1_learn_94 fX1_37 rfl ?_
        rw [zset_k (by decide), zset_k (by decide), zset_ne _ (by decide), k3]
        refine p_iload_n 98 dX1_learn_97 rfl rfl ?_
        refine p_iand 99 dX1_learn_98 ?_
        rw [z_iand_n _ i (by omega) (by omega)]
        refine p_putI 121 102 dX1_learn_99 wX1_37 rfl ?_
        refine p_iinc 105 dX1_learn_102 rfl rfl rfl ?_
        dsimp only [List.set]
        refine p_goto 31 dX1_learn_105 ?_
        first
          | (refine ih (i + 1) (by omega) (fun a g1 g2 => by rw [zset_ne _ g2]; exact hM a g1 g2) (fun k g1 g2 g3 => by rw [zset_ne _ (by decide)]; exact hM2 k g1 g2 g3) ?_ ?_ ?_ (fun S hS => ?_)
             · rw [zset_ne _ (by decide), k1]; show _ = ((q_cntp (q_fit ρ) i + (if q_fit ρ i then 1 else 0) : Nat) : Int); rw [if_neg hno]; rfl
             · rw [zset_ne _ (by decide), k2]; show _ = ((if q_fit ρ i then _ else q_orp (q_fit ρ) i : Nat) : Int); rw [if_neg hno]
             · rw [zset_ne _ (by decide), k3]; show _ = ((if q_fit ρ i then _ else q_andp (q_fit ρ) (2 ^ q_n ρ 6 - 1) i : Nat) : Int); rw [if_neg hno]
             · by_cases e : S = i
               · subst e; rw [zset_at, if_neg hno]
               · rw [zset_k e]; exact hk S (by omega))
          | (refine ih (i + 1) (by omega) (fun a g1 g2 => by rw [zset_ne _ g1, zset_ne _ g1, zset_ne _ g1, zset_ne _ g2]; exact hM a g1 g2) (fun k g1 g2 g3 => by rw [zset_k g3, zset_k g2, zset_k g1, zset_ne _ (by decide)]; exact hM2 k g1 g2 g3) ?_ ?_ ?_ (fun S hS => ?_)
             · rw [zset_k (by decide), zset_k (by decide), zset_at]; show _ = ((q_cntp (q_fit ρ) i + (if q_fit ρ i then 1 else 0) : Nat) : Int); rw [if_pos hyes]; rfl
             · rw [zset_k (by decide), zset_at]; show _ = ((if q_fit ρ i then q_orp (q_fit ρ) i ||| i else _ : Nat) : Int); rw [if_pos hyes]
             · rw [zset_at]; show _ = ((if q_fit ρ i then q_andp (q_fit ρ) (2 ^ q_n ρ 6 - 1) i &&& i else _ : Nat) : Int); rw [if_pos hyes]
             · rw [zset_ne _ (by decide), zset_ne _ (by decide), zset_ne _ (by decide)]
               by_cases e : S = i
               · subst e; rw [zset_at, if_pos hyes]
               · rw [zset_k e]; exact hk S (by omega))
          | exact absurd h69 (by decide)
          | exact absurd rfl h69
theorem s_learnF {l : Launch} {X : ZX} {M : ZM} {c : Nat} (hc : isC c) {ρ : Nat → Int} {h : Int} (hW : zWc M) (hC : ICc ρ h c M) (hR : wfR ρ) (hs : M 121 0 = 0 ∨ M 121 0 = 1 ∧ ICf ρ M) : zCv l X 5 yX1_learn tX1_learn [zr 121, zr ((c + 17 : Nat) : Int)] M (fun M' => (∀ a, a < 121 ∨ 123 < a → M' a = M a) ∧ (∀ k, 6 ≤ k → M' 121 k = M 121 k) ∧ M' 121 0 = 1 ∧ ICf ρ M') := by
  have e6 : ρ 6 = (q_n ρ 6 : Int) := hR.n (by decide)
  have b6 := hR.2.1.2.2.2.2.2.2.1
  have e7 : ρ 7 = (q_n ρ 7 : Int) := hR.n (by decide)
  have b7 := hR.2.1.2.2.2.2.2.2.2
  have hcl := hc.lt
  have hp6 := p6 (n := q_n ρ 6) (by omega)
  refine zC.of [some (zr 121), some (zr ((c + 17 : Nat) : Int)), none] (by decide +kernel) rfl rfl (Nat.le_of_ble_eq_true rfl) rfl ?_
  refine p_aload_n 1 dX1_learn_0 rfl rfl (by decide) ?_
  refine p_getI 121 4 dX1_learn_1 fX1_19 rfl ?_
  refine p_if_eq 8 7 dX1_learn_4 (by omega) (by omega) (fun h4 => ?_) (fun h4 => ?_)
  · refine p_aload_n 9 dX1_learn_8 rfl rfl (by decide) ?_
    refine p_iconst 10 dX1_learn_9 ?_
    refine p_putI 121 13 dX1_learn_10 wX1_23 rfl ?_
    refine p_aload_n 14 dX1_learn_13 rfl rfl (by decide) ?_
    refine p_iconst 15 dX1_learn_14 ?_
    refine p_putI 121 18 dX1_learn_15 wX1_27 rfl ?_
    refine p_aload_n 19 dX1_learn_18 rfl rfl (by decide) ?_
    refine p_aload_n 20 dX1_learn_19 rfl rfl (by omega) ?_
    refine p_getI (c + 17) 23 dX1_learn_20 fX1_30 hc.tt3.1 ?_
    rw [show zset (zset M 121 1 0) 121 2 0 (c + 17) 0 = (q_n ρ 6 : Int) by rw [zset_ne _ (by omega), zset_ne _ (by omega), hC.1.2.2.2.2.2.2.2.1, e6]]
    refine p_callN1i 26 dX1_learn_23 (s_fullBits (n := q_n ρ 6) (by omega)) ln_X1_33 mX11_fullBits (by decide) (Nat.le_of_ble_eq_true rfl) ?_
    rintro _ _ ⟨rfl, e9⟩
    have e9 := e9.symm
    subst e9
    refine p_putI 121 29 dX1_learn_26 wX1_37 rfl ?_
    refine p_iconst 30 dX1_learn_29 ?_
    refine p_istore_n 31 dX1_learn_30 rfl (Nat.le_of_ble_eq_true rfl) rfl rfl ?_
    dsimp only [List.set]
    refine (l_learnF (l := l) (X := X) (M := M) (N := M) hc hW hC hR (2 ^ q_n ρ 6) 0 (Nat.zero_add _) (fun a g1 g2 => by rw [zset_ne _ g1, zset_ne _ g1, zset_ne _ g1]) (fun k g1 g2 g3 => by rw [zset_k g3, zset_k g2, zset_k g1]) rfl rfl rfl (fun S hS => absurd hS (by omega)))
  · have hs1 : M 121 0 = 1 ∧ ICf ρ M := hs.resolve_left h4
    refine p_vret dX1_learn_7 rfl ?_
    exact ⟨rfl, fun a _ => rfl, fun k _ => rfl, hs1.1, hs1.2⟩
