theorem q_set_le (p : Nat → Bool) {n m : Nat} (h : n ≤ m) : q_set p n < 2 ^ m := Nat.lt_of_lt_of_le (q_set_lt p n) (Nat.pow_le_pow_right (by decide) h)
def q_opt (o : Option Nat) : Int := match o with
  | some x => (x : Int)
  | none => -2
theorem q_wt_le {ρ : Nat → Int} (hR : wfR ρ) {s : Nat} (hs : s < 7) : q_wt (q_n ρ) s ≤ 40 := by
  obtain ⟨b1, b2, b3⟩ := hR.2.2.1 s hs
  have n3 := hR.1 (8 + 3 * s + 2) (by omega)
  unfold q_wt q_n
  split
  · omega
  · split <;> omega
theorem q_harm_le {ρ : Nat → Int} (hR : wfR ρ) {s : Nat} (hs : s < 7) (S : Nat) : q_harm (q_n ρ) S s ≤ 40 := by
  unfold q_harm
  split
  · omega
  · split
    · omega
    · exact q_wt_le hR hs
theorem s_reaches_2 {l : Launch} {X : ZX} {M : ZM} {ρ : Nat → Int} {h : Int} (hW : zWc M) (hC : ICc ρ h 2 M) (hR : wfR ρ) {a s : Nat} (ha : (a : Int) < ρ 3) (hs : (s : Int) < ρ 2) : zCi l X 1 yX0_reaches tX0_reaches [zr 2, zi (a : Int), zi (s : Int)] M (fun x M' => x = (if q_reach (q_n ρ) a s = true then 1 else 0) ∧ M' = M) := by
  have m2 := hR.1 2 (by decide)
  have m3 := hR.1 3 (by decide)
  have e2 : ρ 2 = (q_n ρ 2 : Int) := hR.n (by decide)
  have e3 : ρ 3 = (q_n ρ 3 : Int) := hR.n (by decide)
  have b2 := hR.2.1.2.2.1
  have b3 := hR.2.1.2.2.2.1
  have hct : M 3 0 = ρ 2 := hC.1.2.2.2.1
  have hca : M 8 0 = ρ 3 := hC.1.2.2.2.2.1
  obtain ⟨-, gh, -⟩ := hC.2.1 s hs
  have gh : M 6 s = ρ (8 + 3 * s + 1) := gh
  obtain ⟨hh, -, gr⟩ := hC.2.2.1 a ha
  have hh : M 10 a = ρ (29 + 3 * a) := hh
  have gr : M 12 a = ρ (29 + 3 * a + 2) := gr
  obtain ⟨-, c2, -⟩ := hR.2.2.1 s (by omega)
  obtain ⟨d1, -, d3⟩ := hR.2.2.2.1 a (by omega)
  have n1 := hR.1 (8 + 3 * s + 1) (by omega)
  have n2 := hR.1 (29 + 3 * a) (by omega)
  have n3 := hR.1 (29 + 3 * a + 2) (by omega)
  refine zC.of [some (zr 2), some (zi (a : Int)), some (zi (s : Int))] (by decide +kernel) rfl rfl (Nat.le_of_ble_eq_true rfl) rfl ?_
  refine p_aload_n 1 dX0_reaches_0 rfl rfl (by decide) ?_
  refine p_getR 2 4 dX0_reaches_1 fX0_21 rfl (hW (2, 4, 8) (by decide)) ?_
  refine p_getR 8 7 dX0_reaches_4 fX0_71 rfl (hW (8, 2, 10) (by decide)) ?_
  refine p_iload_n 8 dX0_reaches_7 rfl rfl ?_
  refine p_iald 10 9 dX0_reaches_8 rfl (by omega) (by omega) ?_
  try simp only [Int.toNat_natCast, Int.reduceToNat]
  refine p_aload_n 10 dX0_reaches_9 rfl rfl (by decide) ?_
  refine p_getR 2 13 dX0_reaches_10 fX0_12 rfl (hW (2, 3, 3) (by decide)) ?_
  refine p_getR 3 16 dX0_reaches_13 fX0_75 rfl (hW (3, 3, 6) (by decide)) ?_
  refine p_iload_n 17 dX0_reaches_16 rfl rfl ?_
  refine p_iald 6 18 dX0_reaches_17 rfl (by omega) (by omega) ?_
  try simp only [Int.toNat_natCast, Int.reduceToNat]
  rw [hh, gh]
  refine p_isub 19 dX0_reaches_18 ?_
  refine p_mabs 22 dX0_reaches_19 lk_X0_76 (by decide) (Nat.le_of_ble_eq_true rfl) (by omega) (by omega) ?_
  refine p_aload_n 23 dX0_reaches_22 rfl rfl (by decide) ?_
  refine p_getR 2 26 dX0_reaches_23 fX0_21 rfl (hW (2, 4, 8) (by decide)) ?_
  refine p_getR 8 29 dX0_reaches_26 fX0_82 rfl (hW (8, 4, 12) (by decide)) ?_
  refine p_iload_n 30 dX0_reaches_29 rfl rfl ?_
  refine p_iald 12 31 dX0_reaches_30 rfl (by omega) (by omega) ?_
  try simp only [Int.toNat_natCast, Int.reduceToNat]
  rw [gr]
  refine p_icmp_gt 38 34 dX0_reaches_31 (by split <;> omega) (by split <;> omega) (by omega) (by omega) (fun h31 => ?_) (fun h31 => ?_)
  · refine p_iconst 39 dX0_reaches_38 ?_
    refine p_zret dX0_reaches_39 rfl (by decide) ?_
    refine ⟨_, rfl, ?_, rfl⟩
    unfold q_reach q_dist q_n
    first | (rw [if_pos (decide_eq_true (by split <;> split at h31 <;> omega))]; done) | (rw [if_neg (by rw [decide_eq_true_eq]; split <;> split at h31 <;> omega)]; done)
  · refine p_iconst 35 dX0_reaches_34 ?_
    refine p_goto 39 dX0_reaches_35 ?_
    refine p_zret dX0_reaches_39 rfl (by decide) ?_
    refine ⟨_, rfl, ?_, rfl⟩
    unfold q_reach q_dist q_n
    first | (rw [if_pos (decide_eq_true (by split <;> split at h31 <;> omega))]; done) | (rw [if_neg (by rw [decide_eq_true_eq]; split <;> split at h31 <;> omega)]; done)
theorem l_tendersOf_2 {l : Launch} {X : ZX} {M : ZM} {ρ : Nat → Int} {h : Int} (hW : zWc M) (hC : ICc ρ h 2 M) (hR : wfR ρ) {s : Nat} (hs : (s : Int) < ρ 2) : ∀ (j i : Nat), i + j = q_n ρ 3 → zP l X 2 tX0_tendersOf 4 [some (zr 2), some (zi (s : Int)), some (zi (q_set (fun a => q_reach (q_n ρ) a s) i : Int)), some (zi (i : Int))] [] M (fun r M' => ∃ a, r = some (zi a) ∧ (a = (q_set (fun a => q_reach (q_n ρ) a s) (q_n ρ 3) : Int) ∧ M' = M)) := by
  have m2 := hR.1 2 (by decide)
  have m3 := hR.1 3 (by decide)
  have e2 : ρ 2 = (q_n ρ 2 : Int) := hR.n (by decide)
  have e3 : ρ 3 = (q_n ρ 3 : Int) := hR.n (by decide)
  have b2 := hR.2.1.2.2.1
  have b3 := hR.2.1.2.2.2.1
  have hct : M 3 0 = ρ 2 := hC.1.2.2.2.1
  have hca : M 8 0 = ρ 3 := hC.1.2.2.2.2.1
  intro j
  induction j with
  | zero =>
    intro i hi
    refine p_iload_n 5 dX0_tendersOf_4 rfl rfl ?_
    refine p_aload_n 6 dX0_tendersOf_5 rfl rfl (by decide) ?_
    refine p_getR 2 9 dX0_tendersOf_6 fX0_21 rfl (hW (2, 4, 8) (by decide)) ?_
    refine p_getI 8 12 dX0_tendersOf_9 fX0_53 rfl ?_
    rw [hca]
    refine p_icmp_ge 37 15 dX0_tendersOf_12 (by omega) (by omega) (by omega) (by omega) (fun h12 => ?_) (fun h12 => absurd (by omega) (fun h9 : False => h9))
    refine p_iload_n 38 dX0_tendersOf_37 rfl rfl ?_
    refine p_iret dX0_tendersOf_38 rfl ?_
    rw [Nat.add_zero] at hi
    exact ⟨_, rfl, by rw [hi], rfl⟩
  | succ j ih =>
    intro i hi
    refine p_iload_n 5 dX0_tendersOf_4 rfl rfl ?_
    refine p_aload_n 6 dX0_tendersOf_5 rfl rfl (by decide) ?_
    refine p_getR 2 9 dX0_tendersOf_6 fX0_21 rfl (hW (2, 4, 8) (by decide)) ?_
    refine p_getI 8 12 dX0_tendersOf_9 fX0_53 rfl ?_
    rw [hca]
    refine p_icmp_ge 37 15 dX0_tendersOf_12 (by omega) (by omega) (by omega) (by omega) (fun h12 => absurd (by omega) (fun h9 : False => h9)) (fun h12 => ?_)
    refine p_aload_n 16 dX0_tendersOf_15 rfl rfl (by decide) ?_
    refine p_iload_n 17 dX0_tendersOf_16 rfl rfl ?_
    refine p_iload_n 18 dX0_tendersOf_17 rfl rfl ?_
    refine p_callV2i 2 21 dX0_tendersOf_18 (s_reaches_2 hW hC hR (a := i) (s := s) (by omega) hs) lk_X0_85 mX0_reaches rfl rfl (by decide) (Nat.le_of_ble_eq_true rfl) ?_
    rintro _ _ ⟨rfl, rfl⟩
    refine p_if_eq 31 24 dX0_tendersOf_21 (by split <;> omega) (by split <;> omega) (fun h21 => ?_) (fun h21 => ?_)
    · refine p_iinc 34 dX0_tendersOf_31 rfl rfl rfl ?_
      dsimp only [List.set]
      refine p_goto 4 dX0_tendersOf_34 ?_
      have e := ih (i + 1) (by omega)
      have er : q_set (fun a => q_reach (q_n ρ) a s) (i + 1) = if q_reach (q_n ρ) i s then q_set (fun a => q_reach (q_n ρ) a s) i ||| 2 ^ i else q_set (fun a => q_reach (q_n ρ) a s) i := rfl
      first
        | (have hb : q_reach (q_n ρ) i s = true := by
             cases hb : q_reach (q_n ρ) i s
             · rw [hb, if_neg (by decide)] at h21; exact absurd rfl h21
             · rfl
           rw [er, if_pos hb] at e
           exact e)
        | (have hb : ¬ q_reach (q_n ρ) i s = true := by
             intro hb
             rw [if_pos hb] at h21; exact absurd h21 (by decide)
           rw [er, if_neg hb] at e
           exact e)
    · refine p_iload_n 25 dX0_tendersOf_24 rfl rfl ?_
      refine p_iload_n 26 dX0_tendersOf_25 rfl rfl ?_
      refine p_callN1i 29 dX0_tendersOf_26 (s_bit (i := i) (by omega)) ln_X0_89 mX11_bit (by decide) (Nat.le_of_ble_eq_true rfl) ?_
      rintro _ _ ⟨rfl, rfl⟩
      refine p_ior 30 dX0_tendersOf_29 ?_
      rw [z_ior_set _ (show i < 30 by omega)]
      refine p_istore_n 31 dX0_tendersOf_30 rfl (Nat.le_of_ble_eq_true rfl) rfl rfl ?_
      dsimp only [List.set]
      refine p_iinc 34 dX0_tendersOf_31 rfl rfl rfl ?_
      dsimp only [List.set]
      refine p_goto 4 dX0_tendersOf_34 ?_
      have e := ih (i + 1) (by omega)
      have er : q_set (fun a => q_reach (q_n ρ) a s) (i + 1) = if q_reach (q_n ρ) i s then q_set (fun a => q_reach (q_n ρ) a s) i ||| 2 ^ i else q_set (fun a => q_reach (q_n ρ) a s) i := rfl
      first
        | (have hb : q_reach (q_n ρ) i s = true := by
             cases hb : q_reach (q_n ρ) i s
             · rw [hb, if_neg (by decide)] at h21; exact absurd rfl h21
             · rfl
           rw [er, if_pos hb] at e
           exact e)
        | (have hb : ¬ q_reach (q_n ρ) i s = true := by
             intro hb
             rw [if_pos hb] at h21; exact absurd h21 (by decide)
           rw [er, if_neg hb] at e
           exact e)
theorem s_tendersOf_2 {l : Launch} {X : ZX} {M : ZM} {ρ : Nat → Int} {h : Int} (hW : zWc M) (hC : ICc ρ h 2 M) (hR : wfR ρ) {s : Nat} (hs : (s : Int) < ρ 2) : zCi l X 2 yX0_tendersOf tX0_tendersOf [zr 2, zi (s : Int)] M (fun a M' => a = (q_set (fun a => q_reach (q_n ρ) a s) (q_n ρ 3) : Int) ∧ M' = M) := by
  refine zC.of [some (zr 2), some (zi (s : Int)), none, none] (by decide +kernel) rfl rfl (Nat.le_of_ble_eq_true rfl) rfl ?_
  refine p_iconst 1 dX0_tendersOf_0 ?_
  refine p_istore_n 2 dX0_tendersOf_1 rfl (Nat.le_of_ble_eq_true rfl) rfl rfl ?_
  dsimp only [List.set]
  refine p_iconst 3 dX0_tendersOf_2 ?_
  refine p_istore_n 4 dX0_tendersOf_3 rfl (Nat.le_of_ble_eq_true rfl) rfl rfl ?_
  dsimp only [List.set]
  exact l_tendersOf_2 hW hC hR hs (q_n ρ 3) 0 (Nat.zero_add _)
theorem s_dayHarm_2 {l : Launch} {X : ZX} {M : ZM} {ρ : Nat → Int} {h : Int} (hW : zWc M) (hC : ICc ρ h 2 M) (hR : wfR ρ) {s S : Nat} (hs : (s : Int) < ρ 2) (hS : S < 2147483648) : zCi l X 2 yX0_dayHarm tX0_dayHarm [zr 2, zi (s : Int), zi (S : Int)] M (fun a M' => a = (q_harm (q_n ρ) S s : Int) ∧ M' = M) := by
  have m2 := hR.1 2 (by decide)
  have m3 := hR.1 3 (by decide)
  have e2 : ρ 2 = (q_n ρ 2 : Int) := hR.n (by decide)
  have e3 : ρ 3 = (q_n ρ 3 : Int) := hR.n (by decide)
  have b2 := hR.2.1.2.2.1
  have b3 := hR.2.1.2.2.2.1
  have hct : M 3 0 = ρ 2 := hC.1.2.2.2.1
  have hca : M 8 0 = ρ 3 := hC.1.2.2.2.2.1
  have hp7 : 2 ^ s ≤ 2 ^ 7 := Nat.pow_le_pow_right (by decide) (by omega)
  have hp0 : (0 : Int) ≤ ((2 ^ s : Nat) : Int) := Int.natCast_nonneg _
  have hp1 : 0 < 2 ^ s := Nat.two_pow_pos s
  obtain ⟨hk, -, -⟩ := hC.2.1 s hs
  have hk : M 5 s = ρ (8 + 3 * s) := hk
  obtain ⟨k3, -, -⟩ := hR.2.2.1 s (by omega)
  have k0 := hR.1 (8 + 3 * s) (by omega)
  refine zC.of [some (zr 2), some (zi (s : Int)), some (zi (S : Int))] (by decide +kernel) rfl rfl (Nat.le_of_ble_eq_true rfl) rfl ?_
  refine p_iload_n 1 dX0_dayHarm_0 rfl rfl ?_
  refine p_iload_n 2 dX0_dayHarm_1 rfl rfl ?_
  refine p_callN1i 5 dX0_dayHarm_2 (s_bit (i := s) (by omega)) ln_X0_89 mX11_bit (by decide) (Nat.le_of_ble_eq_true rfl) ?_
  rintro _ _ ⟨rfl, rfl⟩
  refine p_iand 6 dX0_dayHarm_5 ?_
  rw [z_and_bit S (by omega) hS]
  refine p_if_eq 11 9 dX0_dayHarm_6 (by split <;> omega) (by split <;> omega) (fun h6 => ?_) (fun h6 => ?_)
  · have hb : ¬ S.testBit s = true := by
      intro hb
      rw [if_pos hb] at h6
      omega
    refine p_aload_n 12 dX0_dayHarm_11 rfl rfl (by decide) ?_
    refine p_getR 2 15 dX0_dayHarm_12 fX0_12 rfl (hW (2, 3, 3) (by decide)) ?_
    refine p_getR 3 18 dX0_dayHarm_15 fX0_92 rfl (hW (3, 2, 5) (by decide)) ?_
    refine p_iload_n 19 dX0_dayHarm_18 rfl rfl ?_
    refine p_iald 5 20 dX0_dayHarm_19 rfl (by omega) (by omega) ?_
    try simp only [Int.toNat_natCast, Int.reduceToNat]
    refine p_iconst 21 dX0_dayHarm_20 ?_
    rw [hk]
    refine p_icmp_ne 37 24 dX0_dayHarm_21 (by omega) (by omega) (by omega) (by omega) (fun h21 => ?_) (fun h21 => ?_)
    · refine p_aload_n 38 dX0_dayHarm_37 rfl rfl (by decide) ?_
      refine p_getR 2 41 dX0_dayHarm_38 fX0_12 rfl (hW (2, 3, 3) (by decide)) ?_
      refine p_iload_n 42 dX0_dayHarm_41 rfl rfl ?_
      refine p_callV1i 3 45 dX0_dayHarm_42 (s_weight_2 hW hC hR hs) lk_X0_99 mX8_weight rfl rfl (by decide) (Nat.le_of_ble_eq_true rfl) ?_
      rintro _ _ ⟨rfl, rfl⟩
      refine p_iret dX0_dayHarm_45 rfl ?_
      refine ⟨_, rfl, ?_, rfl⟩
      unfold q_harm
      rw [if_neg hb, if_neg]
      rintro ⟨g1, g2⟩
      unfold q_n at g1
      first
        | (rw [if_pos g2] at h32; exact absurd h32 (by decide))
        | omega
    · refine p_aload_n 25 dX0_dayHarm_24 rfl rfl (by decide) ?_
      refine p_getR 2 28 dX0_dayHarm_25 fX0_12 rfl (hW (2, 3, 3) (by decide)) ?_
      refine p_iload_n 29 dX0_dayHarm_28 rfl rfl ?_
      refine p_callV1i 3 32 dX0_dayHarm_29 (s_anySheep_2 hW hC hR hS) lk_X0_95 mX8_anySheep rfl rfl (by decide) (Nat.le_of_ble_eq_true rfl) ?_
      rintro _ _ ⟨rfl, rfl⟩
      refine p_if_eq 37 35 dX0_dayHarm_32 (by split <;> omega) (by split <;> omega) (fun h32 => ?_) (fun h32 => ?_)
      · refine p_aload_n 38 dX0_dayHarm_37 rfl rfl (by decide) ?_
        refine p_getR 2 41 dX0_dayHarm_38 fX0_12 rfl (hW (2, 3, 3) (by decide)) ?_
        refine p_iload_n 42 dX0_dayHarm_41 rfl rfl ?_
        refine p_callV1i 3 45 dX0_dayHarm_42 (s_weight_2 hW hC hR hs) lk_X0_99 mX8_weight rfl rfl (by decide) (Nat.le_of_ble_eq_true rfl) ?_
        rintro _ _ ⟨rfl, rfl⟩
        refine p_iret dX0_dayHarm_45 rfl ?_
        refine ⟨_, rfl, ?_, rfl⟩
        unfold q_harm
        rw [if_neg hb, if_neg]
        rintro ⟨g1, g2⟩
        unfold q_n at g1
        first
          | (rw [if_pos g2] at h32; exact absurd h32 (by decide))
          | omega
      · refine p_iconst 36 dX0_dayHarm_35 ?_
        refine p_iret dX0_dayHarm_36 rfl ?_
        refine ⟨_, rfl, ?_, rfl⟩
        have ha : q_any (q_n ρ) S (q_n ρ 2) = true := by
          cases ha : q_any (q_n ρ) S (q_n ρ 2)
          · rw [ha, if_neg (by decide)] at h32; exact absurd rfl h32
          · rfl
        unfold q_harm
        rw [if_neg hb, if_pos ⟨by unfold q_n; omega, ha⟩]
        rfl
  · have hb : S.testBit s = true := by
      cases hb : S.testBit s
      · rw [hb, if_neg (by decide)] at h6; exact absurd rfl h6
      · rfl
    refine p_iconst 10 dX0_dayHarm_9 ?_
    refine p_iret dX0_dayHarm_10 rfl ?_
    exact ⟨_, rfl, by unfold q_harm; rw [if_pos hb]; rfl, rfl⟩
theorem l_dayHarmOfAll_2 {l : Launch} {X : ZX} {M : ZM} {ρ : Nat → Int} {h : Int} (hW : zWc M) (hC : ICc ρ h 2 M) (hR : wfR ρ) {S : Nat} (hS : S < 2147483648) : ∀ (j i : Nat), i + j = q_n ρ 2 → zP l X 3 tX0_dayHarmOfAll 4 [some (zr 2), some (zi (S : Int)), some (zi (q_sum (q_harm (q_n ρ) S) i : Int)), some (zi (i : Int))] [] M (fun r M' => ∃ a, r = some (zi a) ∧ (a = (q_harms (q_n ρ) S : Int) ∧ M' = M)) := by
  have m2 := hR.1 2 (by decide)
  have m3 := hR.1 3 (by decide)
  have e2 : ρ 2 = (q_n ρ 2 : Int) := hR.n (by decide)
  have e3 : ρ 3 = (q_n ρ 3 : Int) := hR.n (by decide)
  have b2 := hR.2.1.2.2.1
  have b3 := hR.2.1.2.2.2.1
  have hct : M 3 0 = ρ 2 := hC.1.2.2.2.1
  have hca : M 8 0 = ρ 3 := hC.1.2.2.2.2.1
  intro j
  induction j with
  | zero =>
    intro i hi
    refine p_iload_n 5 dX0_dayHarmOfAll_4 rfl rfl ?_
    refine p_aload_n 6 dX0_dayHarmOfAll_5 rfl rfl (by decide) ?_
    refine p_getR 2 9 dX0_dayHarmOfAll_6 fX0_12 rfl (hW (2, 3, 3) (by decide)) ?_
    refine p_getI 3 12 dX0_dayHarmOfAll_9 fX0_50 rfl ?_
    rw [hct]
    refine p_icmp_ge 30 15 dX0_dayHarmOfAll_12 (by omega) (by omega) (by omega) (by omega) (fun h12 => ?_) (fun h12 => absurd (by omega) (fun h9 : False => h9))
    refine p_iload_n 31 dX0_dayHarmOfAll_30 rfl rfl ?_
    refine p_iret dX0_dayHarmOfAll_31 rfl ?_
    rw [Nat.add_zero] at hi
    exact ⟨_, rfl, by unfold q_harms; rw [hi], rfl⟩
  | succ j ih =>
    intro i hi
    refine p_iload_n 5 dX0_dayHarmOfAll_4 rfl rfl ?_
    refine p_aload_n 6 dX0_dayHarmOfAll_5 rfl rfl (by decide) ?_
    refine p_getR 2 9 dX0_dayHarmOfAll_6 fX0_12 rfl (hW (2, 3, 3) (by decide)) ?_
    refine p_getI 3 12 dX0_dayHarmOfAll_9 fX0_50 rfl ?_
    rw [hct]
    refine p_icmp_ge 30 15 dX0_dayHarmOfAll_12 (by omega) (by omega) (by omega) (by omega) (fun h12 => absurd (by omega) (fun h9 : False => h9)) (fun h12 => ?_)
    refine p_iload_n 16 dX0_dayHarmOfAll_15 rfl rfl ?_
    refine p_aload_n 17 dX0_dayHarmOfAll_16 rfl rfl (by decide) ?_
    refine p_iload_n 18 dX0_dayHarmOfAll_17 rfl rfl ?_
    refine p_iload_n 19 dX0_dayHarmOfAll_18 rfl rfl ?_
    refine p_callV2i 2 22 dX0_dayHarmOfAll_19 (s_dayHarm_2 hW hC hR (s := i) (S := S) (by omega) hS) lk_X0_102 mX0_dayHarm rfl rfl (by decide) (Nat.le_of_ble_eq_true rfl) ?_
    rintro _ _ ⟨rfl, rfl⟩
    refine p_iadd 23 dX0_dayHarmOfAll_22 ?_
    refine p_istore_n 24 dX0_dayHarmOfAll_23 rfl (Nat.le_of_ble_eq_true rfl) rfl rfl ?_
    dsimp only [List.set]
    refine p_iinc 27 dX0_dayHarmOfAll_24 rfl rfl rfl ?_
    dsimp only [List.set]
    refine p_goto 4 dX0_dayHarmOfAll_27 ?_
    exact ih (i + 1) (by omega)
theorem s_dayHarmOfAll_2 {l : Launch} {X : ZX} {M : ZM} {ρ : Nat → Int} {h : Int} (hW : zWc M) (hC : ICc ρ h 2 M) (hR : wfR ρ) {S : Nat} (hS : S < 2147483648) : zCi l X 3 yX0_dayHarmOfAll tX0_dayHarmOfAll [zr 2, zi (S : Int)] M (fun a M' => a = (q_harms (q_n ρ) S : Int) ∧ M' = M) := by
  refine zC.of [some (zr 2), some (zi (S : Int)), none, none] (by decide +kernel) rfl rfl (Nat.le_of_ble_eq_true rfl) rfl ?_
  refine p_iconst 1 dX0_dayHarmOfAll_0 ?_
  refine p_istore_n 2 dX0_dayHarmOfAll_1 rfl (Nat.le_of_ble_eq_true rfl) rfl rfl ?_
  dsimp only [List.set]
  refine p_iconst 3 dX0_dayHarmOfAll_2 ?_
  refine p_istore_n 4 dX0_dayHarmOfAll_3 rfl (Nat.le_of_ble_eq_true rfl) rfl rfl ?_
  dsimp only [List.set]
  exact l_dayHarmOfAll_2 hW hC hR hS (q_n ρ 2) 0 (Nat.zero_add _)
theorem s_isSleeper_2 {l : Launch} {X : ZX} {M : ZM} {ρ : Nat → Int} {h : Int} (hW : zWc M) (hC : ICc ρ h 2 M) (hR : wfR ρ) (hco : M 0 5 = 2) {s : Int} (hs1 : -2147483648 ≤ s) (hs2 : s < 2147483648) : zCi l X 0 yX11_isSleeper tX11_isSleeper [zr 0, zi s] M (fun a M' => a = (if 0 ≤ s ∧ s < ρ 2 then 1 else 0) ∧ M' = M) := by
  have hn : M 3 0 = ρ 2 := hC.1.2.2.2.1
  have b := hR.2.1
  have n0 := hR.1 2 (by decide)
  refine zC.of [some (zr 0), some (zi s)] (by decide +kernel) rfl rfl (Nat.le_of_ble_eq_true rfl) rfl ?_
  refine p_iload_n 1 dX11_isSleeper_0 rfl rfl ?_
  refine p_if_lt 22 4 dX11_isSleeper_1 (by omega) (by omega) (fun h1 => ?_) (fun h1 => ?_)
  · refine p_iconst 23 dX11_isSleeper_22 ?_
    refine p_zret dX11_isSleeper_23 rfl (by decide) ?_
    refine ⟨_, rfl, ?_, rfl⟩
    first | (rw [if_pos (by omega)]; done) | (rw [if_neg (by omega)]; done)
  · refine p_iload_n 5 dX11_isSleeper_4 rfl rfl ?_
    refine p_aload_n 6 dX11_isSleeper_5 rfl rfl (by decide) ?_
    refine p_getR 0 9 dX11_isSleeper_6 fX11_16 rfl hco ?_
    refine p_getR 2 12 dX11_isSleeper_9 fX11_99 rfl (hW (2, 3, 3) (by decide)) ?_
    refine p_getI 3 15 dX11_isSleeper_12 fX11_103 rfl ?_
    rw [hn]
    refine p_icmp_ge 22 18 dX11_isSleeper_15 (by omega) (by omega) (by omega) (by omega) (fun h15 => ?_) (fun h15 => ?_)
    · refine p_iconst 23 dX11_isSleeper_22 ?_
      refine p_zret dX11_isSleeper_23 rfl (by decide) ?_
      refine ⟨_, rfl, ?_, rfl⟩
      first | (rw [if_pos (by omega)]; done) | (rw [if_neg (by omega)]; done)
    · refine p_iconst 19 dX11_isSleeper_18 ?_
      refine p_goto 23 dX11_isSleeper_19 ?_
      refine p_zret dX11_isSleeper_23 rfl (by decide) ?_
      refine ⟨_, rfl, ?_, rfl⟩
      first | (rw [if_pos (by omega)]; done) | (rw [if_neg (by omega)]; done)
theorem s_isHelper_2 {l : Launch} {X : ZX} {M : ZM} {ρ : Nat → Int} {h : Int} (hW : zWc M) (hC : ICc ρ h 2 M) (hR : wfR ρ) (hco : M 0 5 = 2) {s : Int} (hs1 : -2147483648 ≤ s) (hs2 : s < 2147483648) : zCi l X 0 yX11_isHelper tX11_isHelper [zr 0, zi s] M (fun a M' => a = (if 0 ≤ s ∧ s < ρ 3 then 1 else 0) ∧ M' = M) := by
  have hn : M 8 0 = ρ 3 := hC.1.2.2.2.2.1
  have b := hR.2.1
  have n0 := hR.1 3 (by decide)
  refine zC.of [some (zr 0), some (zi s)] (by decide +kernel) rfl rfl (Nat.le_of_ble_eq_true rfl) rfl ?_
  refine p_iload_n 1 dX11_isHelper_0 rfl rfl ?_
  refine p_if_lt 22 4 dX11_isHelper_1 (by omega) (by omega) (fun h1 => ?_) (fun h1 => ?_)
  · refine p_iconst 23 dX11_isHelper_22 ?_
    refine p_zret dX11_isHelper_23 rfl (by decide) ?_
    refine ⟨_, rfl, ?_, rfl⟩
    first | (rw [if_pos (by omega)]; done) | (rw [if_neg (by omega)]; done)
  · refine p_iload_n 5 dX11_isHelper_4 rfl rfl ?_
    refine p_aload_n 6 dX11_isHelper_5 rfl rfl (by decide) ?_
    refine p_getR 0 9 dX11_isHelper_6 fX11_16 rfl hco ?_
    refine p_getR 2 12 dX11_isHelper_9 fX11_151 rfl (hW (2, 4, 8) (by decide)) ?_
    refine p_getI 8 15 dX11_isHelper_12 fX11_207 rfl ?_
    rw [hn]
    refine p_icmp_ge 22 18 dX11_isHelper_15 (by omega) (by omega) (by omega) (by omega) (fun h15 => ?_) (fun h15 => ?_)
    · refine p_iconst 23 dX11_isHelper_22 ?_
      refine p_zret dX11_isHelper_23 rfl (by decide) ?_
      refine ⟨_, rfl, ?_, rfl⟩
      first | (rw [if_pos (by omega)]; done) | (rw [if_neg (by omega)]; done)
    · refine p_iconst 19 dX11_isHelper_18 ?_
      refine p_goto 23 dX11_isHelper_19 ?_
      refine p_zret dX11_isHelper_23 rfl (by decide) ?_
      refine ⟨_, rfl, ?_, rfl⟩
      first | (rw [if_pos (by omega)]; done) | (rw [if_neg (by omega)]; done)
theorem s_isWord_2 {l : Launch} {X : ZX} {M : ZM} {ρ : Nat → Int} {h : Int} (hW : zWc M) (hC : ICc ρ h 2 M) (hR : wfR ρ) (hco : M 0 5 = 2) {s : Int} (hs1 : -2147483648 ≤ s) (hs2 : s < 2147483648) : zCi l X 0 yX11_isWord tX11_isWord [zr 0, zi s] M (fun a M' => a = (if 0 ≤ s ∧ s < ρ 4 then 1 else 0) ∧ M' = M) := by
  have hn : M 13 0 = ρ 4 := hC.1.2.2.2.2.2.1
  have b := hR.2.1
  have n0 := hR.1 4 (by decide)
  refine zC.of [some (zr 0), some (zi s)] (by decide +kernel) rfl rfl (Nat.le_of_ble_eq_true rfl) rfl ?_
  refine p_iload_n 1 dX11_isWord_0 rfl rfl ?_
  refine p_if_lt 22 4 dX11_isWord_1 (by omega) (by omega) (fun h1 => ?_) (fun h1 => ?_)
  · refine p_iconst 23 dX11_isWord_22 ?_
    refine p_zret dX11_isWord_23 rfl (by decide) ?_
    refine ⟨_, rfl, ?_, rfl⟩
    first | (rw [if_pos (by omega)]; done) | (rw [if_neg (by omega)]; done)
  · refine p_iload_n 5 dX11_isWord_4 rfl rfl ?_
    refine p_aload_n 6 dX11_isWord_5 rfl rfl (by decide) ?_
    refine p_getR 0 9 dX11_isWord_6 fX11_16 rfl hco ?_
    refine p_getR 2 12 dX11_isWord_9 fX11_211 rfl (hW (2, 5, 13) (by decide)) ?_
    refine p_getI 13 15 dX11_isWord_12 fX11_266 rfl ?_
    rw [hn]
    refine p_icmp_ge 22 18 dX11_isWord_15 (by omega) (by omega) (by omega) (by omega) (fun h15 => ?_) (fun h15 => ?_)
    · refine p_iconst 23 dX11_isWord_22 ?_
      refine p_zret dX11_isWord_23 rfl (by decide) ?_
      refine ⟨_, rfl, ?_, rfl⟩
      first | (rw [if_pos (by omega)]; done) | (rw [if_neg (by omega)]; done)
    · refine p_iconst 19 dX11_isWord_18 ?_
      refine p_goto 23 dX11_isWord_19 ?_
      refine p_zret dX11_isWord_23 rfl (by decide) ?_
      refine ⟨_, rfl, ?_, rfl⟩
      first | (rw [if_pos (by omega)]; done) | (rw [if_neg (by omega)]; done)
theorem s_reaches_25 {l : Launch} {X : ZX} {M : ZM} {ρ : Nat → Int} {h : Int} (hW : zWc M) (hC : ICc ρ h 25 M) (hR : wfR ρ) {a s : Nat} (ha : (a : Int) < ρ 3) (hs : (s : Int) < ρ 2) : zCi l X 1 yX0_reaches tX0_reaches [zr 25, zi (a : Int), zi (s : Int)] M (fun x M' => x = (if q_reach (q_n ρ) a s = true then 1 else 0) ∧ M' = M) := by
  have m2 := hR.1 2 (by decide)
  have m3 := hR.1 3 (by decide)
  have e2 : ρ 2 = (q_n ρ 2 : Int) := hR.n (by decide)
  have e3 : ρ 3 = (q_n ρ 3 : Int) := hR.n (by decide)
  have b2 := hR.2.1.2.2.1
  have b3 := hR.2.1.2.2.2.1
  have hct : M 26 0 = ρ 2 := hC.1.2.2.2.1
  have hca : M 31 0 = ρ 3 := hC.1.2.2.2.2.1
  obtain ⟨-, gh, -⟩ := hC.2.1 s hs
  have gh : M 29 s = ρ (8 + 3 * s + 1) := gh
  obtain ⟨hh, -, gr⟩ := hC.2.2.1 a ha
  have hh : M 33 a = ρ (29 + 3 * a) := hh
  have gr : M 35 a = ρ (29 + 3 * a + 2) := gr
  obtain ⟨-, c2, -⟩ := hR.2.2.1 s (by omega)
  obtain ⟨d1, -, d3⟩ := hR.2.2.2.1 a (by omega)
  have n1 := hR.1 (8 + 3 * s + 1) (by omega)
  have n2 := hR.1 (29 + 3 * a) (by omega)
  have n3 := hR.1 (29 + 3 * a + 2) (by omega)
  refine zC.of [some (zr 25), some (zi (a : Int)), some (zi (s : Int))] (by decide +kernel) rfl rfl (Nat.le_of_ble_eq_true rfl) rfl ?_
  refine p_aload_n 1 dX0_reaches_0 rfl rfl (by decide) ?_
  refine p_getR 25 4 dX0_reaches_1 fX0_21 rfl (hW (25, 4, 31) (by decide)) ?_
  refine p_getR 31 7 dX0_reaches_4 fX0_71 rfl (hW (31, 2, 33) (by decide)) ?_
  refine p_iload_n 8 dX0_reaches_7 rfl rfl ?_
  refine p_iald 33 9 dX0_reaches_8 rfl (by omega) (by omega) ?_
  try simp only [Int.toNat_natCast, Int.reduceToNat]
  refine p_aload_n 10 dX0_reaches_9 rfl rfl (by decide) ?_
  refine p_getR 25 13 dX0_reaches_10 fX0_12 rfl (hW (25, 3, 26) (by decide)) ?_
  refine p_getR 26 16 dX0_reaches_13 fX0_75 rfl (hW (26, 3, 29) (by decide)) ?_
  refine p_iload_n 17 dX0_reaches_16 rfl rfl ?_
  refine p_iald 29 18 dX0_reaches_17 rfl (by omega) (by omega) ?_
  try simp only [Int.toNat_natCast, Int.reduceToNat]
  rw [hh, gh]
  refine p_isub 19 dX0_reaches_18 ?_
  refine p_mabs 22 dX0_reaches_19 lk_X0_76 (by decide) (Nat.le_of_ble_eq_true rfl) (by omega) (by omega) ?_
  refine p_aload_n 23 dX0_reaches_22 rfl rfl (by decide) ?_
  refine p_getR 25 26 dX0_reaches_23 fX0_21 rfl (hW (25, 4, 31) (by decide)) ?_
  refine p_getR 31 29 dX0_reaches_26 fX0_82 rfl (hW (31, 4, 35) (by decide)) ?_
  refine p_iload_n 30 dX0_reaches_29 rfl rfl ?_
  refine p_iald 35 31 dX0_reaches_30 rfl (by omega) (by omega) ?_
  try simp only [Int.toNat_natCast, Int.reduceToNat]
  rw [gr]
  refine p_icmp_gt 38 34 dX0_reaches_31 (by split <;> omega) (by split <;> omega) (by omega) (by omega) (fun h31 => ?_) (fun h31 => ?_)
  · refine p_iconst 39 dX0_reaches_38 ?_
    refine p_zret dX0_reaches_39 rfl (by decide) ?_
    refine ⟨_, rfl, ?_, rfl⟩
    unfold q_reach q_dist q_n
    first | (rw [if_pos (decide_eq_true (by split <;> split at h31 <;> omega))]; done) | (rw [if_neg (by rw [decide_eq_true_eq]; split <;> split at h31 <;> omega)]; done)
  · refine p_iconst 35 dX0_reaches_34 ?_
    refine p_goto 39 dX0_reaches_35 ?_
    refine p_zret dX0_reaches_39 rfl (by decide) ?_
    refine ⟨_, rfl, ?_, rfl⟩
    unfold q_reach q_dist q_n
    first | (rw [if_pos (decide_eq_true (by split <;> split at h31 <;> omega))]; done) | (rw [if_neg (by rw [decide_eq_true_eq]; split <;> split at h31 <;> omega)]; done)
theorem l_tendersOf_25 {l : Launch} {X : ZX} {M : ZM} {ρ : Nat → Int} {h : Int} (hW : zWc M) (hC : ICc ρ h 25 M) (hR : wfR ρ) {s : Nat} (hs : (s : Int) < ρ 2) : ∀ (j i : Nat), i + j = q_n ρ 3 → zP l X 2 tX0_tendersOf 4 [some (zr 25), some (zi (s : Int)), some (zi (q_set (fun a => q_reach (q_n ρ) a s) i : Int)), some (zi (i : Int))] [] M (fun r M' => ∃ a, r = some (zi a) ∧ (a = (q_set (fun a => q_reach (q_n ρ) a s) (q_n ρ 3) : Int) ∧ M' = M)) := by
  have m2 := hR.1 2 (by decide)
  have m3 := hR.1 3 (by decide)
  have e2 : ρ 2 = (q_n ρ 2 : Int) := hR.n (by decide)
  have e3 : ρ 3 = (q_n ρ 3 : Int) := hR.n (by decide)
  have b2 := hR.2.1.2.2.1
  have b3 := hR.2.1.2.2.2.1
  have hct : M 26 0 = ρ 2 := hC.1.2.2.2.1
  have hca : M 31 0 = ρ 3 := hC.1.2.2.2.2.1
  intro j
  induction j with
  | zero =>
    intro i hi
    refine p_iload_n 5 dX0_tendersOf_4 rfl rfl ?_
    refine p_aload_n 6 dX0_tendersOf_5 rfl rfl (by decide) ?_
    refine p_getR 25 9 dX0_tendersOf_6 fX0_21 rfl (hW (25, 4, 31) (by decide)) ?_
    refine p_getI 31 12 dX0_tendersOf_9 fX0_53 rfl ?_
    rw [hca]
    refine p_icmp_ge 37 15 dX0_tendersOf_12 (by omega) (by omega) (by omega) (by omega) (fun h12 => ?_) (fun h12 => absurd (by omega) (fun h9 : False => h9))
    refine p_iload_n 38 dX0_tendersOf_37 rfl rfl ?_
    refine p_iret dX0_tendersOf_38 rfl ?_
    rw [Nat.add_zero] at hi
    exact ⟨_, rfl, by rw [hi], rfl⟩
  | succ j ih =>
    intro i hi
    refine p_iload_n 5 dX0_tendersOf_4 rfl rfl ?_
    refine p_aload_n 6 dX0_tendersOf_5 rfl rfl (by decide) ?_
    refine p_getR 25 9 dX0_tendersOf_6 fX0_21 rfl (hW (25, 4, 31) (by decide)) ?_
    refine p_getI 31 12 dX0_tendersOf_9 fX0_53 rfl ?_
    rw [hca]
    refine p_icmp_ge 37 15 dX0_tendersOf_12 (by omega) (by omega) (by omega) (by omega) (fun h12 => absurd (by omega) (fun h9 : False => h9)) (fun h12 => ?_)
    refine p_aload_n 16 dX0_tendersOf_15 rfl rfl (by decide) ?_
    refine p_iload_n 17 dX0_tendersOf_16 rfl rfl ?_
    refine p_iload_n 18 dX0_tendersOf_17 rfl rfl ?_
    refine p_callV2i 25 21 dX0_tendersOf_18 (s_reaches_25 hW hC hR (a := i) (s := s) (by omega) hs) lk_X0_85 mX0_reaches rfl rfl (by decide) (Nat.le_of_ble_eq_true rfl) ?_
    rintro _ _ ⟨rfl, rfl⟩
    refine p_if_eq 31 24 dX0_tendersOf_21 (by split <;> omega) (by split <;> omega) (fun h21 => ?_) (fun h21 => ?_)
    · refine p_iinc 34 dX0_tendersOf_31 rfl rfl rfl ?_
      dsimp only [List.set]
      refine p_goto 4 dX0_tendersOf_34 ?_
      have e := ih (i + 1) (by omega)
      have er : q_set (fun a => q_reach (q_n ρ) a s) (i + 1) = if q_reach (q_n ρ) i s then q_set (fun a => q_reach (q_n ρ) a s) i ||| 2 ^ i else q_set (fun a => q_reach (q_n ρ) a s) i := rfl
      first
        | (have hb : q_reach (q_n ρ) i s = true := by
             cases hb : q_reach (q_n ρ) i s
             · rw [hb, if_neg (by decide)] at h21; exact absurd rfl h21
             · rfl
           rw [er, if_pos hb] at e
           exact e)
        | (have hb : ¬ q_reach (q_n ρ) i s = true := by
             intro hb
             rw [if_pos hb] at h21; exact absurd h21 (by decide)
           rw [er, if_neg hb] at e
           exact e)
    · refine p_iload_n 25 dX0_tendersOf_24 rfl rfl ?_
      refine p_iload_n 26 dX0_tendersOf_25 rfl rfl ?_
      refine p_callN1i 29 dX0_tendersOf_26 (s_bit (i := i) (by omega)) ln_X0_89 mX11_bit (by decide) (Nat.le_of_ble_eq_true rfl) ?_
      rintro _ _ ⟨rfl, rfl⟩
      refine p_ior 30 dX0_tendersOf_29 ?_
      rw [z_ior_set _ (show i < 30 by omega)]
      refine p_istore_n 31 dX0_tendersOf_30 rfl (Nat.le_of_ble_eq_true rfl) rfl rfl ?_
      dsimp only [List.set]
      refine p_iinc 34 dX0_tendersOf_31 rfl rfl rfl ?_
      dsimp only [List.set]
      refine p_goto 4 dX0_tendersOf_34 ?_
      have e := ih (i + 1) (by omega)
      have er : q_set (fun a => q_reach (q_n ρ) a s) (i + 1) = if q_reach (q_n ρ) i s then q_set (fun a => q_reach (q_n ρ) a s) i ||| 2 ^ i else q_set (fun a => q_reach (q_n ρ) a s) i := rfl
      first
        | (have hb : q_reach (q_n ρ) i s = true := by
             cases hb : q_reach (q_n ρ) i s
             · rw [hb, if_neg (by decide)] at h21; exact absurd rfl h21
             · rfl
           rw [er, if_pos hb] at e
           exact e)
        | (have hb : ¬ q_reach (q_n ρ) i s = true := by
             intro hb
             rw [if_pos hb] at h21; exact absurd h21 (by decide)
           rw [er, if_neg hb] at e
           exact e)
theorem s_tendersOf_25 {l : Launch} {X : ZX} {M : ZM} {ρ : Nat → Int} {h : Int} (hW : zWc M) (hC : ICc ρ h 25 M) (hR : wfR ρ) {s : Nat} (hs : (s : Int) < ρ 2) : zCi l X 2 yX0_tendersOf tX0_tendersOf [zr 25, zi (s : Int)] M (fun a M' => a = (q_set (fun a => q_reach (q_n ρ) a s) (q_n ρ 3) : Int) ∧ M' = M) := by
  refine zC.of [some (zr 25), some (zi (s : Int)), none, none] (by decide +kernel) rfl rfl (Nat.le_of_ble_eq_true rfl) rfl ?_
  refine p_iconst 1 dX0_tendersOf_0 ?_
  refine p_istore_n 2 dX0_tendersOf_1 rfl (Nat.le_of_ble_eq_true rfl) rfl rfl ?_
  dsimp only [List.set]
  refine p_iconst 3 dX0_tendersOf_2 ?_
  refine p_istore_n 4 dX0_tendersOf_3 rfl (Nat.le_of_ble_eq_true rfl) rfl rfl ?_
  dsimp only [List.set]
  exact l_tendersOf_25 hW hC hR hs (q_n ρ 3) 0 (Nat.zero_add _)
theorem s_dayHarm_25 {l : Launch} {X : ZX} {M : ZM} {ρ : Nat → Int} {h : Int} (hW : zWc M) (hC : ICc ρ h 25 M) (hR : wfR ρ) {s S : Nat} (hs : (s : Int) < ρ 2) (hS : S < 2147483648) : zCi l X 2 yX0_dayHarm tX0_dayHarm [zr 25, zi (s : Int), zi (S : Int)] M (fun a M' => a = (q_harm (q_n ρ) S s : Int) ∧ M' = M) := by
  have m2 := hR.1 2 (by decide)
  have m3 := hR.1 3 (by decide)
  have e2 : ρ 2 = (q_n ρ 2 : Int) := hR.n (by decide)
  have e3 : ρ 3 = (q_n ρ 3 : Int) := hR.n (by decide)
  have b2 := hR.2.1.2.2.1
  have b3 := hR.2.1.2.2.2.1
  have hct : M 26 0 = ρ 2 := hC.1.2.2.2.1
  have hca : M 31 0 = ρ 3 := hC.1.2.2.2.2.1
  have hp7 : 2 ^ s ≤ 2 ^ 7 := Nat.pow_le_pow_right (by decide) (by omega)
  have hp0 : (0 : Int) ≤ ((2 ^ s : Nat) : Int) := Int.natCast_nonneg _
  have hp1 : 0 < 2 ^ s := Nat.two_pow_pos s
  obtain ⟨hk, -, -⟩ := hC.2.1 s hs
  have hk : M 28 s = ρ (8 + 3 * s) := hk
  obtain ⟨k3, -, -⟩ := hR.2.2.1 s (by omega)
  have k0 := hR.1 (8 + 3 * s) (by omega)
  refine zC.of [some (zr 25), some (zi (s : Int)), some (zi (S : Int))] (by decide +kernel) rfl rfl (Nat.le_of_ble_eq_true rfl) rfl ?_
  refine p_iload_n 1 dX0_dayHarm_0 rfl rfl ?_
  refine p_iload_n 2 dX0_dayHarm_1 rfl rfl ?_
  refine p_callN1i 5 dX0_dayHarm_2 (s_bit (i := s) (by omega)) ln_X0_89 mX11_bit (by decide) (Nat.le_of_ble_eq_true rfl) ?_
  rintro _ _ ⟨rfl, rfl⟩
  refine p_iand 6 dX0_dayHarm_5 ?_
  rw [z_and_bit S (by omega) hS]
  refine p_if_eq 11 9 dX0_dayHarm_6 (by split <;> omega) (by split <;> omega) (fun h6 => ?_) (fun h6 => ?_)
  · have hb : ¬ S.testBit s = true := by
      intro hb
      rw [if_pos hb] at h6
      omega
    refine p_aload_n 12 dX0_dayHarm_11 rfl rfl (by decide) ?_
    refine p_getR 25 15 dX0_dayHarm_12 fX0_12 rfl (hW (25, 3, 26) (by decide)) ?_
    refine p_getR 26 18 dX0_dayHarm_15 fX0_92 rfl (hW (26, 2, 28) (by decide)) ?_
    refine p_iload_n 19 dX0_dayHarm_18 rfl rfl ?_
    refine p_iald 28 20 dX0_dayHarm_19 rfl (by omega) (by omega) ?_
    try simp only [Int.toNat_natCast, Int.reduceToNat]
    refine p_iconst 21 dX0_dayHarm_20 ?_
    rw [hk]
    refine p_icmp_ne 37 24 dX0_dayHarm_21 (by omega) (by omega) (by omega) (by omega) (fun h21 => ?_) (fun h21 => ?_)
    · refine p_aload_n 38 dX0_dayHarm_37 rfl rfl (by decide) ?_
      refine p_getR 25 41 dX0_dayHarm_38 fX0_12 rfl (hW (25, 3, 26) (by decide)) ?_
      refine p_iload_n 42 dX0_dayHarm_41 rfl rfl ?_
      refine p_callV1i 26 45 dX0_dayHarm_42 (s_weight_25 hW hC hR hs) lk_X0_99 mX8_weight rfl rfl (by decide) (Nat.le_of_ble_eq_true rfl) ?_
      rintro _ _ ⟨rfl, rfl⟩
      refine p_iret dX0_dayHarm_45 rfl ?_
      refine ⟨_, rfl, ?_, rfl⟩
      unfold q_harm
      rw [if_neg hb, if_neg]
      rintro ⟨g1, g2⟩
      unfold q_n at g1
      first
        | (rw [if_pos g2] at h32; exact absurd h32 (by decide))
        | omega
    · refine p_aload_n 25 dX0_dayHarm_24 rfl rfl (by decide) ?_
      refine p_getR 25 28 dX0_dayHarm_25 fX0_12 rfl (hW (25, 3, 26) (by decide)) ?_
      refine p_iload_n 29 dX0_dayHarm_28 rfl rfl ?_
      refine p_callV1i 26 32 dX0_dayHarm_29 (s_anySheep_25 hW hC hR hS) lk_X0_95 mX8_anySheep rfl rfl (by decide) (Nat.le_of_ble_eq_true rfl) ?_
      rintro _ _ ⟨rfl, rfl⟩
      refine p_if_eq 37 35 dX0_dayHarm_32 (by split <;> omega) (by split <;> omega) (fun h32 => ?_) (fun h32 => ?_)
      · refine p_aload_n 38 dX0_dayHarm_37 rfl rfl (by decide) ?_
        refine p_getR 25 41 dX0_dayHarm_38 fX0_12 rfl (hW (25, 3, 26) (by decide)) ?_
        refine p_iload_n 42 dX0_dayHarm_41 rfl rfl ?_
        refine p_callV1i 26 45 dX0_dayHarm_42 (s_weight_25 hW hC hR hs) lk_X0_99 mX8_weight rfl rfl (by decide) (Nat.le_of_ble_eq_true rfl) ?_
        rintro _ _ ⟨rfl, rfl⟩
        refine p_iret dX0_dayHarm_45 rfl ?_
        refine ⟨_, rfl, ?_, rfl⟩
        unfold q_harm
        rw [if_neg hb, if_neg]
        rintro ⟨g1, g2⟩
        unfold q_n at g1
        first
          | (rw [if_pos g2] at h32; exact absurd h32 (by decide))
          | omega
      · refine p_iconst 36 dX0_dayHarm_35 ?_
        refine p_iret dX0_dayHarm_36 rfl ?_
        refine ⟨_, rfl, ?_, rfl⟩
        have ha : q_any (q_n ρ) S (q_n ρ 2) = true := by
          cases ha : q_any (q_n ρ) S (q_n ρ 2)
          · rw [ha, if_neg (by decide)] at h32; exact absurd rfl h32
          · rfl
        unfold q_harm
        rw [if_neg hb, if_pos ⟨by unfold q_n; omega, ha⟩]
        rfl
  · have hb : S.testBit s = true := by
      cases hb : S.testBit s
      · rw [hb, if_neg (by decide)] at h6; exact absurd rfl h6
      · rfl
    refine p_iconst 10 dX0_dayHarm_9 ?_
    refine p_iret dX0_dayHarm_10 rfl ?_
    exact ⟨_, rfl, by unfold q_harm; rw [if_pos hb]; rfl, rfl⟩
theorem l_dayHarmOfAll_25 {l : Launch} {X : ZX} {M : ZM} {ρ : Nat → Int} {h : Int} (hW : zWc M) (hC : ICc ρ h 25 M) (hR : wfR ρ) {S : Nat} (hS : S < 2147483648) : ∀ (j i : Nat), i + j = q_n ρ 2 → zP l X 3 tX0_dayHarmOfAll 4 [some (zr 25), some (zi (S : Int)), some (zi (q_sum (q_harm (q_n ρ) S) i : Int)), some (zi (i : Int))] [] M (fun r M' => ∃ a, r = some (zi a) ∧ (a = (q_harms (q_n ρ) S : Int) ∧ M' = M)) := by
  have m2 := hR.1 2 (by decide)
  have m3 := hR.1 3 (by decide)
  have e2 : ρ 2 = (q_n ρ 2 : Int) := hR.n (by decide)
  have e3 : ρ 3 = (q_n ρ 3 : Int) := hR.n (by decide)
  have b2 := hR.2.1.2.2.1
  have b3 := hR.2.1.2.2.2.1
  have hct : M 26 0 = ρ 2 := hC.1.2.2.2.1
  have hca : M 31 0 = ρ 3 := hC.1.2.2.2.2.1
  intro j
  induction j with
  | zero =>
    intro i hi
    refine p_iload_n 5 dX0_dayHarmOfAll_4 rfl rfl ?_
    refine p_aload_n 6 dX0_dayHarmOfAll_5 rfl rfl (by decide) ?_
    refine p_getR 25 9 dX0_dayHarmOfAll_6 fX0_12 rfl (hW (25, 3, 26) (by decide)) ?_
    refine p_getI 26 12 dX0_dayHarmOfAll_9 fX0_50 rfl ?_
    rw [hct]
    refine p_icmp_ge 30 15 dX0_dayHarmOfAll_12 (by omega) (by omega) (by omega) (by omega) (fun h12 => ?_) (fun h12 => absurd (by omega) (fun h9 : False => h9))
    refine p_iload_n 31 dX0_dayHarmOfAll_30 rfl rfl ?_
    refine p_iret dX0_dayHarmOfAll_31 rfl ?_
    rw [Nat.add_zero] at hi
    exact ⟨_, rfl, by unfold q_harms; rw [hi], rfl⟩
  | succ j ih =>
    intro i hi
    refine p_iload_n 5 dX0_dayHarmOfAll_4 rfl rfl ?_
    refine p_aload_n 6 dX0_dayHarmOfAll_5 rfl rfl (by decide) ?_
    refine p_getR 25 9 dX0_dayHarmOfAll_6 fX0_12 rfl (hW (25, 3, 26) (by decide)) ?_
    refine p_getI 26 12 dX0_dayHarmOfAll_9 fX0_50 rfl ?_
    rw [hct]
    refine p_icmp_ge 30 15 dX0_dayHarmOfAll_12 (by omega) (by omega) (by omega) (by omega) (fun h12 => absurd (by omega) (fun h9 : False => h9)) (fun h12 => ?_)
    refine p_iload_n 16 dX0_dayHarmOfAll_15 rfl rfl ?_
    refine p_aload_n 17 dX0_dayHarmOfAll_16 rfl rfl (by decide) ?_
    refine p_iload_n 18 dX0_dayHarmOfAll_17 rfl rfl ?_
    refine p_iload_n 19 dX0_dayHarmOfAll_18 rfl rfl ?_
    refine p_callV2i 25 22 dX0_dayHarmOfAll_19 (s_dayHarm_25 hW hC hR (s := i) (S := S) (by omega) hS) lk_X0_102 mX0_dayHarm rfl rfl (by decide) (Nat.le_of_ble_eq_true rfl) ?_
    rintro _ _ ⟨rfl, rfl⟩
    refine p_iadd 23 dX0_dayHarmOfAll_22 ?_
    refine p_istore_n 24 dX0_dayHarmOfAll_23 rfl (Nat.le_of_ble_eq_true rfl) rfl rfl ?_
    dsimp only [List.set]
    refine p_iinc 27 dX0_dayHarmOfAll_24 rfl rfl rfl ?_
    dsimp only [List.set]
    refine p_goto 4 dX0_dayHarmOfAll_27 ?_
    exact ih (i + 1) (by omega)
theorem s_dayHarmOfAll_25 {l : Launch} {X : ZX} {M : ZM} {ρ : Nat → Int} {h : Int} (hW : zWc M) (hC : ICc ρ h 25 M) (hR : wfR ρ) {S : Nat} (hS : S < 2147483648) : zCi l X 3 yX0_dayHarmOfAll tX0_dayHarmOfAll [zr 25, zi (S : Int)] M (fun a M' => a = (q_harms (q_n ρ) S : Int) ∧ M' = M) := by
  refine zC.of [some (zr 25), some (zi (S : Int)), none, none] (by decide +kernel) rfl rfl (Nat.le_of_ble_eq_true rfl) rfl ?_
  refine p_iconst 1 dX0_dayHarmOfAll_0 ?_
  refine p_istore_n 2 dX0_dayHarmOfAll_1 rfl (Nat.le_of_ble_eq_true rfl) rfl rfl ?_
  dsimp only [List.set]
  refine p_iconst 3 dX0_dayHarmOfAll_2 ?_
  refine p_istore_n 4 dX0_dayHarmOfAll_3 rfl (Nat.le_of_ble_eq_true rfl) rfl rfl ?_
  dsimp only [List.set]
  exact l_dayHarmOfAll_25 hW hC hR hS (q_n ρ 2) 0 (Nat.zero_add _)
theorem s_isSleeper_25 {l : Launch} {X : ZX} {M : ZM} {ρ : Nat → Int} {h : Int} (hW : zWc M) (hC : ICc ρ h 25 M) (hR : wfR ρ) (hco : M 0 5 = 25) {s : Int} (hs1 : -2147483648 ≤ s) (hs2 : s < 2147483648) : zCi l X 0 yX11_isSleeper tX11_isSleeper [zr 0, zi s] M (fun a M' => a = (if 0 ≤ s ∧ s < ρ 2 then 1 else 0) ∧ M' = M) := by
  have hn : M 26 0 = ρ 2 := hC.1.2.2.2.1
  have b := hR.2.1
  have n0 := hR.1 2 (by decide)
  refine zC.of [some (zr 0), some (zi s)] (by decide +kernel) rfl rfl (Nat.le_of_ble_eq_true rfl) rfl ?_
  refine p_iload_n 1 dX11_isSleeper_0 rfl rfl ?_
  refine p_if_lt 22 4 dX11_isSleeper_1 (by omega) (by omega) (fun h1 => ?_) (fun h1 => ?_)
  · refine p_iconst 23 dX11_isSleeper_22 ?_
    refine p_zret dX11_isSleeper_23 rfl (by decide) ?_
    refine ⟨_, rfl, ?_, rfl⟩
    first | (rw [if_pos (by omega)]; done) | (rw [if_neg (by omega)]; done)
  · refine p_iload_n 5 dX11_isSleeper_4 rfl rfl ?_
    refine p_aload_n 6 dX11_isSleeper_5 rfl rfl (by decide) ?_
    refine p_getR 0 9 dX11_isSleeper_6 fX11_16 rfl hco ?_
    refine p_getR 25 12 dX11_isSleeper_9 fX11_99 rfl (hW (25, 3, 26) (by decide)) ?_
    refine p_getI 26 15 dX11_isSleeper_12 fX11_103 rfl ?_
    rw [hn]
    refine p_icmp_ge 22 18 dX11_isSleeper_15 (by omega) (by omega) (by omega) (by omega) (fun h15 => ?_) (fun h15 => ?_)
    · refine p_iconst 23 dX11_isSleeper_22 ?_
      refine p_zret dX11_isSleeper_23 rfl (by decide) ?_
      refine ⟨_, rfl, ?_, rfl⟩
      first | (rw [if_pos (by omega)]; done) | (rw [if_neg (by omega)]; done)
    · refine p_iconst 19 dX11_isSleeper_18 ?_
      refine p_goto 23 dX11_isSleeper_19 ?_
      refine p_zret dX11_isSleeper_23 rfl (by decide) ?_
      refine ⟨_, rfl, ?_, rfl⟩
      first | (rw [if_pos (by omega)]; done) | (rw [if_neg (by omega)]; done)
theorem s_isHelper_25 {l : Launch} {X : ZX} {M : ZM} {ρ : Nat → Int} {h : Int} (hW : zWc M) (hC : ICc ρ h 25 M) (hR : wfR ρ) (hco : M 0 5 = 25) {s : Int} (hs1 : -2147483648 ≤ s) (hs2 : s < 2147483648) : zCi l X 0 yX11_isHelper tX11_isHelper [zr 0, zi s] M (fun a M' => a = (if 0 ≤ s ∧ s < ρ 3 then 1 else 0) ∧ M' = M) := by
  have hn : M 31 0 = ρ 3 := hC.1.2.2.2.2.1
  have b := hR.2.1
  have n0 := hR.1 3 (by decide)
  refine zC.of [some (zr 0), some (zi s)] (by decide +kernel) rfl rfl (Nat.le_of_ble_eq_true rfl) rfl ?_
  refine p_iload_n 1 dX11_isHelper_0 rfl rfl ?_
  refine p_if_lt 22 4 dX11_isHelper_1 (by omega) (by omega) (fun h1 => ?_) (fun h1 => ?_)
  · refine p_iconst 23 dX11_isHelper_22 ?_
    refine p_zret dX11_isHelper_23 rfl (by decide) ?_
    refine ⟨_, rfl, ?_, rfl⟩
    first | (rw [if_pos (by omega)]; done) | (rw [if_neg (by omega)]; done)
  · refine p_iload_n 5 dX11_isHelper_4 rfl rfl ?_
    refine p_aload_n 6 dX11_isHelper_5 rfl rfl (by decide) ?_
    refine p_getR 0 9 dX11_isHelper_6 fX11_16 rfl hco ?_
    refine p_getR 25 12 dX11_isHelper_9 fX11_151 rfl (hW (25, 4, 31) (by decide)) ?_
    refine p_getI 31 15 dX11_isHelper_12 fX11_207 rfl ?_
    rw [hn]
    refine p_icmp_ge 22 18 dX11_isHelper_15 (by omega) (by omega) (by omega) (by omega) (fun h15 => ?_) (fun h15 => ?_)
    · refine p_iconst 23 dX11_isHelper_22 ?_
      refine p_zret dX11_isHelper_23 rfl (by decide) ?_
      refine ⟨_, rfl, ?_, rfl⟩
      first | (rw [if_pos (by omega)]; done) | (rw [if_neg (by omega)]; done)
    · refine p_iconst 19 dX11_isHelper_18 ?_
      refine p_goto 23 dX11_isHelper_19 ?_
      refine p_zret dX11_isHelper_23 rfl (by decide) ?_
      refine ⟨_, rfl, ?_, rfl⟩
      first | (rw [if_pos (by omega)]; done) | (rw [if_neg (by omega)]; done)
theorem s_isWord_25 {l : Launch} {X : ZX} {M : ZM} {ρ : Nat → Int} {h : Int} (hW : zWc M) (hC : ICc ρ h 25 M) (hR : wfR ρ) (hco : M 0 5 = 25) {s : Int} (hs1 : -2147483648 ≤ s) (hs2 : s < 2147483648) : zCi l X 0 yX11_isWord tX11_isWord [zr 0, zi s] M (fun a M' => a = (if 0 ≤ s ∧ s < ρ 4 then 1 else 0) ∧ M' = M) := by
  have hn : M 36 0 = ρ 4 := hC.1.2.2.2.2.2.1
  have b := hR.2.1
  have n0 := hR.1 4 (by decide)
  refine zC.of [some (zr 0), some (zi s)] (by decide +kernel) rfl rfl (Nat.le_of_ble_eq_true rfl) rfl ?_
  refine p_iload_n 1 dX11_isWord_0 rfl rfl ?_
  refine p_if_lt 22 4 dX11_isWord_1 (by omega) (by omega) (fun h1 => ?_) (fun h1 => ?_)
  · refine p_iconst 23 dX11_isWord_22 ?_
    refine p_zret dX11_isWord_23 rfl (by decide) ?_
    refine ⟨_, rfl, ?_, rfl⟩
    first | (rw [if_pos (by omega)]; done) | (rw [if_neg (by omega)]; done)
  · refine p_iload_n 5 dX11_isWord_4 rfl rfl ?_
    refine p_aload_n 6 dX11_isWord_5 rfl rfl (by decide) ?_
    refine p_getR 0 9 dX11_isWord_6 fX11_16 rfl hco ?_
    refine p_getR 25 12 dX11_isWord_9 fX11_211 rfl (hW (25, 5, 36) (by decide)) ?_
    refine p_getI 36 15 dX11_isWord_12 fX11_266 rfl ?_
    rw [hn]
    refine p_icmp_ge 22 18 dX11_isWord_15 (by omega) (by omega) (by omega) (by omega) (fun h15 => ?_) (fun h15 => ?_)
    · refine p_iconst 23 dX11_isWord_22 ?_
      refine p_zret dX11_isWord_23 rfl (by decide) ?_
      refine ⟨_, rfl, ?_, rfl⟩
      first | (rw [if_pos (by omega)]; done) | (rw [if_neg (by omega)]; done)
    · refine p_iconst 19 dX11_isWord_18 ?_
      refine p_goto 23 dX11_isWord_19 ?_
      refine p_zret dX11_isWord_23 rfl (by decide) ?_
      refine ⟨_, rfl, ?_, rfl⟩
      first | (rw [if_pos (by omega)]; done) | (rw [if_neg (by omega)]; done)
theorem l_tendedBits {l : Launch} {X : ZX} {M : ZM} {τ ρ : Nat → Int} (hW : zWc M) (hN : ICn τ 1 49 M) (hT : wfT ρ τ) (hR : wfR ρ) : ∀ (j i : Nat), i + j = 7 → zP l X 1 tX3_tendedBits 4 [some (zr 49), some (zi (q_set (fun s => decide (τ (7 + s) ≠ 0)) i : Int)), some (zi (i : Int))] [] M (fun r M' => ∃ x, r = some (zi x) ∧ (x = (q_set (fun s => decide (τ (7 + s) ≠ 0)) 7 : Int) ∧ M' = M)) := by
  have hr3 := hR.2.1.2.2.2.1
  intro j
  induction j with
  | zero =>
    intro i hi
    refine p_iload_n 5 dX3_tendedBits_4 rfl rfl ?_
    refine p_bipush 7 dX3_tendedBits_5 rfl ?_
    refine p_icmp_ge 34 10 dX3_tendedBits_7 (by omega) (by omega) (by omega) (by omega) (fun h7 => ?_) (fun h7 => absurd (by omega) (fun h9 : False => h9))
    refine p_iload_n 35 dX3_tendedBits_34 rfl rfl ?_
    refine p_iret dX3_tendedBits_35 rfl ?_
    rw [Nat.add_zero] at hi
    exact ⟨_, rfl, by rw [hi], rfl⟩
  | succ j ih =>
    intro i hi
    have ht : M 51 i = q_tnd (τ (7 + i)) := hN.2.2.2.2.2 rfl i (by omega)
    unfold q_tnd at ht
    obtain ⟨-, t2, -⟩ := hT.2.1 i (by omega)
    have t0 := hT.1 (7 + i) (by omega)
    refine p_iload_n 5 dX3_tendedBits_4 rfl rfl ?_
    refine p_bipush 7 dX3_tendedBits_5 rfl ?_
    refine p_icmp_ge 34 10 dX3_tendedBits_7 (by omega) (by omega) (by omega) (by omega) (fun h7 => absurd (by omega) (fun h9 : False => h9)) (fun h7 => ?_)
    refine p_aload_n 11 dX3_tendedBits_10 rfl rfl (by decide) ?_
    refine p_getR 49 14 dX3_tendedBits_11 fX3_15 rfl (hW (49, 5, 51) (by decide)) ?_
    refine p_iload_n 15 dX3_tendedBits_14 rfl rfl ?_
    refine p_iald 51 16 dX3_tendedBits_15 rfl (by omega) (by omega) ?_
    try simp only [Int.toNat_natCast, Int.reduceToNat]
    refine p_bipush 18 dX3_tendedBits_16 rfl ?_
    rw [ht]
    refine p_icmp_eq 28 21 dX3_tendedBits_18 (by split <;> omega) (by split <;> omega) (by omega) (by omega) (fun h18 => ?_) (fun h18 => ?_)
    · refine p_iinc 31 dX3_tendedBits_28 rfl rfl rfl ?_
      dsimp only [List.set]
      refine p_goto 4 dX3_tendedBits_31 ?_
      have e := ih (i + 1) (by omega)
      have er : q_set (fun s => decide (τ (7 + s) ≠ 0)) (i + 1) = if (fun s => decide (τ (7 + s) ≠ 0)) i then q_set (fun s => decide (τ (7 + s) ≠ 0)) i ||| 2 ^ i else q_set (fun s => decide (τ (7 + s) ≠ 0)) i := rfl
      first
        | (rw [er, if_pos (decide_eq_true (by split at h18 <;> omega))] at e
           exact e)
        | (rw [er, if_neg (by rw [decide_eq_true_eq]; split at h18 <;> omega)] at e
           exact e)
    · refine p_iload_n 22 dX3_tendedBits_21 rfl rfl ?_
      refine p_iload_n 23 dX3_tendedBits_22 rfl rfl ?_
      refine p_callN1i 26 dX3_tendedBits_23 (s_bit (i := i) (by omega)) ln_X3_35 mX11_bit (by decide) (Nat.le_of_ble_eq_true rfl) ?_
      rintro _ _ ⟨rfl, rfl⟩
      refine p_ior 27 dX3_tendedBits_26 ?_
      rw [z_ior_set _ (show i < 30 by omega)]
      refine p_istore_n 28 dX3_tendedBits_27 rfl (Nat.le_of_ble_eq_true rfl) rfl rfl ?_
      dsimp only [List.set]
      refine p_iinc 31 dX3_tendedBits_28 rfl rfl rfl ?_
      dsimp only [List.set]
      refine p_goto 4 dX3_tendedBits_31 ?_
      have e := ih (i + 1) (by omega)
      have er : q_set (fun s => decide (τ (7 + s) ≠ 0)) (i + 1) = if (fun s => decide (τ (7 + s) ≠ 0)) i then q_set (fun s => decide (τ (7 + s) ≠ 0)) i ||| 2 ^ i else q_set (fun s => decide (τ (7 + s) ≠ 0)) i := rfl
      first
        | (rw [er, if_pos (decide_eq_true (by split at h18 <;> omega))] at e
           exact e)
        | (rw [er, if_neg (by rw [decide_eq_true_eq]; split at h18 <;> omega)] at e
           exact e)
theorem s_tendedBits {l : Launch} {X : ZX} {M : ZM} {τ ρ : Nat → Int} (hW : zWc M) (hN : ICn τ 1 49 M) (hT : wfT ρ τ) (hR : wfR ρ) : zCi l X 1 yX3_tendedBits tX3_tendedBits [zr 49] M (fun x M' => x = (q_set (fun s => decide (τ (7 + s) ≠ 0)) 7 : Int) ∧ M' = M) := by
  refine zC.of [some (zr 49), none, none] (by decide +kernel) rfl rfl (Nat.le_of_ble_eq_true rfl) rfl ?_
  refine p_iconst 1 dX3_tendedBits_0 ?_
  refine p_istore_n 2 dX3_tendedBits_1 rfl (Nat.le_of_ble_eq_true rfl) rfl rfl ?_
  dsimp only [List.set]
  refine p_iconst 3 dX3_tendedBits_2 ?_
  refine p_istore_n 4 dX3_tendedBits_3 rfl (Nat.le_of_ble_eq_true rfl) rfl rfl ?_
  dsimp only [List.set]
  exact l_tendedBits hW hN hT hR 7 0 rfl
theorem l_tendedByOne {l : Launch} {X : ZX} {M : ZM} {τ ρ : Nat → Int} (hW : zWc M) (hN : ICn τ 1 49 M) (hT : wfT ρ τ) (hR : wfR ρ) {a : Nat} (ha : a < 1000) : ∀ (j i : Nat), i + j = 7 → zP l X 1 tX3_tendedByOne 4 [some (zr 49), some (zi (a : Int)), some (zi (q_set (fun s => decide (τ (7 + s) = (a : Int) + 1)) i : Int)), some (zi (i : Int))] [] M (fun r M' => ∃ x, r = some (zi x) ∧ (x = (q_set (fun s => decide (τ (7 + s) = (a : Int) + 1)) 7 : Int) ∧ M' = M)) := by
  have hr3 := hR.2.1.2.2.2.1
  intro j
  induction j with
  | zero =>
    intro i hi
    refine p_iload_n 5 dX3_tendedByOne_4 rfl rfl ?_
    refine p_bipush 7 dX3_tendedByOne_5 rfl ?_
    refine p_icmp_ge 33 10 dX3_tendedByOne_7 (by omega) (by omega) (by omega) (by omega) (fun h7 => ?_) (fun h7 => absurd (by omega) (fun h9 : False => h9))
    refine p_iload_n 34 dX3_tendedByOne_33 rfl rfl ?_
    refine p_iret dX3_tendedByOne_34 rfl ?_
    rw [Nat.add_zero] at hi
    exact ⟨_, rfl, by rw [hi], rfl⟩
  | succ j ih =>
    intro i hi
    have ht : M 51 i = q_tnd (τ (7 + i)) := hN.2.2.2.2.2 rfl i (by omega)
    unfold q_tnd at ht
    obtain ⟨-, t2, -⟩ := hT.2.1 i (by omega)
    have t0 := hT.1 (7 + i) (by omega)
    refine p_iload_n 5 dX3_tendedByOne_4 rfl rfl ?_
    refine p_bipush 7 dX3_tendedByOne_5 rfl ?_
    refine p_icmp_ge 33 10 dX3_tendedByOne_7 (by omega) (by omega) (by omega) (by omega) (fun h7 => absurd (by omega) (fun h9 : False => h9)) (fun h7 => ?_)
    refine p_aload_n 11 dX3_tendedByOne_10 rfl rfl (by decide) ?_
    refine p_getR 49 14 dX3_tendedByOne_11 fX3_15 rfl (hW (49, 5, 51) (by decide)) ?_
    refine p_iload_n 15 dX3_tendedByOne_14 rfl rfl ?_
    refine p_iald 51 16 dX3_tendedByOne_15 rfl (by omega) (by omega) ?_
    try simp only [Int.toNat_natCast, Int.reduceToNat]
    refine p_iload_n 17 dX3_tendedByOne_16 rfl rfl ?_
    rw [ht]
    refine p_icmp_ne 27 20 dX3_tendedByOne_17 (by split <;> omega) (by split <;> omega) (by omega) (by omega) (fun h17 => ?_) (fun h17 => ?_)
    · refine p_iinc 30 dX3_tendedByOne_27 rfl rfl rfl ?_
      dsimp only [List.set]
      refine p_goto 4 dX3_tendedByOne_30 ?_
      have e := ih (i + 1) (by omega)
      have er : q_set (fun s => decide (τ (7 + s) = (a : Int) + 1)) (i + 1) = if (fun s => decide (τ (7 + s) = (a : Int) + 1)) i then q_set (fun s => decide (τ (7 + s) = (a : Int) + 1)) i ||| 2 ^ i else q_set (fun s => decide (τ (7 + s) = (a : Int) + 1)) i := rfl
      first
        | (rw [er, if_pos (decide_eq_true (by split at h17 <;> omega))] at e
           exact e)
        | (rw [er, if_neg (by rw [decide_eq_true_eq]; split at h17 <;> omega)] at e
           exact e)
    · refine p_iload_n 21 dX3_tendedByOne_20 rfl rfl ?_
      refine p_iload_n 22 dX3_tendedByOne_21 rfl rfl ?_
      refine p_callN1i 25 dX3_tendedByOne_22 (s_bit (i := i) (by omega)) ln_X3_35 mX11_bit (by decide) (Nat.le_of_ble_eq_true rfl) ?_
      rintro _ _ ⟨rfl, rfl⟩
      refine p_ior 26 dX3_tendedByOne_25 ?_
      rw [z_ior_set _ (show i < 30 by omega)]
      refine p_istore_n 27 dX3_tendedByOne_26 rfl (Nat.le_of_ble_eq_true rfl) rfl rfl ?_
      dsimp only [List.set]
      refine p_iinc 30 dX3_tendedByOne_27 rfl rfl rfl ?_
      dsimp only [List.set]
      refine p_goto 4 dX3_tendedByOne_30 ?_
      have e := ih (i + 1) (by omega)
      have er : q_set (fun s => decide (τ (7 + s) = (a : Int) + 1)) (i + 1) = if (fun s => decide (τ (7 + s) = (a : Int) + 1)) i then q_set (fun s => decide (τ (7 + s) = (a : Int) + 1)) i ||| 2 ^ i else q_set (fun s => decide (τ (7 + s) = (a : Int) + 1)) i := rfl
      first
        | (rw [er, if_pos (decide_eq_true (by split at h17 <;> omega))] at e
           exact e)
        | (rw [er, if_neg (by rw [decide_eq_true_eq]; split at h17 <;> omega)] at e
           exact e)
theorem s_tendedByOne {l : Launch} {X : ZX} {M : ZM} {τ ρ : Nat → Int} (hW : zWc M) (hN : ICn τ 1 49 M) (hT : wfT ρ τ) (hR : wfR ρ) {a : Nat} (ha : a < 1000) : zCi l X 1 yX3_tendedByOne tX3_tendedByOne [zr 49, zi (a : Int)] M (fun x M' => x = (q_set (fun s => decide (τ (7 + s) = (a : Int) + 1)) 7 : Int) ∧ M' = M) := by
  refine zC.of [some (zr 49), some (zi (a : Int)), none, none] (by decide +kernel) rfl rfl (Nat.le_of_ble_eq_true rfl) rfl ?_
  refine p_iconst 1 dX3_tendedByOne_0 ?_
  refine p_istore_n 2 dX3_tendedByOne_1 rfl (Nat.le_of_ble_eq_true rfl) rfl rfl ?_
  dsimp only [List.set]
  refine p_iconst 3 dX3_tendedByOne_2 ?_
  refine p_istore_n 4 dX3_tendedByOne_3 rfl (Nat.le_of_ble_eq_true rfl) rfl rfl ?_
  dsimp only [List.set]
  exact l_tendedByOne hW hN hT hR ha 7 0 rfl
theorem l_allHarm {l : Launch} {X : ZX} {M : ZM} {τ ρ : Nat → Int} (hW : zWc M) (hN : ICn τ 1 49 M) (hT : wfT ρ τ) (hR : wfR ρ) : ∀ (j i : Nat), i + j = 7 → zP l X 0 tX3_allHarm 4 [some (zr 49), some (zi (q_sum (fun s => (τ s).toNat) i : Int)), some (zi (i : Int))] [] M (fun r M' => ∃ a, r = some (zi a) ∧ (a = (q_sum (fun s => (τ s).toNat) 7 : Int) ∧ M' = M)) := by
  intro j
  induction j with
  | zero =>
    intro i hi
    refine p_iload_n 5 dX3_allHarm_4 rfl rfl ?_
    refine p_bipush 7 dX3_allHarm_5 rfl ?_
    refine p_icmp_ge 25 10 dX3_allHarm_7 (by omega) (by omega) (by omega) (by omega) (fun h7 => ?_) (fun h7 => absurd (by omega) (fun h9 : False => h9))
    refine p_iload_n 26 dX3_allHarm_25 rfl rfl ?_
    refine p_iret dX3_allHarm_26 rfl ?_
    rw [Nat.add_zero] at hi
    exact ⟨_, rfl, by rw [hi], rfl⟩
  | succ j ih =>
    intro i hi
    have hh : M 50 i = τ i := hN.2.2.2.2.1 i (by omega)
    refine p_iload_n 5 dX3_allHarm_4 rfl rfl ?_
    refine p_bipush 7 dX3_allHarm_5 rfl ?_
    refine p_icmp_ge 25 10 dX3_allHarm_7 (by omega) (by omega) (by omega) (by omega) (fun h7 => absurd (by omega) (fun h9 : False => h9)) (fun h7 => ?_)
    refine p_iload_n 11 dX3_allHarm_10 rfl rfl ?_
    refine p_aload_n 12 dX3_allHarm_11 rfl rfl (by decide) ?_
    refine p_getR 49 15 dX3_allHarm_12 fX3_9 rfl (hW (49, 4, 50) (by decide)) ?_
    refine p_iload_n 16 dX3_allHarm_15 rfl rfl ?_
    refine p_iald 50 17 dX3_allHarm_16 rfl (by omega) (by omega) ?_
    try simp only [Int.toNat_natCast, Int.reduceToNat]
    rw [hh]
    refine p_iadd 18 dX3_allHarm_17 ?_
    refine p_istore_n 19 dX3_allHarm_18 rfl (Nat.le_of_ble_eq_true rfl) rfl rfl ?_
    dsimp only [List.set]
    refine p_iinc 22 dX3_allHarm_19 rfl rfl rfl ?_
    dsimp only [List.set]
    refine p_goto 4 dX3_allHarm_22 ?_
    have e := ih (i + 1) (by omega)
    have t0 := hT.1 i (by omega)
    have er : ((q_sum (fun s => (τ s).toNat) (i + 1) : Nat) : Int) = (q_sum (fun s => (τ s).toNat) i : Int) + τ i := by
      show ((q_sum (fun s => (τ s).toNat) i + (τ i).toNat : Nat) : Int) = _
      omega
    rw [er] at e
    exact e
theorem s_allHarm {l : Launch} {X : ZX} {M : ZM} {τ ρ : Nat → Int} (hW : zWc M) (hN : ICn τ 1 49 M) (hT : wfT ρ τ) (hR : wfR ρ) : zCi l X 0 yX3_allHarm tX3_allHarm [zr 49] M (fun a M' => a = (q_sum (fun s => (τ s).toNat) 7 : Int) ∧ M' = M) := by
  refine zC.of [some (zr 49), none, none] (by decide +kernel) rfl rfl (Nat.le_of_ble_eq_true rfl) rfl ?_
  refine p_iconst 1 dX3_allHarm_0 ?_
  refine p_istore_n 2 dX3_allHarm_1 rfl (Nat.le_of_ble_eq_true rfl) rfl rfl ?_
  dsimp only [List.set]
  refine p_iconst 3 dX3_allHarm_2 ?_
  refine p_istore_n 4 dX3_allHarm_3 rfl (Nat.le_of_ble_eq_true rfl) rfl rfl ?_
  dsimp only [List.set]
  exact l_allHarm hW hN hT hR 7 0 rfl
