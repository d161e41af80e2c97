/-- what the model's seekFits leaves -/
def FTs (ρ : Nat → Int) (M M' : ZM) : Prop := (∀ a, a ≠ 124 → M' a = M a) ∧ (∀ k, k ≠ 30 → k ≠ 31 → k ≠ 32 → M' 124 k = M 124 k) ∧ M' 124 30 = (q_fits ρ : Int) ∧ M' 124 31 = (q_could ρ : Int) ∧ M' 124 32 = (q_surely ρ : Int)
theorem FTs.hid {ρ : Nat → Int} {M M' : ZM} (h : FTs ρ M M') : Hid M M' := by
  obtain ⟨h1, h2, -⟩ := h
  refine ⟨fun c b hc => congrFun (h1 c (by omega)) b, fun c b g1 g2 g3 => ?_⟩
  by_cases e : c = 124
  · subst e
    exact h2 b (fun e => by subst e; revert g1; decide) (fun e => by subst e; revert g1; decide) (fun e => by subst e; revert g1; decide)
  · exact congrFun (h1 c e) b
theorem l_seekFits {l : Launch} {X : ZX} {M : ZM} {ρ : Nat → Int} {N : ZM} (hW : zWm N) (hE : ∀ i, i < 421 → N 127 i = ρ i) (hR : wfR ρ) (hR1 : wfR1 ρ) : ∀ (j i : Nat), i + j = 2 ^ q_n ρ 6 → ∀ {M : ZM}, (∀ a, a ≠ 124 → M a = N a) → (∀ k, k ≠ 30 → k ≠ 31 → k ≠ 32 → M 124 k = N 124 k) → M 124 30 = (q_cntp (q_fit ρ) i : Int) → M 124 31 = (q_orp (q_fit ρ) i : Int) → M 124 32 = (q_andp (q_fit ρ) (2 ^ q_n ρ 6 - 1) i : Int) → zP l X 5 tX12_seekFits 20 [some (zr 124), some (zi (i : Int))] [] M (fun r M' => r = none ∧ FTs ρ N M') := by
  have e6 : ρ 6 = (q_n ρ 6 : Int) := hR.n (by decide)
  have b6 := hR.2.1.2.2.2.2.2.2.1
  have e7 : ρ 7 = (q_n ρ 7 : Int) := hR.n (by decide)
  have b7 := hR.2.1.2.2.2.2.2.2.2
  have hp6 := p6 (n := q_n ρ 6) (by omega)
  have hp0 : 0 < 2 ^ q_n ρ 6 := Nat.two_pow_pos _
  intro j
  induction j with
  | zero =>
    intro i hi M hM hM2 k1 k2 k3
    have hi2 : i = 2 ^ q_n ρ 6 := by omega
    have hcl2 := q_cntp_le (q_fit ρ) i
    have hW9 : zWm M := hW.hid (fun a b g1 g2 g3 => by
      by_cases e : a = 124
      · subst e
        exact hM2 b (fun e => by subst e; revert g1; decide) (fun e => by subst e; revert g1; decide) (fun e => by subst e; revert g1; decide)
      · exact congrFun (hM a e) b)
    have hE9 : ∀ i, i < 421 → M 127 i = ρ i := fun i hi => by rw [hM 127 (by decide)]; exact hE i hi
    refine p_iload_n 21 dX12_seekFits_20 rfl rfl ?_
    refine p_aload_n 22 dX12_seekFits_21 rfl rfl (by decide) ?_
    refine p_callV0i 124 25 dX12_seekFits_22 (s_allOrders hW9 hE9 hR) lk_X12_373 mX12_allOrders rfl rfl (by decide) (Nat.le_of_ble_eq_true rfl) ?_
    rintro _ _ ⟨rfl, e9⟩
    have e9 := e9.symm
    subst e9
    refine p_icmp_gt 75 28 dX12_seekFits_25 (by omega) (by omega) (by omega) (by omega) (fun h25 => ?_) (fun h25 => absurd (by omega) (fun h9 : False => h9))
    refine p_aload_n 76 dX12_seekFits_75 rfl rfl (by decide) ?_
    refine p_getI 124 79 dX12_seekFits_76 fX12_367 rfl ?_
    rw [k1]
    refine p_if_ne 87 82 dX12_seekFits_79 (by omega) (by omega) (fun h79 => ?_) (fun h79 => ?_)
    · refine p_vret dX12_seekFits_87 rfl ?_
      first
        | (have hs : q_surely ρ = q_andp (q_fit ρ) (2 ^ q_n ρ 6 - 1) (2 ^ q_n ρ 6) := by
             unfold q_surely
             rw [if_neg (by show ¬ q_cntp (q_fit ρ) (2 ^ q_n ρ 6) = 0; rw [← hi2]; omega)]
           exact ⟨rfl, hM, hM2, by rw [k1, hi2]; rfl, by rw [k2, hi2]; rfl, by rw [k3, hs, hi2]⟩)
        | (have hs : q_surely ρ = 0 := by
             unfold q_surely
             rw [if_pos (by show q_cntp (q_fit ρ) (2 ^ q_n ρ 6) = 0; rw [← hi2]; omega)]
           exact ⟨rfl, fun a g1 => by rw [zset_ne _ g1]; exact hM a g1, fun k g1 g2 g3 => by rw [zset_k g3]; exact hM2 k g1 g2 g3, by rw [zset_k (by decide), k1, hi2]; rfl, by rw [zset_k (by decide), k2, hi2]; rfl, by rw [zset_at, hs]; rfl⟩)
    · refine p_aload_n 83 dX12_seekFits_82 rfl rfl (by decide) ?_
      refine p_iconst 84 dX12_seekFits_83 ?_
      refine p_putI 124 87 dX12_seekFits_84 wX12_376 rfl ?_
      refine p_vret dX12_seekFits_87 rfl ?_
      first
        | (have hs : q_surely ρ = q_andp (q_fit ρ) (2 ^ q_n ρ 6 - 1) (2 ^ q_n ρ 6) := by
             unfold q_surely
             rw [if_neg (by show ¬ q_cntp (q_fit ρ) (2 ^ q_n ρ 6) = 0; rw [← hi2]; omega)]
           exact ⟨rfl, hM, hM2, by rw [k1, hi2]; rfl, by rw [k2, hi2]; rfl, by rw [k3, hs, hi2]⟩)
        | (have hs : q_surely ρ = 0 := by
             unfold q_surely
             rw [if_pos (by show q_cntp (q_fit ρ) (2 ^ q_n ρ 6) = 0; rw [← hi2]; omega)]
           exact ⟨rfl, fun a g1 => by rw [zset_ne _ g1]; exact hM a g1, fun k g1 g2 g3 => by rw [zset_k g3]; exact hM2 k g1 g2 g3, by rw [zset_k (by decide), k1, hi2]; rfl, by rw [zset_k (by decide), k2, hi2]; rfl, by rw [zset_at, hs]; rfl⟩)
  | succ j ih =>
    intro i hi M hM hM2 k1 k2 k3
    have hW9 : zWm M := hW.hid (fun a b g1 g2 g3 => by
      by_cases e : a = 124
      · subst e
        exact hM2 b (fun e => by subst e; revert g1; decide) (fun e => by subst e; revert g1; decide) (fun e => by subst e; revert g1; decide)
      · exact congrFun (hM a e) b)
    have hE9 : ∀ i, i < 421 → M 127 i = ρ i := fun i hi => by rw [hM 127 (by decide)]; exact hE i hi
    have ho1 := q_orp_lt (p := q_fit ρ) (m := q_n ρ 6) i (by omega)
    have ha1 := q_andp_le (p := q_fit ρ) (b := 2 ^ q_n ρ 6 - 1) i
    refine p_iload_n 21 dX12_seekFits_20 rfl rfl ?_
    refine p_aload_n 22 dX12_seekFits_21 rfl rfl (by decide) ?_
    refine p_callV0i 124 25 dX12_seekFits_22 (s_allOrders hW9 hE9 hR) lk_X12_373 mX12_allOrders rfl rfl (by decide) (Nat.le_of_ble_eq_true rfl) ?_
    rintro _ _ ⟨rfl, e9⟩
    have e9 := e9.symm
    subst e9
    refine p_icmp_gt 75 28 dX12_seekFits_25 (by omega) (by omega) (by omega) (by omega) (fun h25 => absurd (by omega) (fun h9 : False => h9)) (fun h25 => ?_)
    refine p_aload_n 29 dX12_seekFits_28 rfl rfl (by decide) ?_
    refine p_iload_n 30 dX12_seekFits_29 rfl rfl ?_
    refine p_callV1i 124 33 dX12_seekFits_30 (s_doesFit hW9 hE9 hR hR1 (S := i) (by omega)) lk_X12_379 mX12_doesFit rfl rfl (by decide) (Nat.le_of_ble_eq_true rfl) ?_
    rintro _ _ ⟨rfl, e9⟩
    have e9 := e9.symm
    subst e9
    refine p_if_ne 39 36 dX12_seekFits_33 (by split <;> omega) (by split <;> omega) (fun h33 => ?_) (fun h33 => ?_)
    · have hyes : q_fit ρ i = true := if_ne0 h33
      refine p_aload_n 40 dX12_seekFits_39 rfl rfl (by decide) ?_
      refine p_dupR 41 dX12_seekFits_40 ?_
      refine p_getI 124 44 dX12_seekFits_41 fX12_367 rfl ?_
      rw [k1]
      refine p_iconst 45 dX12_seekFits_44 ?_
      refine p_iadd 46 dX12_seekFits_45 ?_
      refine p_putI 124 49 dX12_seekFits_46 wX12_367 rfl ?_
      refine p_aload_n 50 dX12_seekFits_49 rfl rfl (by decide) ?_
      refine p_dupR 51 dX12_seekFits_50 ?_
      refine p_getI 124 54 dX12_seekFits_51 fX12_370 rfl ?_
      rw [zset_k (by decide), k2]
      refine p_iload_n 55 dX12_seekFits_54 rfl rfl ?_
      refine p_ior 56 dX12_seekFits_55 ?_
      rw [z_ior_n _ i (by omega) (by omega)]
      refine p_putI 124 59 dX12_seekFits_56 wX12_370 rfl ?_
      refine p_aload_n 60 dX12_seekFits_59 rfl rfl (by decide) ?_
      refine p_dupR 61 dX12_seekFits_60 ?_
      refine p_getI 124 64 dX12_seekFits_61 fX12_376 rfl ?_
      rw [zset_k (by decide), zset_k (by decide), k3]
      refine p_iload_n 65 dX12_seekFits_64 rfl rfl ?_
      refine p_iand 66 dX12_seekFits_65 ?_
      rw [z_iand_n _ i (by omega) (by omega)]
      refine p_putI 124 69 dX12_seekFits_66 wX12_376 rfl ?_
      refine p_iinc 72 dX12_seekFits_69 rfl rfl rfl ?_
      dsimp only [List.set]
      refine p_goto 20 dX12_seekFits_72 ?_
      first
        | (refine ih (i + 1) (by omega) hM hM2 ?_ ?_ ?_
           · rw [k1]; show _ = ((q_cntp (q_fit ρ) i + (if q_fit ρ i then 1 else 0) : Nat) : Int); rw [if_neg hno]; rfl
           · rw [k2]; show _ = ((if q_fit ρ i then _ else q_orp (q_fit ρ) i : Nat) : Int); rw [if_neg hno]
           · rw [k3]; show _ = ((if q_fit ρ i then _ else q_andp (q_fit ρ) (2 ^ q_n ρ 6 - 1) i : Nat) : Int); rw [if_neg hno])
        | (refine ih (i + 1) (by omega) (fun a g1 => by rw [zset_ne _ g1, zset_ne _ g1, zset_ne _ g1]; exact hM a g1) (fun k g1 g2 g3 => by rw [zset_k g3, zset_k g2, zset_k g1]; exact hM2 k g1 g2 g3) ?_ ?_ ?_
           · rw [zset_k (by decide), zset_k (by decide), zset_at]; show _ = ((q_cntp (q_fit ρ) i + (if q_fit ρ i then 1 else 0) : Nat) : Int); rw [if_pos hyes]; rfl
           · rw [zset_k (by decide), zset_at]; show _ = ((if q_fit ρ i then q_orp (q_fit ρ) i ||| i else _ : Nat) : Int); rw [if_pos hyes]
           · rw [zset_at]; show _ = ((if q_fit ρ i then q_andp (q_fit ρ) (2 ^ q_n ρ 6 - 1) i &&& i else _ : Nat) : Int); rw [if_pos hyes])
    · have hno : ¬ q_fit ρ i = true := if_nne0 h33
      refine p_goto 69 dX12_seekFits_36 ?_
      refine p_iinc 72 dX12_seekFits_69 rfl rfl rfl ?_
      dsimp only [List.set]
      refine p_goto 20 dX12_seekFits_72 ?_
      first
        | (refine ih (i + 1) (by omega) hM hM2 ?_ ?_ ?_
           · rw [k1]; show _ = ((q_cntp (q_fit ρ) i + (if q_fit ρ i then 1 else 0) : Nat) : Int); rw [if_neg hno]; rfl
           · rw [k2]; show _ = ((if q_fit ρ i then _ else q_orp (q_fit ρ) i : Nat) : Int); rw [if_neg hno]
           · rw [k3]; show _ = ((if q_fit ρ i then _ else q_andp (q_fit ρ) (2 ^ q_n ρ 6 - 1) i : Nat) : Int); rw [if_neg hno])
        | (refine ih (i + 1) (by omega) (fun a g1 => by rw [zset_ne _ g1, zset_ne _ g1, zset_ne _ g1]; exact hM a g1) (fun k g1 g2 g3 => by rw [zset_k g3, zset_k g2, zset_k g1]; exact hM2 k g1 g2 g3) ?_ ?_ ?_
           · rw [zset_k (by decide), zset_k (by decide), zset_at]; show _ = ((q_cntp (q_fit ρ) i + (if q_fit ρ i then 1 else 0) : Nat) : Int); rw [if_pos hyes]; rfl
           · rw [zset_k (by decide), zset_at]; show _ = ((if q_fit ρ i then q_orp (q_fit ρ) i ||| i else _ : Nat) : Int); rw [if_pos hyes]
           · rw [zset_at]; show _ = ((if q_fit ρ i then q_andp (q_fit ρ) (2 ^ q_n ρ 6 - 1) i &&& i else _ : Nat) : Int); rw [if_pos hyes])
theorem s_seekFits {l : Launch} {X : ZX} {M : ZM} {ρ : Nat → Int} (hW : zWm M) (hE : ∀ i, i < 421 → M 127 i = ρ i) (hR : wfR ρ) (hR1 : wfR1 ρ) : zCv l X 5 yX12_seekFits tX12_seekFits [zr 124] M (fun M' => FTs ρ M M') := by
  refine zC.of [some (zr 124), none] (by decide +kernel) rfl rfl (Nat.le_of_ble_eq_true rfl) rfl ?_
  refine p_aload_n 1 dX12_seekFits_0 rfl rfl (by decide) ?_
  refine p_iconst 2 dX12_seekFits_1 ?_
  refine p_putI 124 5 dX12_seekFits_2 wX12_367 rfl ?_
  refine p_aload_n 6 dX12_seekFits_5 rfl rfl (by decide) ?_
  refine p_iconst 7 dX12_seekFits_6 ?_
  refine p_putI 124 10 dX12_seekFits_7 wX12_370 rfl ?_
  refine p_aload_n 11 dX12_seekFits_10 rfl rfl (by decide) ?_
  refine p_aload_n 12 dX12_seekFits_11 rfl rfl (by decide) ?_
  refine p_callV0i 124 15 dX12_seekFits_12 (s_allOrders ((hW.set (by decide +kernel)).set (by decide +kernel)) (ρ := ρ) (fun i hi => hE i hi) hR) lk_X12_373 mX12_allOrders rfl rfl (by decide) (Nat.le_of_ble_eq_true rfl) ?_
  rintro _ _ ⟨rfl, e9⟩
  have e9 := e9.symm
  subst e9
  refine p_putI 124 18 dX12_seekFits_15 wX12_376 rfl ?_
  refine p_iconst 19 dX12_seekFits_18 ?_
  refine p_istore_n 20 dX12_seekFits_19 rfl (Nat.le_of_ble_eq_true rfl) rfl rfl ?_
  dsimp only [List.set]
  exact l_seekFits (l := l) (X := X) (M := M) hW hE hR hR1 (2 ^ q_n ρ 6) 0 (Nat.zero_add _) (fun a g1 => by rw [zset_ne _ g1, zset_ne _ g1, zset_ne _ g1]) (fun k g1 g2 g3 => by rw [zset_k g3, zset_k g2, zset_k g1]) rfl rfl rfl
theorem l_wasSeenM {l : Launch} {X : ZX} {M : ZM} {ρ : Nat → Int} (hW : zWm M) (hE : ∀ i, i < 421 → M 127 i = ρ i) (hR : wfR ρ) {k : Nat} (hk : k < 6) : ∀ (j i : Nat), i + j = q_n ρ 7 → q_all (fun n => decide (q_ss ρ n ≠ q_sg ρ k)) i = true → zP l X 2 tX12_wasSeen 2 [some (zr 124), some (zi (k : Int)), some (zi (i : Int))] [] M (fun r M' => ∃ a, r = some (zi a) ∧ (a = (if q_all (fun n => decide (q_ss ρ n ≠ q_sg ρ k)) (q_n ρ 7) = true then 0 else 1) ∧ M' = M)) := by
  have e6 : ρ 6 = (q_n ρ 6 : Int) := hR.n (by decide)
  have b6 := hR.2.1.2.2.2.2.2.2.1
  have e7 : ρ 7 = (q_n ρ 7 : Int) := hR.n (by decide)
  have b7 := hR.2.1.2.2.2.2.2.2.2
  have hp6 := p6 (n := q_n ρ 6) (by omega)
  have hp0 : 0 < 2 ^ q_n ρ 6 := Nat.two_pow_pos _
  intro j
  induction j with
  | zero =>
    intro i hi hv
    refine p_iload_n 3 dX12_wasSeen_2 rfl rfl ?_
    refine p_aload_n 4 dX12_wasSeen_3 rfl rfl (by decide) ?_
    refine p_getR 124 7 dX12_wasSeen_4 fX12_20 rfl (hW (124, 15, 127) (by decide)) ?_
    refine p_bipush 9 dX12_wasSeen_7 rfl ?_
    refine p_ialdn 127 10 (7) dX12_wasSeen_9 rfl (by omega) (by omega) ?_
    rw [hE 7 (by decide)]
    refine p_icmp_ge 39 13 dX12_wasSeen_10 (by omega) (by omega) (by omega) (by omega) (fun h10 => ?_) (fun h10 => absurd (by omega) (fun h9 : False => h9))
    refine p_iconst 40 dX12_wasSeen_39 ?_
    refine p_zret dX12_wasSeen_40 rfl (by decide) ?_
    rw [Nat.add_zero] at hi
    subst hi
    exact ⟨_, rfl, by rw [if_pos hv], rfl⟩
  | succ j ih =>
    intro i hi hv
    refine p_iload_n 3 dX12_wasSeen_2 rfl rfl ?_
    refine p_aload_n 4 dX12_wasSeen_3 rfl rfl (by decide) ?_
    refine p_getR 124 7 dX12_wasSeen_4 fX12_20 rfl (hW (124, 15, 127) (by decide)) ?_
    refine p_bipush 9 dX12_wasSeen_7 rfl ?_
    refine p_ialdn 127 10 (7) dX12_wasSeen_9 rfl (by omega) (by omega) ?_
    rw [hE 7 (by decide)]
    refine p_icmp_ge 39 13 dX12_wasSeen_10 (by omega) (by omega) (by omega) (by omega) (fun h10 => absurd (by omega) (fun h9 : False => h9)) (fun h10 => ?_)
    refine p_aload_n 14 dX12_wasSeen_13 rfl rfl (by decide) ?_
    refine p_iload_n 15 dX12_wasSeen_14 rfl rfl ?_
    refine p_sipush 18 dX12_wasSeen_15 rfl ?_
    refine p_bipush 20 dX12_wasSeen_18 rfl ?_
    refine p_iload_n 21 dX12_wasSeen_20 rfl rfl ?_
    refine p_imul 22 dX12_wasSeen_21 ?_
    refine p_iadd 23 dX12_wasSeen_22 ?_
    refine p_iconst 24 dX12_wasSeen_23 ?_
    refine p_iadd 25 dX12_wasSeen_24 ?_
    rw [show (173 : Int) + 19 * (i : Int) + 1 = ((173 + 19 * i + 1 : Nat) : Int) by omega]
    refine p_callV2i 124 28 dX12_wasSeen_25 (s_isSign hW hE hR (k := k) (f := 173 + 19 * i + 1) hk (by omega) (hR.1 _ (by omega)) (hR.2.2.2.2.2.2 i (by omega)).2.1) lk_X12_355 mX12_isSign rfl rfl (by decide) (Nat.le_of_ble_eq_true rfl) ?_
    rintro _ _ ⟨rfl, e9⟩
    have e9 := e9.symm
    subst e9
    refine p_if_eq 33 31 dX12_wasSeen_28 (by split <;> omega) (by split <;> omega) (fun h28 => ?_) (fun h28 => ?_)
    · refine p_iinc 36 dX12_wasSeen_33 rfl rfl rfl ?_
      dsimp only [List.set]
      refine p_goto 2 dX12_wasSeen_36 ?_
      refine ih (i + 1) (by omega) ?_
      rw [q_all_succ, hv, decide_eq_true (p := q_ss ρ i ≠ q_sg ρ k) (fun g => if_eq0 h28 g.symm)]
      rfl
    · refine p_iconst 32 dX12_wasSeen_31 ?_
      refine p_zret dX12_wasSeen_32 rfl (by decide) ?_
      refine ⟨_, rfl, ?_, rfl⟩
      rw [if_neg]
      intro g
      have := q_all_iff.mp g i (by omega)
      rw [decide_eq_true_eq] at this
      exact this (if_neq0 h28).symm
theorem s_wasSeenM {l : Launch} {X : ZX} {M : ZM} {ρ : Nat → Int} (hW : zWm M) (hE : ∀ i, i < 421 → M 127 i = ρ i) (hR : wfR ρ) {k : Nat} (hk : k < 6) : zCi l X 2 yX12_wasSeen tX12_wasSeen [zr 124, zi (k : Int)] M (fun a M' => a = (if q_all (fun n => decide (q_ss ρ n ≠ q_sg ρ k)) (q_n ρ 7) = true then 0 else 1) ∧ M' = M) := by
  refine zC.of [some (zr 124), some (zi (k : Int)), none] (by decide +kernel) rfl rfl (Nat.le_of_ble_eq_true rfl) rfl ?_
  refine p_iconst 1 dX12_wasSeen_0 ?_
  refine p_istore_n 2 dX12_wasSeen_1 rfl (Nat.le_of_ble_eq_true rfl) rfl rfl ?_
  dsimp only [List.set]
  exact l_wasSeenM hW hE hR hk (q_n ρ 7) 0 (Nat.zero_add _) rfl
theorem l_firstOf {l : Launch} {X : ZX} {M : ZM} {ρ : Nat → Int} (hW : zWm M) (hE : ∀ i, i < 421 → M 127 i = ρ i) (hR : wfR ρ) {k : Nat} (hk : k < 6) : ∀ (j i : Nat), i + j = k + 1 → i ≤ k → q_all (fun p => decide (q_sg ρ p ≠ q_sg ρ k)) i = true → zP l X 2 tX12_firstOf 2 [some (zr 124), some (zi (k : Int)), some (zi (i : Int))] [] M (fun r M' => ∃ a, r = some (zi a) ∧ (∃ v : Nat, a = (v : Int) ∧ v ≤ k ∧ (v = k ↔ q_all (fun p => decide (q_sg ρ p ≠ q_sg ρ k)) k = true)) ∧ M' = M) := by
  intro j
  induction j with
  | zero =>
    intro i hi hik hv
    exact absurd hik (by omega)
  | succ j ih =>
    intro i hi hik hv
    refine p_aload_n 3 dX12_firstOf_2 rfl rfl (by decide) ?_
    refine p_iload_n 4 dX12_firstOf_3 rfl rfl ?_
    refine p_bipush 6 dX12_firstOf_4 rfl ?_
    refine p_bipush 8 dX12_firstOf_6 rfl ?_
    refine p_iload_n 9 dX12_firstOf_8 rfl rfl ?_
    refine p_imul 10 dX12_firstOf_9 ?_
    refine p_iadd 11 dX12_firstOf_10 ?_
    refine p_iconst 12 dX12_firstOf_11 ?_
    refine p_iadd 13 dX12_firstOf_12 ?_
    rw [show (59 : Int) + 19 * (k : Int) + 1 = ((59 + 19 * k + 1 : Nat) : Int) by omega]
    refine p_callV2i 124 16 dX12_firstOf_13 (s_isSign hW hE hR (k := i) (f := 59 + 19 * k + 1) (by omega) (by omega) (hR.1 _ (by omega)) (hR.2.2.2.2.2.1 k hk).2.1) lk_X12_355 mX12_isSign rfl rfl (by decide) (Nat.le_of_ble_eq_true rfl) ?_
    rintro _ _ ⟨rfl, e9⟩
    have e9 := e9.symm
    subst e9
    refine p_if_ne 25 19 dX12_firstOf_16 (by split <;> omega) (by split <;> omega) (fun h16 => ?_) (fun h16 => ?_)
    · refine p_iload_n 26 dX12_firstOf_25 rfl rfl ?_
      refine p_iret dX12_firstOf_26 rfl ?_
      have hse : q_sg ρ i = q_sg ρ k := if_ne0 h16
      refine ⟨_, rfl, ⟨i, rfl, hik, ?_⟩, rfl⟩
      constructor
      · intro e; subst e; exact hv
      · intro g
        by_cases e : i = k
        · exact e
        · have := q_all_iff.mp g i (by omega)
          rw [decide_eq_true_eq] at this
          exact absurd hse this
    · refine p_iinc 22 dX12_firstOf_19 rfl rfl rfl ?_
      dsimp only [List.set]
      refine p_goto 2 dX12_firstOf_22 ?_
      have hne : ¬ q_sg ρ i = q_sg ρ k := if_nne0 h16
      have hlt : i ≠ k := fun e => hne (by rw [e])
      refine ih (i + 1) (by omega) (by omega) ?_
      rw [q_all_succ, hv, decide_eq_true (p := q_sg ρ i ≠ q_sg ρ k) hne]
      rfl
theorem s_firstOf {l : Launch} {X : ZX} {M : ZM} {ρ : Nat → Int} (hW : zWm M) (hE : ∀ i, i < 421 → M 127 i = ρ i) (hR : wfR ρ) {k : Nat} (hk : k < 6) : zCi l X 2 yX12_firstOf tX12_firstOf [zr 124, zi (k : Int)] M (fun a M' => (∃ v : Nat, a = (v : Int) ∧ v ≤ k ∧ (v = k ↔ q_all (fun p => decide (q_sg ρ p ≠ q_sg ρ k)) k = true)) ∧ M' = M) := by
  refine zC.of [some (zr 124), some (zi (k : Int)), none] (by decide +kernel) rfl rfl (Nat.le_of_ble_eq_true rfl) rfl ?_
  refine p_iconst 1 dX12_firstOf_0 ?_
  refine p_istore_n 2 dX12_firstOf_1 rfl (Nat.le_of_ble_eq_true rfl) rfl rfl ?_
  dsimp only [List.set]
  exact l_firstOf hW hE hR hk (k + 1) 0 (Nat.zero_add _) (Nat.zero_le _) rfl
theorem q_fv_dn_bd {ρ : Nat → Int} {sh : Int} {S : Nat} (h6 : q_n ρ 6 ≤ 6) : -2 ≤ q_fv (q_dn ρ sh S (q_n ρ 6)) ∧ q_fv (q_dn ρ sh S (q_n ρ 6)) ≤ 6 := by
  cases hq : q_dn ρ sh S (q_n ρ 6) with
  | none => exact ⟨by decide, by decide⟩
  | some b =>
    have := (q_dn_lt _ b hq).1
    exact ⟨by show (-2 : Int) ≤ (b : Int); omega, by show (b : Int) ≤ 6; omega⟩
theorem s_doAlike {l : Launch} {X : ZX} {M : ZM} {ρ : Nat → Int} (hW : zWm M) (hE : ∀ i, i < 421 → M 127 i = ρ i) (hR : wfR ρ) (hR1 : wfR1 ρ) {f : Nat} (hf : f + 9 ≤ 421) (hf0 : 0 ≤ ρ f) (hfo : q_wordOk ρ f) {A B : Nat} (hA : A < 2147483648) (hB : B < 2147483648) : zCi l X 3 yX12_doAlike tX12_doAlike [zr 124, zi (A : Int), zi (B : Int), zi (f : Int)] M (fun a M' => a = (if q_done ρ (q_sign ρ f) A = q_done ρ (q_sign ρ f) B then 1 else 0) ∧ M' = M) := by
  have e6 : ρ 6 = (q_n ρ 6 : Int) := hR.n (by decide)
  have b6 := hR.2.1.2.2.2.2.2.2.1
  have e7 : ρ 7 = (q_n ρ 7 : Int) := hR.n (by decide)
  have b7 := hR.2.1.2.2.2.2.2.2.2
  have hp6 := p6 (n := q_n ρ 6) (by omega)
  have hp0 : 0 < 2 ^ q_n ρ 6 := Nat.two_pow_pos _
  have hfa := q_fv_dn_bd (ρ := ρ) (sh := q_sign ρ f) (S := A) (by omega)
  have hfb := q_fv_dn_bd (ρ := ρ) (sh := q_sign ρ f) (S := B) (by omega)
  refine zC.of [some (zr 124), some (zi (A : Int)), some (zi (B : Int)), some (zi (f : Int)), none, none] (by decide +kernel) rfl rfl (Nat.le_of_ble_eq_true rfl) rfl ?_
  refine p_aload_n 1 dX12_doAlike_0 rfl rfl (by decide) ?_
  refine p_iload_n 2 dX12_doAlike_1 rfl rfl ?_
  refine p_iload_n 3 dX12_doAlike_2 rfl rfl ?_
  refine p_callV2i 124 6 dX12_doAlike_3 (s_doneTo hW hE hR hR1 hf hf0 hfo hA) lk_X12_361 mX12_doneTo rfl rfl (by decide) (Nat.le_of_ble_eq_true rfl) ?_
  rintro _ _ ⟨rfl, e9⟩
  have e9 := e9.symm
  subst e9
  refine p_istore 8 dX12_doAlike_6 (Nat.le_of_ble_eq_true rfl) rfl rfl ?_
  dsimp only [List.set]
  refine p_aload_n 9 dX12_doAlike_8 rfl rfl (by decide) ?_
  refine p_iload_n 10 dX12_doAlike_9 rfl rfl ?_
  refine p_iload_n 11 dX12_doAlike_10 rfl rfl ?_
  refine p_callV2i 124 14 dX12_doAlike_11 (s_doneTo hW hE hR hR1 hf hf0 hfo hB) lk_X12_361 mX12_doneTo rfl rfl (by decide) (Nat.le_of_ble_eq_true rfl) ?_
  rintro _ _ ⟨rfl, e9⟩
  have e9 := e9.symm
  subst e9
  refine p_istore 16 dX12_doAlike_14 (Nat.le_of_ble_eq_true rfl) rfl rfl ?_
  dsimp only [List.set]
  refine p_iload 18 dX12_doAlike_16 rfl ?_
  refine p_if_lt 26 21 dX12_doAlike_18 (by omega) (by omega) (fun h18 => ?_) (fun h18 => ?_)
  · refine p_iload 28 dX12_doAlike_26 rfl ?_
    refine p_iload 30 dX12_doAlike_28 rfl ?_
    refine p_icmp_ne 37 33 dX12_doAlike_30 (by omega) (by omega) (by omega) (by omega) (fun h30 => ?_) (fun h30 => ?_)
    · refine p_iconst 38 dX12_doAlike_37 ?_
      refine p_goto 70 dX12_doAlike_38 ?_
      refine p_zret dX12_doAlike_70 rfl (by first | decide | (split <;> omega)) ?_
      refine ⟨_, rfl, ?_, rfl⟩
      first
        | (rw [hda, hdb]; rfl)
        | (rcases q_done_dn hR hR1 (q_sign ρ f) A with ⟨k1, k2⟩ | ⟨a, k1, k2, -, k3, k4⟩ <;> rcases q_done_dn hR hR1 (q_sign ρ f) B with ⟨m1, m2⟩ | ⟨b, m1, m2, -, m3, m4⟩
           · rw [k2, m2, if_pos rfl]
           · rw [k1, m1] at h30
             have : (-2 : Int) = (b : Int) := by first | exact h30 | exact Decidable.not_not.mp h30
             omega
           · rw [k1, m1] at h30
             have : (a : Int) = -2 := by first | exact h30 | exact Decidable.not_not.mp h30
             omega
           · first
               | (rw [k1] at h18
                  have : (a : Int) < 0 := h18
                  omega)
               | (rw [m1] at h23
                  have : ¬ (0 : Int) ≤ (b : Int) := h23
                  omega))
        | (rcases q_done_dn hR hR1 (q_sign ρ f) A with ⟨k1, k2⟩ | ⟨a, k1, k2, -, k3, k4⟩ <;> rcases q_done_dn hR hR1 (q_sign ρ f) B with ⟨m1, m2⟩ | ⟨b, m1, m2, -, m3, m4⟩
           · rw [k1, m1] at h30; exact absurd rfl h30
           · rw [if_neg (by omega)]
           · rw [if_neg (by omega)]
           · first
               | (rw [k1] at h18
                  have : (a : Int) < 0 := h18
                  omega)
               | (rw [m1] at h23
                  have : ¬ (0 : Int) ≤ (b : Int) := h23
                  omega))
    · refine p_iconst 34 dX12_doAlike_33 ?_
      refine p_goto 70 dX12_doAlike_34 ?_
      refine p_zret dX12_doAlike_70 rfl (by first | decide | (split <;> omega)) ?_
      refine ⟨_, rfl, ?_, rfl⟩
      first
        | (rw [hda, hdb]; rfl)
        | (rcases q_done_dn hR hR1 (q_sign ρ f) A with ⟨k1, k2⟩ | ⟨a, k1, k2, -, k3, k4⟩ <;> rcases q_done_dn hR hR1 (q_sign ρ f) B with ⟨m1, m2⟩ | ⟨b, m1, m2, -, m3, m4⟩
           · rw [k2, m2, if_pos rfl]
           · rw [k1, m1] at h30
             have : (-2 : Int) = (b : Int) := by first | exact h30 | exact Decidable.not_not.mp h30
             omega
           · rw [k1, m1] at h30
             have : (a : Int) = -2 := by first | exact h30 | exact Decidable.not_not.mp h30
             omega
           · first
               | (rw [k1] at h18
                  have : (a : Int) < 0 := h18
                  omega)
               | (rw [m1] at h23
                  have : ¬ (0 : Int) ≤ (b : Int) := h23
                  omega))
        | (rcases q_done_dn hR hR1 (q_sign ρ f) A with ⟨k1, k2⟩ | ⟨a, k1, k2, -, k3, k4⟩ <;> rcases q_done_dn hR hR1 (q_sign ρ f) B with ⟨m1, m2⟩ | ⟨b, m1, m2, -, m3, m4⟩
           · rw [k1, m1] at h30; exact absurd rfl h30
           · rw [if_neg (by omega)]
           · rw [if_neg (by omega)]
           · first
               | (rw [k1] at h18
                  have : (a : Int) < 0 := h18
                  omega)
               | (rw [m1] at h23
                  have : ¬ (0 : Int) ≤ (b : Int) := h23
                  omega))
  · refine p_iload 23 dX12_doAlike_21 rfl ?_
    refine p_if_ge 41 26 dX12_doAlike_23 (by omega) (by omega) (fun h23 => ?_) (fun h23 => ?_)
    · obtain ⟨a, ha, ha6, hda⟩ : ∃ a : Nat, (q_fv (q_dn ρ (q_sign ρ f) A (q_n ρ 6))) = (a : Int) ∧ a < q_n ρ 6 ∧ q_done ρ (q_sign ρ f) A = q_dd ρ a := by
        rcases q_done_dn hR hR1 (q_sign ρ f) A with ⟨k1, k2⟩ | ⟨a, k1, k2, -, k3, -⟩
        · rw [k1] at h18; exact absurd (show (-2 : Int) < 0 by decide) h18
        · exact ⟨a, by rw [k1]; rfl, k2, k3⟩
      obtain ⟨b, hb, hb6, hdb⟩ : ∃ b : Nat, (q_fv (q_dn ρ (q_sign ρ f) B (q_n ρ 6))) = (b : Int) ∧ b < q_n ρ 6 ∧ q_done ρ (q_sign ρ f) B = q_dd ρ b := by
        rcases q_done_dn hR hR1 (q_sign ρ f) B with ⟨k1, k2⟩ | ⟨b, k1, k2, -, k3, -⟩
        · rw [k1] at h23; exact absurd h23 (by decide)
        · exact ⟨b, by rw [k1]; rfl, k2, k3⟩
      rw [ha, hb]
      refine p_aload_n 42 dX12_doAlike_41 rfl rfl (by decide) ?_
      refine p_getR 124 45 dX12_doAlike_42 fX12_20 rfl (hW (124, 15, 127) (by decide)) ?_
      refine p_bipush 47 dX12_doAlike_45 rfl ?_
      refine p_bipush 49 dX12_doAlike_47 rfl ?_
      refine p_iload 51 dX12_doAlike_49 rfl ?_
      refine p_imul 52 dX12_doAlike_51 ?_
      refine p_iadd 53 dX12_doAlike_52 ?_
      refine p_bipush 55 dX12_doAlike_53 rfl ?_
      refine p_iadd 56 dX12_doAlike_55 ?_
      rw [show (59 : Int) + 19 * (a : Int) + 10 = ((59 + 19 * a + 10 : Nat) : Int) by omega]
      refine p_bipush 58 dX12_doAlike_56 rfl ?_
      refine p_bipush 60 dX12_doAlike_58 rfl ?_
      refine p_iload 62 dX12_doAlike_60 rfl ?_
      refine p_imul 63 dX12_doAlike_62 ?_
      refine p_iadd 64 dX12_doAlike_63 ?_
      refine p_bipush 66 dX12_doAlike_64 rfl ?_
      refine p_iadd 67 dX12_doAlike_66 ?_
      rw [show (59 : Int) + 19 * (b : Int) + 10 = ((59 + 19 * b + 10 : Nat) : Int) by omega]
      refine p_callS3i 70 dX12_doAlike_67 (s_isSame (Or.inl rfl : isR 127) hE (f := 59 + 19 * a + 10) (g := 59 + 19 * b + 10) (by omega) (by omega) (hR.1 _ (by omega)) (hR.1 _ (by omega)) (hR.2.2.2.2.2.1 a (by omega)).2.2 (hR.2.2.2.2.2.1 b (by omega)).2.2) lk_X12_257 mX12_isSame (by decide) (Nat.le_of_ble_eq_true rfl) ?_
      rintro _ _ ⟨rfl, e9⟩
      have e9 := e9.symm
      subst e9
      refine p_zret dX12_doAlike_70 rfl (by first | decide | (split <;> omega)) ?_
      refine ⟨_, rfl, ?_, rfl⟩
      first
        | (rw [hda, hdb]; rfl)
        | (rcases q_done_dn hR hR1 (q_sign ρ f) A with ⟨k1, k2⟩ | ⟨a, k1, k2, -, k3, k4⟩ <;> rcases q_done_dn hR hR1 (q_sign ρ f) B with ⟨m1, m2⟩ | ⟨b, m1, m2, -, m3, m4⟩
           · rw [k2, m2, if_pos rfl]
           · rw [k1, m1] at h30
             have : (-2 : Int) = (b : Int) := by first | exact h30 | exact Decidable.not_not.mp h30
             omega
           · rw [k1, m1] at h30
             have : (a : Int) = -2 := by first | exact h30 | exact Decidable.not_not.mp h30
             omega
           · first
               | (rw [k1] at h18
                  have : (a : Int) < 0 := h18
                  omega)
               | (rw [m1] at h23
                  have : ¬ (0 : Int) ≤ (b : Int) := h23
                  omega))
        | (rcases q_done_dn hR hR1 (q_sign ρ f) A with ⟨k1, k2⟩ | ⟨a, k1, k2, -, k3, k4⟩ <;> rcases q_done_dn hR hR1 (q_sign ρ f) B with ⟨m1, m2⟩ | ⟨b, m1, m2, -, m3, m4⟩
           · rw [k1, m1] at h30; exact absurd rfl h30
           · rw [if_neg (by omega)]
           · rw [if_neg (by omega)]
           · first
               | (rw [k1] at h18
                  have : (a : Int) < 0 := h18
                  omega)
               | (rw [m1] at h23
                  have : ¬ (0 : Int) ≤ (b : Int) := h23
                  omega))
    · refine p_iload 28 dX12_doAlike_26 rfl ?_
      refine p_iload 30 dX12_doAlike_28 rfl ?_
      refine p_icmp_ne 37 33 dX12_doAlike_30 (by omega) (by omega) (by omega) (by omega) (fun h30 => ?_) (fun h30 => ?_)
      · refine p_iconst 38 dX12_doAlike_37 ?_
        refine p_goto 70 dX12_doAlike_38 ?_
        refine p_zret dX12_doAlike_70 rfl (by first | decide | (split <;> omega)) ?_
        refine ⟨_, rfl, ?_, rfl⟩
        first
          | (rw [hda, hdb]; rfl)
          | (rcases q_done_dn hR hR1 (q_sign ρ f) A with ⟨k1, k2⟩ | ⟨a, k1, k2, -, k3, k4⟩ <;> rcases q_done_dn hR hR1 (q_sign ρ f) B with ⟨m1, m2⟩ | ⟨b, m1, m2, -, m3, m4⟩
             · rw [k2, m2, if_pos rfl]
             · rw [k1, m1] at h30
               have : (-2 : Int) = (b : Int) := by first | exact h30 | exact Decidable.not_not.mp h30
               omega
             · rw [k1, m1] at h30
               have : (a : Int) = -2 := by first | exact h30 | exact Decidable.not_not.mp h30
               omega
             · first
                 | (rw [k1] at h18
                    have : (a : Int) < 0 := h18
                    omega)
                 | (rw [m1] at h23
                    have : ¬ (0 : Int) ≤ (b : Int) := h23
                    omega))
          | (rcases q_done_dn hR hR1 (q_sign ρ f) A with ⟨k1, k2⟩ | ⟨a, k1, k2, -, k3, k4⟩ <;> rcases q_done_dn hR hR1 (q_sign ρ f) B with ⟨m1, m2⟩ | ⟨b, m1, m2, -, m3, m4⟩
             · rw [k1, m1] at h30; exact absurd rfl h30
             · rw [if_neg (by omega)]
             · rw [if_neg (by omega)]
             · first
                 | (rw [k1] at h18
                    have : (a : Int) < 0 := h18
                    omega)
                 | (rw [m1] at h23
                    have : ¬ (0 : Int) ≤ (b : Int) := h23
                    omega))
      · refine p_iconst 34 dX12_doAlike_33 ?_
        refine p_goto 70 dX12_doAlike_34 ?_
        refine p_zret dX12_doAlike_70 rfl (by first | decide | (split <;> omega)) ?_
        refine ⟨_, rfl, ?_, rfl⟩
        first
          | (rw [hda, hdb]; rfl)
          | (rcases q_done_dn hR hR1 (q_sign ρ f) A with ⟨k1, k2⟩ | ⟨a, k1, k2, -, k3, k4⟩ <;> rcases q_done_dn hR hR1 (q_sign ρ f) B with ⟨m1, m2⟩ | ⟨b, m1, m2, -, m3, m4⟩
             · rw [k2, m2, if_pos rfl]
             · rw [k1, m1] at h30
               have : (-2 : Int) = (b : Int) := by first | exact h30 | exact Decidable.not_not.mp h30
               omega
             · rw [k1, m1] at h30
               have : (a : Int) = -2 := by first | exact h30 | exact Decidable.not_not.mp h30
               omega
             · first
                 | (rw [k1] at h18
                    have : (a : Int) < 0 := h18
                    omega)
                 | (rw [m1] at h23
                    have : ¬ (0 : Int) ≤ (b : Int) := h23
                    omega))
          | (rcases q_done_dn hR hR1 (q_sign ρ f) A with ⟨k1, k2⟩ | ⟨a, k1, k2, -, k3, k4⟩ <;> rcases q_done_dn hR hR1 (q_sign ρ f) B with ⟨m1, m2⟩ | ⟨b, m1, m2, -, m3, m4⟩
             · rw [k1, m1] at h30; exact absurd rfl h30
             · rw [if_neg (by omega)]
             · rw [if_neg (by omega)]
             · first
                 | (rw [k1] at h18
                    have : (a : Int) < 0 := h18
                    omega)
                 | (rw [m1] at h23
                    have : ¬ (0 : Int) ≤ (b : Int) := h23
                    omega))
def q_al (ρ : Nat → Int) (sh : Int) (a : Nat) : Nat → Nat := q_cntp (fun b => q_fit ρ b && decide (q_done ρ sh a = q_done ρ sh b))
def q_lv (ρ : Nat → Int) (sh : Int) : Nat → Nat := q_max (q_fit ρ) (fun a => q_al ρ sh a (2 ^ q_n ρ 6)) 0
theorem q_part_iff {ρ : Nat → Int} (hR : wfR ρ) (hR1 : wfR1 ρ) {sh : Int} {a b : Nat} : q_part ρ sh (q_done ρ sh a) = q_part ρ sh (q_done ρ sh b) ↔ q_done ρ sh a = q_done ρ sh b := by
  have e6 : ρ 6 = (q_n ρ 6 : Int) := hR.n (by decide)
  have b6 := hR.2.1.2.2.2.2.2.2.1
  have hz : q_part ρ sh 0 = 6 := by
    unfold q_part
    cases hq : q_first (fun o => decide (q_sg ρ o = sh) && decide (q_dd ρ o = 0)) (q_n ρ 6) with
    | none => rfl
    | some w =>
      obtain ⟨w1, w2, -⟩ := q_first_some hq
      have := (hR1.rk hR w1).2.2
      rw [Bool.and_eq_true, decide_eq_true_eq, decide_eq_true_eq] at w2
      omega
  have hs : ∀ S, q_done ρ sh S ≠ 0 → q_part ρ sh (q_done ρ sh S) < 6 ∧ q_dd ρ (q_part ρ sh (q_done ρ sh S)) = q_done ρ sh S := by
    intro S hS
    rcases q_done_dn hR hR1 sh S with ⟨k1, k2⟩ | ⟨c, k1, k2, k3, k4, k5⟩
    · exact absurd k2 hS
    · unfold q_part
      cases hq : q_first (fun o => decide (q_sg ρ o = sh) && decide (q_dd ρ o = q_done ρ sh S)) (q_n ρ 6) with
      | none =>
        have := q_first_none hq c k2
        have h2 : (decide (q_sg ρ c = sh) && decide (q_dd ρ c = q_done ρ sh S)) = false := this
        rw [decide_eq_true k3, decide_eq_true k4.symm] at h2
        cases h2
      | some w =>
        obtain ⟨w1, w2, -⟩ := q_first_some hq
        rw [Bool.and_eq_true, decide_eq_true_eq, decide_eq_true_eq] at w2
        exact ⟨by show w < 6; omega, w2.2⟩
  constructor
  · intro h
    by_cases ha : q_done ρ sh a = 0
    · by_cases hb : q_done ρ sh b = 0
      · rw [ha, hb]
      · have := (hs b hb).1
        rw [← h, ha, hz] at this
        omega
    · by_cases hb : q_done ρ sh b = 0
      · have := (hs a ha).1
        rw [h, hb, hz] at this
        omega
      · rw [← (hs a ha).2, ← (hs b hb).2, h]
  · intro h
    rw [h]
theorem q_al_part {ρ : Nat → Int} (hR : wfR ρ) (hR1 : wfR1 ρ) {sh : Int} {a : Nat} : q_al ρ sh a (2 ^ q_n ρ 6) = q_parts ρ sh (q_part ρ sh (q_done ρ sh a)) := by
  unfold q_al q_parts
  refine q_cntp_congr (fun b _ => ?_)
  congr 1
  apply decide_eq_decide.mpr
  rw [q_part_iff hR hR1]
  exact ⟨fun h => h.symm, fun h => h.symm⟩
theorem q_cntp_ex {p : Nat → Bool} {n : Nat} (h : 0 < q_cntp p n) : ∃ i, i < n ∧ p i = true := by
  induction n with
  | zero => exact absurd h (by show ¬ 0 < 0; omega)
  | succ n ih =>
    by_cases hp : p n = true
    · exact ⟨n, by omega, hp⟩
    · have e : q_cntp p (n + 1) = q_cntp p n := by
        show q_cntp p n + (if p n then 1 else 0) = _
        rw [if_neg hp]
        rfl
      rw [e] at h
      obtain ⟨i, h1, h2⟩ := ih h
      exact ⟨i, by omega, h2⟩
theorem q_lv_most {ρ : Nat → Int} (hR : wfR ρ) (hR1 : wfR1 ρ) (sh : Int) : q_lv ρ sh (2 ^ q_n ρ 6) = q_most ρ sh := by
  have e6 : ρ 6 = (q_n ρ 6 : Int) := hR.n (by decide)
  have b6 := hR.2.1.2.2.2.2.2.2.1
  apply Nat.le_antisymm
  · refine q_max_le (Nat.zero_le _) (fun a ha hf => ?_)
    show q_al ρ sh a (2 ^ q_n ρ 6) ≤ _
    rw [q_al_part hR hR1]
    exact q_max_ge (p := fun _ => true) (g := q_parts ρ sh) (by have := q_part_le (ρ := ρ) (by omega) sh (q_done ρ sh a); omega) rfl
  · refine q_max_le (Nat.zero_le _) (fun p hp _ => ?_)
    by_cases h0 : 0 < q_parts ρ sh p
    · obtain ⟨a, ha1, ha2⟩ := q_cntp_ex h0
      rw [Bool.and_eq_true, decide_eq_true_eq] at ha2
      rw [← ha2.2, ← q_al_part hR hR1]
      exact q_max_ge (p := q_fit ρ) (g := fun a => q_al ρ sh a (2 ^ q_n ρ 6)) ha1 ha2.1
    · omega
theorem q_al_le (ρ : Nat → Int) (sh : Int) (a n : Nat) : q_al ρ sh a n ≤ n := q_cntp_le _ _
theorem q_lv_le (ρ : Nat → Int) (sh : Int) (n : Nat) : q_lv ρ sh n ≤ 2 ^ q_n ρ 6 := q_max_le (Nat.zero_le _) (fun a _ _ => q_al_le ρ sh a _)
theorem q_al_step (ρ : Nat → Int) (sh : Int) (a i : Nat) : q_al ρ sh a (i + 1) = q_al ρ sh a i + (if q_fit ρ i = true ∧ q_done ρ sh a = q_done ρ sh i then 1 else 0) := by
  show q_cntp _ i + (if (q_fit ρ i && decide (q_done ρ sh a = q_done ρ sh i)) = true then 1 else 0) = _
  by_cases h1 : q_fit ρ i = true
  · by_cases h2 : q_done ρ sh a = q_done ρ sh i
    · rw [h1, decide_eq_true h2, if_pos (by rfl), if_pos ⟨rfl, h2⟩]; rfl
    · rw [h1, decide_eq_false h2, if_neg (by decide), if_neg (fun g => h2 g.2)]; rfl
  · rw [Bool.eq_false_iff.mpr h1, if_neg (by simp), if_neg (fun g => absurd g.1 (by decide))]; rfl
theorem l_leavesI {l : Launch} {X : ZX} {M : ZM} {ρ : Nat → Int} (hW : zWm M) (hE : ∀ i, i < 421 → M 127 i = ρ i) (hR : wfR ρ) (hR1 : wfR1 ρ) {k : Nat} (hk : k < 6) {a : Nat} (ha : a < 2 ^ q_n ρ 6) {mo : Int} {Q : Option ZV → ZM → Prop} (hQ : zP l X 5 tX12_leavesBy 88 [some (zr 124), some (zi (k : Int)), some (zi ((59 + 19 * k + 1 : Nat) : Int)), some (zi mo), some (zi (a : Int)), some (zi (q_al ρ (q_sg ρ k) a (2 ^ q_n ρ 6) : Int)), some (zi ((2 ^ q_n ρ 6 : Nat) : Int))] [] M Q) : ∀ (j i : Nat), i + j = 2 ^ q_n ρ 6 → zP l X 5 tX12_leavesBy 42 [some (zr 124), some (zi (k : Int)), some (zi ((59 + 19 * k + 1 : Nat) : Int)), some (zi mo), some (zi (a : Int)), some (zi (q_al ρ (q_sg ρ k) a i : Int)), some (zi (i : Int))] [] M (Q) := by
  have e6 : ρ 6 = (q_n ρ 6 : Int) := hR.n (by decide)
  have b6 := hR.2.1.2.2.2.2.2.2.1
  have e7 : ρ 7 = (q_n ρ 7 : Int) := hR.n (by decide)
  have b7 := hR.2.1.2.2.2.2.2.2.2
  have hp6 := p6 (n := q_n ρ 6) (by omega)
  have hp0 : 0 < 2 ^ q_n ρ 6 := Nat.two_pow_pos _
  intro j
  induction j with
  | zero =>
    intro i hi
    refine p_iload 44 dX12_leavesBy_42 rfl ?_
    refine p_aload_n 45 dX12_leavesBy_44 rfl rfl (by decide) ?_
    refine p_callV0i 124 48 dX12_leavesBy_45 (s_allOrders hW hE hR) lk_X12_373 mX12_allOrders rfl rfl (by decide) (Nat.le_of_ble_eq_true rfl) ?_
    rintro _ _ ⟨rfl, e9⟩
    have e9 := e9.symm
    subst e9
    refine p_icmp_gt 88 51 dX12_leavesBy_48 (by omega) (by omega) (by omega) (by omega) (fun h48 => ?_) (fun h48 => absurd (by omega) (fun h9 : False => h9))
    rw [Nat.add_zero] at hi
    subst hi
    exact hQ
  | succ j ih =>
    intro i hi
    refine p_iload 44 dX12_leavesBy_42 rfl ?_
    refine p_aload_n 45 dX12_leavesBy_44 rfl rfl (by decide) ?_
    refine p_callV0i 124 48 dX12_leavesBy_45 (s_allOrders hW hE hR) lk_X12_373 mX12_allOrders rfl rfl (by decide) (Nat.le_of_ble_eq_true rfl) ?_
    rintro _ _ ⟨rfl, e9⟩
    have e9 := e9.symm
    subst e9
    refine p_icmp_gt 88 51 dX12_leavesBy_48 (by omega) (by omega) (by omega) (by omega) (fun h48 => absurd (by omega) (fun h9 : False => h9)) (fun h48 => ?_)
    refine p_iload 53 dX12_leavesBy_51 rfl ?_
    refine p_aload_n 54 dX12_leavesBy_53 rfl rfl (by decide) ?_
    refine p_iload 56 dX12_leavesBy_54 rfl ?_
    refine p_callV1i 124 59 dX12_leavesBy_56 (s_doesFit hW hE hR hR1 (S := i) (by omega)) lk_X12_379 mX12_doesFit rfl rfl (by decide) (Nat.le_of_ble_eq_true rfl) ?_
    rintro _ _ ⟨rfl, e9⟩
    have e9 := e9.symm
    subst e9
    refine p_if_eq 78 62 dX12_leavesBy_59 (by split <;> omega) (by split <;> omega) (fun h59 => ?_) (fun h59 => ?_)
    · refine p_iconst 79 dX12_leavesBy_78 ?_
      refine p_iadd 80 dX12_leavesBy_79 ?_
      refine p_istore 82 dX12_leavesBy_80 (Nat.le_of_ble_eq_true rfl) rfl rfl ?_
      dsimp only [List.set]
      refine p_iinc 85 dX12_leavesBy_82 rfl rfl rfl ?_
      dsimp only [List.set]
      refine p_goto 42 dX12_leavesBy_85 ?_
      have e := ih (i + 1) (by omega)
      first
        | (rw [q_al_step, if_neg (fun g => if_eq0 h59 g.1)] at e; exact e)
        | (rw [q_al_step, if_neg (fun g => if_eq0 h71 g.2)] at e; exact e)
        | (rw [q_al_step, if_pos ⟨if_neq0 h59, if_neq0 h71⟩] at e; exact e)
    · refine p_aload_n 63 dX12_leavesBy_62 rfl rfl (by decide) ?_
      refine p_iload 65 dX12_leavesBy_63 rfl ?_
      refine p_iload 67 dX12_leavesBy_65 rfl ?_
      refine p_iload_n 68 dX12_leavesBy_67 rfl rfl ?_
      refine p_callV3i 124 71 dX12_leavesBy_68 (s_doAlike hW hE hR hR1 (f := 59 + 19 * k + 1) (by omega) (hR.1 _ (by omega)) (hR.2.2.2.2.2.1 k hk).2.1 (A := a) (B := i) (by omega) (by omega)) lk_X12_385 mX12_doAlike rfl rfl (by decide) (Nat.le_of_ble_eq_true rfl) ?_
      rintro _ _ ⟨rfl, e9⟩
      have e9 := e9.symm
      subst e9
      refine p_if_eq 78 74 dX12_leavesBy_71 (by split <;> omega) (by split <;> omega) (fun h71 => ?_) (fun h71 => ?_)
      · refine p_iconst 79 dX12_leavesBy_78 ?_
        refine p_iadd 80 dX12_leavesBy_79 ?_
        refine p_istore 82 dX12_leavesBy_80 (Nat.le_of_ble_eq_true rfl) rfl rfl ?_
        dsimp only [List.set]
        refine p_iinc 85 dX12_leavesBy_82 rfl rfl rfl ?_
        dsimp only [List.set]
        refine p_goto 42 dX12_leavesBy_85 ?_
        have e := ih (i + 1) (by omega)
        first
          | (rw [q_al_step, if_neg (fun g => if_eq0 h59 g.1)] at e; exact e)
          | (rw [q_al_step, if_neg (fun g => if_eq0 h71 g.2)] at e; exact e)
          | (rw [q_al_step, if_pos ⟨if_neq0 h59, if_neq0 h71⟩] at e; exact e)
      · refine p_iconst 75 dX12_leavesBy_74 ?_
        refine p_goto 79 dX12_leavesBy_75 ?_
        refine p_iadd 80 dX12_leavesBy_79 ?_
        refine p_istore 82 dX12_leavesBy_80 (Nat.le_of_ble_eq_true rfl) rfl rfl ?_
        dsimp only [List.set]
        refine p_iinc 85 dX12_leavesBy_82 rfl rfl rfl ?_
        dsimp only [List.set]
        refine p_goto 42 dX12_leavesBy_85 ?_
        have e := ih (i + 1) (by omega)
        first
          | (rw [q_al_step, if_neg (fun g => if_eq0 h59 g.1)] at e; exact e)
          | (rw [q_al_step, if_neg (fun g => if_eq0 h71 g.2)] at e; exact e)
          | (rw [q_al_step, if_pos ⟨if_neq0 h59, if_neq0 h71⟩] at e; exact e)
theorem l_leavesBy {l : Launch} {X : ZX} {M : ZM} {ρ : Nat → Int} (hW : zWm M) (hE : ∀ i, i < 421 → M 127 i = ρ i) (hR : wfR ρ) (hR1 : wfR1 ρ) {k : Nat} (hk : k < 6) : ∀ (j i : Nat), i + j = 2 ^ q_n ρ 6 → ∀ o5 o6 : Option ZV, zP l X 5 tX12_leavesBy 15 [some (zr 124), some (zi (k : Int)), some (zi ((59 + 19 * k + 1 : Nat) : Int)), some (zi (q_lv ρ (q_sg ρ k) i : Int)), some (zi (i : Int)), o5, o6] [] M (fun r M' => ∃ a, r = some (zi a) ∧ (a = (q_most ρ (q_sg ρ k) : Int) ∧ M' = M)) := by
  have e6 : ρ 6 = (q_n ρ 6 : Int) := hR.n (by decide)
  have b6 := hR.2.1.2.2.2.2.2.2.1
  have e7 : ρ 7 = (q_n ρ 7 : Int) := hR.n (by decide)
  have b7 := hR.2.1.2.2.2.2.2.2.2
  have hp6 := p6 (n := q_n ρ 6) (by omega)
  have hp0 : 0 < 2 ^ q_n ρ 6 := Nat.two_pow_pos _
  intro j
  induction j with
  | zero =>
    intro i hi o5 o6
    refine p_iload 17 dX12_leavesBy_15 rfl ?_
    refine p_aload_n 18 dX12_leavesBy_17 rfl rfl (by decide) ?_
    refine p_callV0i 124 21 dX12_leavesBy_18 (s_allOrders hW hE hR) lk_X12_373 mX12_allOrders rfl rfl (by decide) (Nat.le_of_ble_eq_true rfl) ?_
    rintro _ _ ⟨rfl, e9⟩
    have e9 := e9.symm
    subst e9
    refine p_icmp_gt 107 24 dX12_leavesBy_21 (by omega) (by omega) (by omega) (by omega) (fun h21 => ?_) (fun h21 => absurd (by omega) (fun h9 : False => h9))
    refine p_iload_n 108 dX12_leavesBy_107 rfl rfl ?_
    refine p_iret dX12_leavesBy_108 rfl ?_
    rw [Nat.add_zero] at hi
    subst hi
    exact ⟨_, rfl, by rw [q_lv_most hR hR1], rfl⟩
  | succ j ih =>
    intro i hi o5 o6
    have hl0 := q_lv_le ρ (q_sg ρ k) i
    have ha0 := q_al_le ρ (q_sg ρ k) i (2 ^ q_n ρ 6)
    refine p_iload 17 dX12_leavesBy_15 rfl ?_
    refine p_aload_n 18 dX12_leavesBy_17 rfl rfl (by decide) ?_
    refine p_callV0i 124 21 dX12_leavesBy_18 (s_allOrders hW hE hR) lk_X12_373 mX12_allOrders rfl rfl (by decide) (Nat.le_of_ble_eq_true rfl) ?_
    rintro _ _ ⟨rfl, e9⟩
    have e9 := e9.symm
    subst e9
    refine p_icmp_gt 107 24 dX12_leavesBy_21 (by omega) (by omega) (by omega) (by omega) (fun h21 => absurd (by omega) (fun h9 : False => h9)) (fun h21 => ?_)
    refine p_aload_n 25 dX12_leavesBy_24 rfl rfl (by decide) ?_
    refine p_iload 27 dX12_leavesBy_25 rfl ?_
    refine p_callV1i 124 30 dX12_leavesBy_27 (s_doesFit hW hE hR hR1 (S := i) (by omega)) lk_X12_379 mX12_doesFit rfl rfl (by decide) (Nat.le_of_ble_eq_true rfl) ?_
    rintro _ _ ⟨rfl, e9⟩
    have e9 := e9.symm
    subst e9
    refine p_if_ne 36 33 dX12_leavesBy_30 (by split <;> omega) (by split <;> omega) (fun h30 => ?_) (fun h30 => ?_)
    · have hyes : q_fit ρ i = true := if_ne0 h30
      refine p_iconst 37 dX12_leavesBy_36 ?_
      refine p_istore 39 dX12_leavesBy_37 (Nat.le_of_ble_eq_true rfl) rfl rfl ?_
      dsimp only [List.set]
      refine p_iconst 40 dX12_leavesBy_39 ?_
      refine p_istore 42 dX12_leavesBy_40 (Nat.le_of_ble_eq_true rfl) rfl rfl ?_
      dsimp only [List.set]
      refine l_leavesI (l := l) (X := X) hW hE hR hR1 hk (a := i) (by omega) ?_ (2 ^ q_n ρ 6) 0 (Nat.zero_add _)
      refine p_iload 90 dX12_leavesBy_88 rfl ?_
      refine p_iload_n 91 dX12_leavesBy_90 rfl rfl ?_
      refine p_icmp_le 99 94 dX12_leavesBy_91 (by omega) (by omega) (by omega) (by omega) (fun h91 => ?_) (fun h91 => ?_)
      · refine p_iload_n 100 dX12_leavesBy_99 rfl rfl ?_
        refine p_istore_n 101 dX12_leavesBy_100 rfl (Nat.le_of_ble_eq_true rfl) rfl rfl ?_
        dsimp only [List.set]
        refine p_iinc 104 dX12_leavesBy_101 rfl rfl rfl ?_
        dsimp only [List.set]
        refine p_goto 15 dX12_leavesBy_104 ?_
        have e := ih (i + 1) (by omega) (some (zi (q_al ρ (q_sg ρ k) i (2 ^ q_n ρ 6) : Int))) (some (zi ((2 ^ q_n ρ 6 : Nat) : Int)))
        have er : q_lv ρ (q_sg ρ k) (i + 1) = max (q_lv ρ (q_sg ρ k) i) (q_al ρ (q_sg ρ k) i (2 ^ q_n ρ 6)) := q_max_pos hyes
        rw [er] at e
        first
          | (rw [Nat.max_eq_left (by omega)] at e; exact e)
          | (rw [Nat.max_eq_right (by omega)] at e; exact e)
      · refine p_iload 96 dX12_leavesBy_94 rfl ?_
        refine p_goto 100 dX12_leavesBy_96 ?_
        refine p_istore_n 101 dX12_leavesBy_100 rfl (Nat.le_of_ble_eq_true rfl) rfl rfl ?_
        dsimp only [List.set]
        refine p_iinc 104 dX12_leavesBy_101 rfl rfl rfl ?_
        dsimp only [List.set]
        refine p_goto 15 dX12_leavesBy_104 ?_
        have e := ih (i + 1) (by omega) (some (zi (q_al ρ (q_sg ρ k) i (2 ^ q_n ρ 6) : Int))) (some (zi ((2 ^ q_n ρ 6 : Nat) : Int)))
        have er : q_lv ρ (q_sg ρ k) (i + 1) = max (q_lv ρ (q_sg ρ k) i) (q_al ρ (q_sg ρ k) i (2 ^ q_n ρ 6)) := q_max_pos hyes
        rw [er] at e
        first
          | (rw [Nat.max_eq_left (by omega)] at e; exact e)
          | (rw [Nat.max_eq_right (by omega)] at e; exact e)
    · have hno : ¬ q_fit ρ i = true := if_nne0 h30
      refine p_goto 101 dX12_leavesBy_33 ?_
      refine p_iinc 104 dX12_leavesBy_101 rfl rfl rfl ?_
      dsimp only [List.set]
      refine p_goto 15 dX12_leavesBy_104 ?_
      have e := ih (i + 1) (by omega) o5 o6
      have er : q_lv ρ (q_sg ρ k) (i + 1) = q_lv ρ (q_sg ρ k) i := q_max_neg hno
      rw [er] at e
      exact e
theorem s_leavesBy {l : Launch} {X : ZX} {M : ZM} {ρ : Nat → Int} (hW : zWm M) (hE : ∀ i, i < 421 → M 127 i = ρ i) (hR : wfR ρ) (hR1 : wfR1 ρ) {k : Nat} (hk : k < 6) : zCi l X 5 yX12_leavesBy tX12_leavesBy [zr 124, zi (k : Int)] M (fun a M' => a = (q_most ρ (q_sg ρ k) : Int) ∧ M' = M) := by
  refine zC.of [some (zr 124), some (zi (k : Int)), none, none, none, none, none] (by decide +kernel) rfl rfl (Nat.le_of_ble_eq_true rfl) rfl ?_
  refine p_bipush 2 dX12_leavesBy_0 rfl ?_
  refine p_bipush 4 dX12_leavesBy_2 rfl ?_
  refine p_iload_n 5 dX12_leavesBy_4 rfl rfl ?_
  refine p_imul 6 dX12_leavesBy_5 ?_
  refine p_iadd 7 dX12_leavesBy_6 ?_
  refine p_iconst 8 dX12_leavesBy_7 ?_
  refine p_iadd 9 dX12_leavesBy_8 ?_
  rw [show (59 : Int) + 19 * (k : Int) + 1 = ((59 + 19 * k + 1 : Nat) : Int) by omega]
  refine p_istore_n 10 dX12_leavesBy_9 rfl (Nat.le_of_ble_eq_true rfl) rfl rfl ?_
  dsimp only [List.set]
  refine p_iconst 11 dX12_leavesBy_10 ?_
  refine p_istore_n 12 dX12_leavesBy_11 rfl (Nat.le_of_ble_eq_true rfl) rfl rfl ?_
  dsimp only [List.set]
  refine p_iconst 13 dX12_leavesBy_12 ?_
  refine p_istore 15 dX12_leavesBy_13 (Nat.le_of_ble_eq_true rfl) rfl rfl ?_
  dsimp only [List.set]
  exact l_leavesBy hW hE hR hR1 hk (2 ^ q_n ρ 6) 0 (Nat.zero_add _) none none
theorem q_ask_neg (ρ : Nat → Int) : ∀ i, (q_ask ρ i).1 < 0 ↔ (q_ask ρ i).1 = -2 := by
  intro i
  induction i with
  | zero => exact ⟨fun _ => rfl, fun _ => by show (-2 : Int) < 0; decide⟩
  | succ i ih =>
    have ea : q_ask ρ (i + 1) = if q_new ρ i = true ∧ ((q_ask ρ i).1 = -2 ∨ (q_most ρ (q_sg ρ i) : Int) < (q_ask ρ i).2) then ((i : Int), (q_most ρ (q_sg ρ i) : Int)) else q_ask ρ i := rfl
    rw [ea]
    split
    · show (i : Int) < 0 ↔ (i : Int) = -2
      omega
    · exact ih
theorem l_askOf {l : Launch} {X : ZX} {M : ZM} {ρ : Nat → Int} {N : ZM} (hW : zWm N) (hE : ∀ i, i < 421 → N 127 i = ρ i) (hR : wfR ρ) (hR1 : wfR1 ρ) (hft : N 124 30 = (q_fits ρ : Int)) (hf1 : q_fits ρ ≠ 0) : ∀ (j i : Nat), i + j = q_n ρ 6 → ∀ {M : ZM} (o3 : Option ZV), (∀ a, a ≠ 124 → M a = N a) → (∀ k, k ≠ 33 → M 124 k = N 124 k) → M 124 33 = (q_ask ρ i).2 → zP l X 6 tX12_askOf 15 [some (zr 124), some (zi (q_ask ρ i).1), some (zi (i : Int)), o3] [] M (fun r M' => r = some (zi (q_asked ρ).1) ∧ (∀ a, a ≠ 124 → M' a = N a) ∧ (∀ k, k ≠ 33 → M' 124 k = N 124 k) ∧ M' 124 33 = (q_asked ρ).2) := by
  have e6 : ρ 6 = (q_n ρ 6 : Int) := hR.n (by decide)
  have b6 := hR.2.1.2.2.2.2.2.2.1
  have e7 : ρ 7 = (q_n ρ 7 : Int) := hR.n (by decide)
  have b7 := hR.2.1.2.2.2.2.2.2.2
  have hp6 := p6 (n := q_n ρ 6) (by omega)
  have hp0 : 0 < 2 ^ q_n ρ 6 := Nat.two_pow_pos _
  have hfl : q_fits ρ ≤ 2 ^ q_n ρ 6 := q_cntp_le _ _
  intro j
  induction j with
  | zero =>
    intro i hi M o3 hM hM2 k33
    have hW9 : zWm M := hW.hid (fun a b g1 g2 g3 => by
      by_cases e : a = 124
      · subst e
        exact hM2 b (fun e => by subst e; revert g1; decide)
      · exact congrFun (hM a e) b)
    have hE9 : ∀ i, i < 421 → M 127 i = ρ i := fun i hi => by rw [hM 127 (by decide)]; exact hE i hi
    have k30 : M 124 30 = (q_fits ρ : Int) := by rw [hM2 30 (by decide)]; exact hft
    refine p_iload_n 16 dX12_askOf_15 rfl rfl ?_
    refine p_aload_n 17 dX12_askOf_16 rfl rfl (by decide) ?_
    refine p_getR 124 20 dX12_askOf_17 fX12_20 rfl (hW9 (124, 15, 127) (by decide)) ?_
    refine p_bipush 22 dX12_askOf_20 rfl ?_
    refine p_ialdn 127 23 (6) dX12_askOf_22 rfl (by omega) (by omega) ?_
    rw [hE9 6 (by decide)]
    refine p_icmp_ge 87 26 dX12_askOf_23 (by omega) (by omega) (by omega) (by omega) (fun h23 => ?_) (fun h23 => absurd (by omega) (fun h9 : False => h9))
    refine p_iload_n 88 dX12_askOf_87 rfl rfl ?_
    refine p_iret dX12_askOf_88 rfl ?_
    rw [Nat.add_zero] at hi
    subst hi
    unfold q_asked
    rw [if_neg hf1]
    exact ⟨rfl, hM, hM2, k33⟩
  | succ j ih =>
    intro i hi M o3 hM hM2 k33
    have hW9 : zWm M := hW.hid (fun a b g1 g2 g3 => by
      by_cases e : a = 124
      · subst e
        exact hM2 b (fun e => by subst e; revert g1; decide)
      · exact congrFun (hM a e) b)
    have hE9 : ∀ i, i < 421 → M 127 i = ρ i := fun i hi => by rw [hM 127 (by decide)]; exact hE i hi
    have k30 : M 124 30 = (q_fits ρ : Int) := by rw [hM2 30 (by decide)]; exact hft
    have hab := q_ask_bd (ρ := ρ) (by omega) i (by omega)
    have hneg : (q_ask ρ i).1 < 0 ↔ (q_ask ρ i).1 = -2 := q_ask_neg ρ i
    have hml := q_most_le ρ (q_sg ρ i)
    have ea : q_ask ρ (i + 1) = if q_new ρ i = true ∧ ((q_ask ρ i).1 = -2 ∨ (q_most ρ (q_sg ρ i) : Int) < (q_ask ρ i).2) then ((i : Int), (q_most ρ (q_sg ρ i) : Int)) else q_ask ρ i := rfl
    refine p_iload_n 16 dX12_askOf_15 rfl rfl ?_
    refine p_aload_n 17 dX12_askOf_16 rfl rfl (by decide) ?_
    refine p_getR 124 20 dX12_askOf_17 fX12_20 rfl (hW9 (124, 15, 127) (by decide)) ?_
    refine p_bipush 22 dX12_askOf_20 rfl ?_
    refine p_ialdn 127 23 (6) dX12_askOf_22 rfl (by omega) (by omega) ?_
    rw [hE9 6 (by decide)]
    refine p_icmp_ge 87 26 dX12_askOf_23 (by omega) (by omega) (by omega) (by omega) (fun h23 => absurd (by omega) (fun h9 : False => h9)) (fun h23 => ?_)
    refine p_aload_n 27 dX12_askOf_26 rfl rfl (by decide) ?_
    refine p_getI 124 30 dX12_askOf_27 fX12_367 rfl ?_
    rw [k30]
    refine p_if_le 87 33 dX12_askOf_30 (by omega) (by omega) (fun h30 => absurd (by omega) (fun h9 : False => h9)) (fun h30 => ?_)
    refine p_aload_n 34 dX12_askOf_33 rfl rfl (by decide) ?_
    refine p_iload_n 35 dX12_askOf_34 rfl rfl ?_
    refine p_callV1i 124 38 dX12_askOf_35 (s_wasSeenM hW9 hE9 hR (k := i) (by omega)) lk_X12_391 mX12_wasSeen rfl rfl (by decide) (Nat.le_of_ble_eq_true rfl) ?_
    rintro _ _ ⟨rfl, e9⟩
    have e9 := e9.symm
    subst e9
    refine p_if_ne 81 41 dX12_askOf_38 (by split <;> omega) (by split <;> omega) (fun h38 => ?_) (fun h38 => ?_)
    · have hno : ¬ q_new ρ i = true := by
        unfold q_new
        by_cases g : q_all (fun n => decide (q_ss ρ n ≠ q_sg ρ i)) (q_n ρ 7) = true
        · rw [if_pos g] at h38; exact absurd rfl h38
        · rw [Bool.eq_false_iff.mpr g, Bool.and_false]; decide
      refine p_iinc 84 dX12_askOf_81 rfl rfl rfl ?_
      dsimp only [List.set]
      refine p_goto 15 dX12_askOf_84 ?_
      first
        | (have e := ih (i + 1) (by omega) o3 hM hM2 (by rw [ea, if_neg (fun g => hno g.1)]; exact k33)
           rw [ea, if_neg (fun g => hno g.1)] at e
           exact e)
        | (have e := ih (i + 1) (by omega) (M := zset M 124 33 (q_most ρ (q_sg ρ i) : Int)) (some (zi (q_most ρ (q_sg ρ i) : Int))) (fun a g1 => by rw [zset_ne _ g1]; exact hM a g1) (fun k g1 => by rw [zset_k g1]; exact hM2 k g1) (by rw [ea, if_pos ⟨hyes, by omega⟩, zset_at])
           rw [ea, if_pos ⟨hyes, by omega⟩] at e
           exact e)
        | (have e := ih (i + 1) (by omega) (some (zi (q_most ρ (q_sg ρ i) : Int))) hM hM2 (by rw [ea, if_neg (fun g => by have := g.2; omega)]; exact k33)
           rw [ea, if_neg (fun g => by have := g.2; omega)] at e
           exact e)
    · have hsn : q_all (fun n => decide (q_ss ρ n ≠ q_sg ρ i)) (q_n ρ 7) = true := by
        by_cases g : q_all (fun n => decide (q_ss ρ n ≠ q_sg ρ i)) (q_n ρ 7) = true
        · exact g
        · rw [if_neg g] at h38; exact absurd (by decide) h38
      refine p_aload_n 42 dX12_askOf_41 rfl rfl (by decide) ?_
      refine p_iload_n 43 dX12_askOf_42 rfl rfl ?_
      refine p_callV1i 124 46 dX12_askOf_43 (s_firstOf hW9 hE9 hR (k := i) (by omega)) lk_X12_394 mX12_firstOf rfl rfl (by decide) (Nat.le_of_ble_eq_true rfl) ?_
      rintro _ _ ⟨⟨fv, rfl, hfv1, hfv2⟩, e9⟩
      have e9 := e9.symm
      subst e9
      refine p_iload_n 47 dX12_askOf_46 rfl rfl ?_
      refine p_icmp_eq 53 50 dX12_askOf_47 (by omega) (by omega) (by omega) (by omega) (fun h47 => ?_) (fun h47 => ?_)
      · have hyes : q_new ρ i = true := by
          unfold q_new
          rw [hsn, hfv2.mp (by omega)]
          rfl
        refine p_aload_n 54 dX12_askOf_53 rfl rfl (by decide) ?_
        refine p_iload_n 55 dX12_askOf_54 rfl rfl ?_
        refine p_callV1i 124 58 dX12_askOf_55 (s_leavesBy hW9 hE9 hR hR1 (k := i) (by omega)) lk_X12_397 mX12_leavesBy rfl rfl (by decide) (Nat.le_of_ble_eq_true rfl) ?_
        rintro _ _ ⟨rfl, e9⟩
        have e9 := e9.symm
        subst e9
        refine p_istore_n 59 dX12_askOf_58 rfl (Nat.le_of_ble_eq_true rfl) rfl rfl ?_
        dsimp only [List.set]
        refine p_iload_n 60 dX12_askOf_59 rfl rfl ?_
        refine p_if_lt 74 63 dX12_askOf_60 (by omega) (by omega) (fun h60 => ?_) (fun h60 => ?_)
        · refine p_iload_n 75 dX12_askOf_74 rfl rfl ?_
          refine p_istore_n 76 dX12_askOf_75 rfl (Nat.le_of_ble_eq_true rfl) rfl rfl ?_
          dsimp only [List.set]
          refine p_aload_n 77 dX12_askOf_76 rfl rfl (by decide) ?_
          refine p_iload_n 78 dX12_askOf_77 rfl rfl ?_
          refine p_putI 124 81 dX12_askOf_78 wX12_388 rfl ?_
          refine p_iinc 84 dX12_askOf_81 rfl rfl rfl ?_
          dsimp only [List.set]
          refine p_goto 15 dX12_askOf_84 ?_
          first
            | (have e := ih (i + 1) (by omega) o3 hM hM2 (by rw [ea, if_neg (fun g => hno g.1)]; exact k33)
               rw [ea, if_neg (fun g => hno g.1)] at e
               exact e)
            | (have e := ih (i + 1) (by omega) (M := zset M 124 33 (q_most ρ (q_sg ρ i) : Int)) (some (zi (q_most ρ (q_sg ρ i) : Int))) (fun a g1 => by rw [zset_ne _ g1]; exact hM a g1) (fun k g1 => by rw [zset_k g1]; exact hM2 k g1) (by rw [ea, if_pos ⟨hyes, by omega⟩, zset_at])
               rw [ea, if_pos ⟨hyes, by omega⟩] at e
               exact e)
            | (have e := ih (i + 1) (by omega) (some (zi (q_most ρ (q_sg ρ i) : Int))) hM hM2 (by rw [ea, if_neg (fun g => by have := g.2; omega)]; exact k33)
               rw [ea, if_neg (fun g => by have := g.2; omega)] at e
               exact e)
        · refine p_iload_n 64 dX12_askOf_63 rfl rfl ?_
          refine p_aload_n 65 dX12_askOf_64 rfl rfl (by decide) ?_
          refine p_getI 124 68 dX12_askOf_65 fX12_388 rfl ?_
          rw [k33]
          refine p_icmp_lt 74 71 dX12_askOf_68 (by omega) (by omega) (by omega) (by omega) (fun h68 => ?_) (fun h68 => ?_)
          · refine p_iload_n 75 dX12_askOf_74 rfl rfl ?_
            refine p_istore_n 76 dX12_askOf_75 rfl (Nat.le_of_ble_eq_true rfl) rfl rfl ?_
            dsimp only [List.set]
            refine p_aload_n 77 dX12_askOf_76 rfl rfl (by decide) ?_
            refine p_iload_n 78 dX12_askOf_77 rfl rfl ?_
            refine p_putI 124 81 dX12_askOf_78 wX12_388 rfl ?_
            refine p_iinc 84 dX12_askOf_81 rfl rfl rfl ?_
            dsimp only [List.set]
            refine p_goto 15 dX12_askOf_84 ?_
            first
              | (have e := ih (i + 1) (by omega) o3 hM hM2 (by rw [ea, if_neg (fun g => hno g.1)]; exact k33)
                 rw [ea, if_neg (fun g => hno g.1)] at e
                 exact e)
              | (have e := ih (i + 1) (by omega) (M := zset M 124 33 (q_most ρ (q_sg ρ i) : Int)) (some (zi (q_most ρ (q_sg ρ i) : Int))) (fun a g1 => by rw [zset_ne _ g1]; exact hM a g1) (fun k g1 => by rw [zset_k g1]; exact hM2 k g1) (by rw [ea, if_pos ⟨hyes, by omega⟩, zset_at])
                 rw [ea, if_pos ⟨hyes, by omega⟩] at e
                 exact e)
              | (have e := ih (i + 1) (by omega) (some (zi (q_most ρ (q_sg ρ i) : Int))) hM hM2 (by rw [ea, if_neg (fun g => by have := g.2; omega)]; exact k33)
                 rw [ea, if_neg (fun g => by have := g.2; omega)] at e
                 exact e)
          · refine p_goto 81 dX12_askOf_71 ?_
            refine p_iinc 84 dX12_askOf_81 rfl rfl rfl ?_
            dsimp only [List.set]
            refine p_goto 15 dX12_askOf_84 ?_
            first
              | (have e := ih (i + 1) (by omega) o3 hM hM2 (by rw [ea, if_neg (fun g => hno g.1)]; exact k33)
                 rw [ea, if_neg (fun g => hno g.1)] at e
                 exact e)
              | (have e := ih (i + 1) (by omega) (M := zset M 124 33 (q_most ρ (q_sg ρ i) : Int)) (some (zi (q_most ρ (q_sg ρ i) : Int))) (fun a g1 => by rw [zset_ne _ g1]; exact hM a g1) (fun k g1 => by rw [zset_k g1]; exact hM2 k g1) (by rw [ea, if_pos ⟨hyes, by omega⟩, zset_at])
                 rw [ea, if_pos ⟨hyes, by omega⟩] at e
                 exact e)
              | (have e := ih (i + 1) (by omega) (some (zi (q_most ρ (q_sg ρ i) : Int))) hM hM2 (by rw [ea, if_neg (fun g => by have := g.2; omega)]; exact k33)
                 rw [ea, if_neg (fun g => by have := g.2; omega)] at e
                 exact e)
      · have hno : ¬ q_new ρ i = true := by
          unfold q_new
          rw [show q_all (fun p => decide (q_sg ρ p ≠ q_sg ρ i)) i = false from Bool.eq_false_iff.mpr (fun g => by have := hfv2.mpr g; omega)]
          simp
        refine p_goto 81 dX12_askOf_50 ?_
        refine p_iinc 84 dX12_askOf_81 rfl rfl rfl ?_
        dsimp only [List.set]
        refine p_goto 15 dX12_askOf_84 ?_
        first
          | (have e := ih (i + 1) (by omega) o3 hM hM2 (by rw [ea, if_neg (fun g => hno g.1)]; exact k33)
             rw [ea, if_neg (fun g => hno g.1)] at e
             exact e)
          | (have e := ih (i + 1) (by omega) (M := zset M 124 33 (q_most ρ (q_sg ρ i) : Int)) (some (zi (q_most ρ (q_sg ρ i) : Int))) (fun a g1 => by rw [zset_ne _ g1]; exact hM a g1) (fun k g1 => by rw [zset_k g1]; exact hM2 k g1) (by rw [ea, if_pos ⟨hyes, by omega⟩, zset_at])
             rw [ea, if_pos ⟨hyes, by omega⟩] at e
             exact e)
          | (have e := ih (i + 1) (by omega) (some (zi (q_most ρ (q_sg ρ i) : Int))) hM hM2 (by rw [ea, if_neg (fun g => by have := g.2; omega)]; exact k33)
             rw [ea, if_neg (fun g => by have := g.2; omega)] at e
             exact e)
theorem s_askOf {l : Launch} {X : ZX} {M : ZM} {ρ : Nat → Int} (hW : zWm M) (hE : ∀ i, i < 421 → M 127 i = ρ i) (hR : wfR ρ) (hR1 : wfR1 ρ) : zCi l X 6 yX12_askOf tX12_askOf [zr 124] M (fun a M' => a = (q_asked ρ).1 ∧ Hid M M' ∧ M' 124 11 = M 124 11 ∧ M' 124 33 = (q_asked ρ).2) := by
  have e6 : ρ 6 = (q_n ρ 6 : Int) := hR.n (by decide)
  have b6 := hR.2.1.2.2.2.2.2.2.1
  have e7 : ρ 7 = (q_n ρ 7 : Int) := hR.n (by decide)
  have b7 := hR.2.1.2.2.2.2.2.2.2
  have hp6 := p6 (n := q_n ρ 6) (by omega)
  have hp0 : 0 < 2 ^ q_n ρ 6 := Nat.two_pow_pos _
  refine zC.of [some (zr 124), none, none, none] (by decide +kernel) rfl rfl (Nat.le_of_ble_eq_true rfl) rfl ?_
  refine p_aload_n 1 dX12_askOf_0 rfl rfl (by decide) ?_
  refine p_callV0v 124 4 dX12_askOf_1 (s_seekFits hW hE hR hR1) lk_X12_382 mX12_seekFits rfl rfl (by decide) (Nat.le_of_ble_eq_true rfl) ?_
  intro M9 h9
  have hh9 := h9.hid
  obtain ⟨f1, f2, f3, f4, f5⟩ := h9
  have hW9 : zWm M9 := hh9.wm hW
  have hE9 : ∀ i, i < 421 → M9 127 i = ρ i := fun i hi => by rw [f1 127 (by decide)]; exact hE i hi
  have hW8 : zWm (zset M9 124 33 (-2)) := hW9.set (by decide +kernel)
  have hE8 : ∀ i, i < 421 → zset M9 124 33 (-2) 127 i = ρ i := fun i hi => by rw [zset_ne _ (by decide)]; exact hE9 i hi
  have hH8 : Hid M (zset M9 124 33 (-2)) := hid_zset hh9 (by decide)
  refine p_bipush 6 dX12_askOf_4 rfl ?_
  refine p_istore_n 7 dX12_askOf_6 rfl (Nat.le_of_ble_eq_true rfl) rfl rfl ?_
  dsimp only [List.set]
  refine p_aload_n 8 dX12_askOf_7 rfl rfl (by decide) ?_
  refine p_bipush 10 dX12_askOf_8 rfl ?_
  refine p_putI 124 13 dX12_askOf_10 wX12_388 rfl ?_
  refine p_iconst 14 dX12_askOf_13 ?_
  refine p_istore_n 15 dX12_askOf_14 rfl (Nat.le_of_ble_eq_true rfl) rfl rfl ?_
  dsimp only [List.set]
  by_cases hf1 : q_fits ρ ≠ 0
  · refine (l_askOf (l := l) (X := X) (M := M) hW8 hE8 hR hR1 (by rw [zset_k (by decide)]; exact f3) hf1 (q_n ρ 6) 0 (Nat.zero_add _) none (fun _ _ => rfl) (fun _ _ => rfl) rfl).mono (fun r M7 h7 => ?_)
    obtain ⟨g0, g1, g2, g3⟩ := h7
    refine ⟨_, g0, rfl, hH8.trans ⟨fun a b ha => by rw [g1 a (by omega)], fun a b k1 k2 k3 => ?_⟩, ?_, g3⟩
    · by_cases e : a = 124
      · subst e
        exact g2 b (fun e => by subst e; revert k1; decide)
      · rw [g1 a e]
    · rw [g2 11 (by decide), zset_k (by decide), f2 11 (by decide) (by decide) (by decide)]
  · refine p_iload_n 16 dX12_askOf_15 rfl rfl ?_
    refine p_aload_n 17 dX12_askOf_16 rfl rfl (by decide) ?_
    refine p_getR 124 20 dX12_askOf_17 fX12_20 rfl (hW8 (124, 15, 127) (by decide)) ?_
    refine p_bipush 22 dX12_askOf_20 rfl ?_
    refine p_ialdn 127 23 (6) dX12_askOf_22 rfl (by omega) (by omega) ?_
    rw [hE8 6 (by decide)]
    refine p_icmp_ge 87 26 dX12_askOf_23 (by omega) (by omega) (by omega) (by omega) (fun h23 => ?_) (fun h23 => ?_)
    · refine p_iload_n 88 dX12_askOf_87 rfl rfl ?_
      refine p_iret dX12_askOf_88 rfl ?_
      refine ⟨_, rfl, ?_, hH8, ?_, ?_⟩
      · unfold q_asked; rw [if_pos (by omega)]
      · rw [zset_k (by decide), f2 11 (by decide) (by decide) (by decide)]
      · unfold q_asked; rw [if_pos (by omega), zset_at]
    · refine p_aload_n 27 dX12_askOf_26 rfl rfl (by decide) ?_
      refine p_getI 124 30 dX12_askOf_27 fX12_367 rfl ?_
      rw [zset_k (by decide), f3]
      refine p_if_le 87 33 dX12_askOf_30 (by omega) (by omega) (fun h30 => ?_) (fun h30 => absurd (by omega) (fun h9 : False => h9))
      refine p_iload_n 88 dX12_askOf_87 rfl rfl ?_
      refine p_iret dX12_askOf_88 rfl ?_
      refine ⟨_, rfl, ?_, hH8, ?_, ?_⟩
      · unfold q_asked; rw [if_pos (by omega)]
      · rw [zset_k (by decide), f2 11 (by decide) (by decide) (by decide)]
      · unfold q_asked; rw [if_pos (by omega), zset_at]
