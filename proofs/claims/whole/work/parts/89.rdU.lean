/-! THE READER, the model's: a word is laid -/
def q_layk (t : Nat → Int) (n p : Nat) (ρ : Nat → Int) (f k : Nat) : Nat → Int := fun j => if f + 1 ≤ j ∧ j < f + 1 + k then t (q_at t n p + (j - (f + 1))) else if j = f then (q_ln t n p : Int) else ρ j
theorem q_layk_up (t : Nat → Int) (n p : Nat) (ρ : Nat → Int) (f k i : Nat) : q_layk t n p ρ f (k + 1) i = q_up (q_layk t n p ρ f k) (f + 1 + k) (t (q_at t n p + k)) i := by
  unfold q_layk q_up
  by_cases h : i = f + 1 + k
  · subst h
    rw [if_pos (by omega), if_pos rfl, show f + 1 + k - (f + 1) = k by omega]
  · rw [if_neg h]
    dsimp only
    by_cases g : f + 1 ≤ i ∧ i < f + 1 + k
    · rw [if_pos g, if_pos (by omega)]
    · rw [if_neg g, if_neg (by omega)]
theorem q_layk_0 (t : Nat → Int) (n p : Nat) (ρ : Nat → Int) (f i : Nat) : q_layk t n p ρ f 0 i = q_up ρ f (q_ln t n p : Int) i := by
  unfold q_layk q_up
  rw [if_neg (by omega)]
def q_nmk (t : Nat → Int) (n p : Nat) (ρ : Nat → Int) (m k : Nat) : Nat → Int := fun j => if 285 + 8 * m ≤ j ∧ j < 285 + 8 * m + k then t (q_at t n p + (j - (285 + 8 * m))) else ρ j
theorem q_nmk_up (t : Nat → Int) (n p : Nat) (ρ : Nat → Int) (m k i : Nat) : q_nmk t n p ρ m (k + 1) i = q_up (q_nmk t n p ρ m k) (285 + 8 * m + k) (t (q_at t n p + k)) i := by
  unfold q_nmk q_up
  by_cases h : i = 285 + 8 * m + k
  · subst h
    rw [if_pos (by omega), if_pos rfl, show 285 + 8 * m + k - (285 + 8 * m) = k by omega]
  · rw [if_neg h]
    dsimp only
    by_cases g : 285 + 8 * m ≤ i ∧ i < 285 + 8 * m + k
    · rw [if_pos g, if_pos (by omega)]
    · rw [if_neg g, if_neg (by omega)]
theorem q_nmk_all {t : Nat → Int} {n p : Nat} {ρ : Nat → Int} {m : Nat} (hm : m < 17) (i : Nat) : q_nm t n p ρ m i = q_up (q_nmk t n p ρ m (q_ln t n p)) (268 + m) (q_ln t n p : Int) i := by
  unfold q_nm q_nmk q_up
  by_cases h : i = 268 + m
  · subst h
    rw [if_neg (by omega), if_pos rfl, if_pos rfl]
  · rw [if_neg h, if_neg h]
theorem q_nmk_0 (t : Nat → Int) (n p : Nat) (ρ : Nat → Int) (m i : Nat) : q_nmk t n p ρ m 0 i = ρ i := by
  unfold q_nmk
  rw [if_neg (by omega)]
theorem l_laysL {l : Launch} {X : ZX} {M : ZM} {t : Nat → Int} {n p : Nat} {ρ : Nat → Int} {N : ZM} (hn : n ≤ 900) (ht : ∀ i, i < n → 0 ≤ t i ∧ t i < 256) (hp : p ≤ n) (hk2 : q_tk t n p = 2) {f : Nat} (hf : f + 9 ≤ 421) : ∀ (j k : Nat), k + j = q_ln t n p → ∀ M : ZM, MS t n p (q_layk t n p ρ f k) N M → zP l X 1 tX12_lays 44 [some (zr 124), some (zi (f : Int)), some (zi (k : Int))] [] M (fun r M' => r = none ∧ MS t n p (q_lay t n p ρ f) N M') := by
  obtain ⟨w1, w2, w3, w4, w5⟩ := q_tk_word hp hk2
  intro j
  induction j with
  | zero =>
    intro k hk M hS
    obtain ⟨hB, hT, hf0, hr, hfa, hfk⟩ := id hS
    obtain ⟨t4, t5, t6, t8, t7⟩ := id hT
    refine p_iload_n 45 dX12_lays_44 rfl rfl ?_
    refine p_aload_n 46 dX12_lays_45 rfl rfl (by decide) ?_
    refine p_getI 124 49 dX12_lays_46 fX12_75 rfl ?_
    rw [(t8 hk2).1]
    refine p_icmp_ge 74 52 dX12_lays_49 (by omega) (by omega) (by omega) (by omega) (fun h49 => ?_) (fun h49 => absurd (by omega) (fun h9 : False => h9))
    refine p_vret dX12_lays_74 rfl ?_
    rw [Nat.add_zero] at hk
    subst hk
    exact ⟨rfl, hS⟩
  | succ j ih =>
    intro k hk M hS
    obtain ⟨hB, hT, hf0, hr, hfa, hfk⟩ := id hS
    obtain ⟨t4, t5, t6, t8, t7⟩ := id hT
    refine p_iload_n 45 dX12_lays_44 rfl rfl ?_
    refine p_aload_n 46 dX12_lays_45 rfl rfl (by decide) ?_
    refine p_getI 124 49 dX12_lays_46 fX12_75 rfl ?_
    rw [(t8 hk2).1]
    refine p_icmp_ge 74 52 dX12_lays_49 (by omega) (by omega) (by omega) (by omega) (fun h49 => absurd (by omega) (fun h9 : False => h9)) (fun h49 => ?_)
    refine p_aload_n 53 dX12_lays_52 rfl rfl (by decide) ?_
    refine p_getR 124 56 dX12_lays_53 fX12_23 rfl (hB.1 (124, 16, 128) (by decide)) ?_
    refine p_iload_n 57 dX12_lays_56 rfl rfl ?_
    refine p_iconst 58 dX12_lays_57 ?_
    refine p_iadd 59 dX12_lays_58 ?_
    refine p_iload_n 60 dX12_lays_59 rfl rfl ?_
    refine p_iadd 61 dX12_lays_60 ?_
    refine p_aload_n 62 dX12_lays_61 rfl rfl (by decide) ?_
    refine p_getR 124 65 dX12_lays_62 fX12_17 rfl (hB.1 (124, 12, 126) (by decide)) ?_
    refine p_iload_n 66 dX12_lays_65 rfl rfl ?_
    refine p_ialdn 126 67 (k) dX12_lays_66 rfl (by omega) (by omega) ?_
    rw [(t8 hk2).2 k (by omega)]
    refine p_iastn 128 68 (f + 1 + k) dX12_lays_67 rfl (by omega) (by omega) ?_
    refine p_iinc 71 dX12_lays_68 rfl rfl rfl ?_
    dsimp only [List.set]
    refine p_goto 44 dX12_lays_71 ?_
    exact ih (k + 1) (by omega) _ (hS.put.row (fun i _ => q_layk_up t n p ρ f k i))
theorem s_laysS {l : Launch} {X : ZX} {M : ZM} {t : Nat → Int} {n p : Nat} {ρ : Nat → Int} {N : ZM} (hn : n ≤ 900) (ht : ∀ i, i < n → 0 ≤ t i ∧ t i < 256) (hp : p ≤ n) (hS : MS t n p ρ N M) {f : Nat} (hf : f + 9 ≤ 421) : zCv l X 1 yX12_lays tX12_lays [zr 124, zi (f : Int)] M (fun M' => (q_tk t n p ≠ 2 ∧ MF (1, (q_at t n p : Int)) N M') ∨ (q_tk t n p = 2 ∧ MS t n p (q_lay t n p ρ f) N M')) := by
  obtain ⟨hB, hT, hf0, hr, hfa, hfk⟩ := id hS
  obtain ⟨t4, t5, t6, t8, t7⟩ := id hT
  have hal := q_at_le t hp
  have hel := q_en_le t hp
  have htk := q_tk_cases t n p
  refine zC.of [some (zr 124), some (zi (f : Int)), none] (by decide +kernel) rfl rfl (Nat.le_of_ble_eq_true rfl) rfl ?_
  refine p_aload_n 1 dX12_lays_0 rfl rfl (by decide) ?_
  refine p_getI 124 4 dX12_lays_1 fX12_91 rfl ?_
  rw [hf0]
  refine p_if_ne 24 7 dX12_lays_4 (by decide) (by decide) (fun h4 => absurd (absurd rfl h4) (fun h9 : False => h9)) (fun h4 => ?_)
  refine p_aload_n 8 dX12_lays_7 rfl rfl (by decide) ?_
  refine p_getI 124 11 dX12_lays_8 fX12_81 rfl ?_
  rw [t6]
  refine p_iconst 12 dX12_lays_11 ?_
  refine p_icmp_eq 24 15 dX12_lays_12 (by omega) (by omega) (by decide) (by decide) (fun h12 => ?_) (fun h12 => ?_)
  · have hk2 : q_tk t n p = 2 := by omega
    refine p_aload_n 25 dX12_lays_24 rfl rfl (by decide) ?_
    refine p_getI 124 28 dX12_lays_25 fX12_91 rfl ?_
    rw [hf0]
    refine p_if_eq 32 31 dX12_lays_28 (by decide) (by decide) (fun h28 => ?_) (fun h28 => absurd (h28 rfl) (fun h9 : False => h9))
    refine p_aload_n 33 dX12_lays_32 rfl rfl (by decide) ?_
    refine p_getR 124 36 dX12_lays_33 fX12_23 rfl (hB.1 (124, 16, 128) (by decide)) ?_
    refine p_iload_n 37 dX12_lays_36 rfl rfl ?_
    refine p_aload_n 38 dX12_lays_37 rfl rfl (by decide) ?_
    refine p_getI 124 41 dX12_lays_38 fX12_75 rfl ?_
    rw [(t8 hk2).1]
    refine p_iastn 128 42 (f) dX12_lays_41 rfl (by omega) (by omega) ?_
    refine p_iconst 43 dX12_lays_42 ?_
    refine p_istore_n 44 dX12_lays_43 rfl (Nat.le_of_ble_eq_true rfl) rfl rfl ?_
    dsimp only [List.set]
    refine (l_laysL hn ht hp hk2 hf (M := M) (q_ln t n p) 0 (by omega) _ (hS.put.row (fun i _ => q_layk_0 t n p ρ f i))).mono (fun r M9 h9 => ?_)
    exact ⟨h9.1, Or.inr ⟨hk2, h9.2⟩⟩
  · refine p_aload_n 16 dX12_lays_15 rfl rfl (by decide) ?_
    refine p_iconst 17 dX12_lays_16 ?_
    refine p_aload_n 18 dX12_lays_17 rfl rfl (by decide) ?_
    refine p_getI 124 21 dX12_lays_18 fX12_72 rfl ?_
    rw [t4]
    refine p_callV2v 124 24 dX12_lays_21 (s_wrongS hn hp hS) lk_X12_118 mX12_wrong rfl rfl (by decide) (Nat.le_of_ble_eq_true rfl) ?_
    intro M9 hF9
    refine p_aload_n 25 dX12_lays_24 rfl rfl (by decide) ?_
    refine p_getI 124 28 dX12_lays_25 fX12_91 rfl ?_
    rw [hF9.2.1]
    refine p_if_eq 32 31 dX12_lays_28 (by decide) (by decide) (fun h28 => absurd (absurd h28 (by decide)) (fun h9 : False => h9)) (fun h28 => ?_)
    refine p_vret dX12_lays_31 rfl ?_
    exact ⟨rfl, Or.inl ⟨by omega, hF9⟩⟩
theorem s_laysF {l : Launch} {X : ZX} {M : ZM} {e : Int × Int} {N : ZM} (hS : MF e N M) {z : Int} : zCv l X 1 yX12_lays tX12_lays [zr 124, zi z] M (fun M' => M' = M) := by
  refine zC.of [some (zr 124), some (zi z), none] (by decide +kernel) rfl rfl (Nat.le_of_ble_eq_true rfl) rfl ?_
  refine p_aload_n 1 dX12_lays_0 rfl rfl (by decide) ?_
  refine p_getI 124 4 dX12_lays_1 fX12_91 rfl ?_
  rw [hS.2.1]
  refine p_if_ne 24 7 dX12_lays_4 (by decide) (by decide) (fun h4 => ?_) (fun h4 => absurd (h4 (by decide)) (fun h9 : False => h9))
  refine p_aload_n 25 dX12_lays_24 rfl rfl (by decide) ?_
  refine p_getI 124 28 dX12_lays_25 fX12_91 rfl ?_
  rw [hS.2.1]
  refine p_if_eq 32 31 dX12_lays_28 (by decide) (by decide) (fun h28 => absurd (absurd h28 (by decide)) (fun h9 : False => h9)) (fun h28 => ?_)
  refine p_vret dX12_lays_31 rfl ?_
  exact ⟨rfl, rfl⟩
theorem s_laysPassedS {l : Launch} {X : ZX} {M : ZM} {t : Nat → Int} {n p : Nat} {ρ : Nat → Int} {N : ZM} (hn : n ≤ 900) (ht : ∀ i, i < n → 0 ≤ t i ∧ t i < 256) (hp : p ≤ n) (hS : MS t n p ρ N M) {f : Nat} (hf : f + 9 ≤ 421) : zCv l X 2 yX12_laysPassed tX12_laysPassed [zr 124, zi (f : Int)] M (fun M' => (q_tk t n p ≠ 2 ∧ MF (1, (q_at t n p : Int)) N M') ∨ (q_tk t n p = 2 ∧ MS t n (q_en t n p) (q_lay t n p ρ f) N M')) := by
  refine zC.of [some (zr 124), some (zi (f : Int))] (by decide +kernel) rfl rfl (Nat.le_of_ble_eq_true rfl) rfl ?_
  refine p_aload_n 1 dX12_laysPassed_0 rfl rfl (by decide) ?_
  refine p_iload_n 2 dX12_laysPassed_1 rfl rfl ?_
  refine p_callV1v 124 5 dX12_laysPassed_2 (s_laysS hn ht hp hS hf) lk_X12_161 mX12_lays rfl rfl (by decide) (Nat.le_of_ble_eq_true rfl) ?_
  rintro M1 (⟨hk, hF1⟩ | ⟨hk, hS1⟩)
  · refine p_aload_n 6 dX12_laysPassed_5 rfl rfl (by decide) ?_
    refine p_getI 124 9 dX12_laysPassed_6 fX12_91 rfl ?_
    rw [hF1.2.1]
    refine p_if_ne 16 12 dX12_laysPassed_9 (by decide) (by decide) (fun h9 => ?_) (fun h9 => absurd (h9 (by decide)) (fun h9 : False => h9))
    refine p_vret dX12_laysPassed_16 rfl ?_
    exact ⟨rfl, Or.inl ⟨hk, hF1⟩⟩
  · refine p_aload_n 6 dX12_laysPassed_5 rfl rfl (by decide) ?_
    refine p_getI 124 9 dX12_laysPassed_6 fX12_91 rfl ?_
    rw [hS1.2.2.1]
    refine p_if_ne 16 12 dX12_laysPassed_9 (by decide) (by decide) (fun h9 => absurd (absurd rfl h9) (fun h9 : False => h9)) (fun h9 => ?_)
    refine p_aload_n 13 dX12_laysPassed_12 rfl rfl (by decide) ?_
    refine p_callV0v 124 16 dX12_laysPassed_13 (s_goOn hn ht hS1.1 (p := q_en t n p) (q_en_n t hp) hS1.2.1.2.1) lk_X12_112 mX12_goOn rfl rfl (by decide) (Nat.le_of_ble_eq_true rfl) ?_
    rintro M9 ⟨kk9, hT9⟩
    have hS9 := hS1.adv kk9 hT9
    refine p_vret dX12_laysPassed_16 rfl ?_
    exact ⟨rfl, Or.inr ⟨hk, hS9⟩⟩
theorem s_laysPassedF {l : Launch} {X : ZX} {M : ZM} {e : Int × Int} {N : ZM} (hS : MF e N M) {z : Int} : zCv l X 2 yX12_laysPassed tX12_laysPassed [zr 124, zi z] M (fun M' => M' = M) := by
  refine zC.of [some (zr 124), some (zi z)] (by decide +kernel) rfl rfl (Nat.le_of_ble_eq_true rfl) rfl ?_
  refine p_aload_n 1 dX12_laysPassed_0 rfl rfl (by decide) ?_
  refine p_iload_n 2 dX12_laysPassed_1 rfl rfl ?_
  refine p_callV1v 124 5 dX12_laysPassed_2 (s_laysF hS) lk_X12_161 mX12_lays rfl rfl (by decide) (Nat.le_of_ble_eq_true rfl) ?_
  intro M9 e9
  have e9 := e9.symm
  subst e9
  refine p_aload_n 6 dX12_laysPassed_5 rfl rfl (by decide) ?_
  refine p_getI 124 9 dX12_laysPassed_6 fX12_91 rfl ?_
  rw [hS.2.1]
  refine p_if_ne 16 12 dX12_laysPassed_9 (by decide) (by decide) (fun h9 => ?_) (fun h9 => absurd (h9 (by decide)) (fun h9 : False => h9))
  refine p_vret dX12_laysPassed_16 rfl ?_
  exact ⟨rfl, rfl⟩
theorem q_newn_w {t : Nat → Int} {n p : Nat} {ρ : Nat → Int} {m : Nat} (h : q_tk t n p ≠ 2 ∨ q_rsv t n p = true) : q_newn t n p ρ m = .inl (1, (q_at t n p : Int)) := if_pos h
theorem q_newn_o {t : Nat → Int} {n p : Nat} {ρ : Nat → Int} {m : Nat} (h : q_tk t n p = 2) (g : ¬ q_rsv t n p = true) (hf : (q_fnd t n p ρ).isSome = true) : q_newn t n p ρ m = .inl (3, (q_at t n p : Int)) := by
  unfold q_newn
  rw [if_neg (fun k => k.elim (fun k => k h) g), if_pos hf]
theorem q_newn_y {t : Nat → Int} {n p : Nat} {ρ : Nat → Int} {m : Nat} (h : q_tk t n p = 2) (g : ¬ q_rsv t n p = true) (hf : ¬ (q_fnd t n p ρ).isSome = true) : q_newn t n p ρ m = .inr (q_en t n p, q_nm t n p ρ m) := by
  unfold q_newn
  rw [if_neg (fun k => k.elim (fun k => k h) g), if_neg hf]
theorem q_mn_is {o : Option Nat} : o.isSome = true ↔ 0 ≤ q_mn o := by
  cases o with
  | none => exact ⟨fun h => absurd h (by decide), fun h => absurd h (by decide)⟩
  | some m => exact ⟨fun _ => Int.natCast_nonneg m, fun _ => rfl⟩
theorem q_mn_lt {m : Nat} (h : ¬ (10 ≤ q_mn (some m) ∧ q_mn (some m) ≤ 16)) (g : m < 17) : m < 10 := by
  have e : q_mn (some m) = (m : Int) := rfl
  rw [e] at h
  omega
theorem q_fnd_bd {t : Nat → Int} {n p : Nat} {ρ : Nat → Int} : -1 ≤ q_mn (q_fnd t n p ρ) ∧ q_mn (q_fnd t n p ρ) < 1 + (17 : Nat) := q_mn_bd
theorem q_told_in {t : Nat → Int} {n p : Nat} {ρ : Nat → Int} (hP : PI ρ) (hk : q_tk t n p = 2) (hr : ¬ q_rsv t n p = true) {m : Nat} (hf : q_fnd t n p ρ = some m) (h1 : 10 ≤ m) : m - 10 < q_n ρ 4 ∧ q_told t n p ρ = .inr (m - 10) := by
  obtain ⟨f1, f2, f3⟩ := q_first_some hf
  rw [Bool.and_eq_true, decide_eq_true_eq, decide_eq_true_eq] at f2
  have hB := hP.2.1.2.2
  have e4 : ρ 4 = (q_n ρ 4 : Int) := (Int.toNat_of_nonneg (hP.1.1 4 (by decide))).symm
  have em : 10 + (m - 10) = m := by omega
  have g1 := (hB (m - 10) (by omega)).mp (by rw [em]; exact f2.1)
  have g2 : m - 10 < q_n ρ 4 := by omega
  refine ⟨g2, ?_⟩
  have hq : q_first (fun w => decide (q_nmp ρ (10 + w) = q_wd t n p)) (q_n ρ 4) = some (m - 10) := by
    refine q_first_is g2 (by rw [em]; exact decide_eq_true f2.2) (fun v hv => ?_)
    have h3 := f3 (10 + v) (by omega)
    rw [Bool.and_eq_false_iff, decide_eq_false_iff_not] at h3
    exact h3.resolve_left (fun k => k ((hB v (by omega)).mpr (by omega)))
  unfold q_told
  rw [if_neg (fun k => k.elim (fun k => k hk) hr), hq]
theorem q_told_out {t : Nat → Int} {n p : Nat} {ρ : Nat → Int} (hP : PI ρ) (hk : q_tk t n p = 2) (hr : ¬ q_rsv t n p = true) (h : ∀ m, q_fnd t n p ρ = some m → m < 10) : q_told t n p ρ = .inl (2, (q_at t n p : Int)) := by
  have hB := hP.2.1.2.2
  have e4 : ρ 4 = (q_n ρ 4 : Int) := (Int.toNat_of_nonneg (hP.1.1 4 (by decide))).symm
  have b4 := hP.1.2.1.2.2.2.2.1
  have hq : q_first (fun w => decide (q_nmp ρ (10 + w) = q_wd t n p)) (q_n ρ 4) = none := by
    refine q_first_no (fun v hv => decide_eq_false (fun e => ?_))
    have g1 := (hB v (by omega)).mpr (by omega)
    cases hf : q_fnd t n p ρ with
    | none =>
      have h3 := q_first_none hf (10 + v) (by omega)
      rw [Bool.and_eq_false_iff, decide_eq_false_iff_not, decide_eq_false_iff_not] at h3
      exact h3.elim (fun k => k g1) (fun k => k e)
    | some m =>
      have h9 := h m hf
      obtain ⟨f1, f2, f3⟩ := q_first_some hf
      rw [Bool.and_eq_true, decide_eq_true_eq, decide_eq_true_eq] at f2
      have := hP.2.2.2.1 m (10 + v) f1 (by omega) f2.1 g1 (f2.2.trans e.symm)
      omega
  unfold q_told
  rw [if_neg (fun k => k.elim (fun k => k hk) hr), hq]
theorem q_told_w {t : Nat → Int} {n p : Nat} {ρ : Nat → Int} (h : q_tk t n p ≠ 2 ∨ q_rsv t n p = true) : q_told t n p ρ = .inl (1, (q_at t n p : Int)) := by
  unfold q_told
  rw [if_pos h]
theorem l_newNm {l : Launch} {X : ZX} {M : ZM} {t : Nat → Int} {n p : Nat} {ρ : Nat → Int} {N : ZM} (hn : n ≤ 900) (ht : ∀ i, i < n → 0 ≤ t i ∧ t i < 256) (hp : p ≤ n) (hk2 : q_tk t n p = 2) {m : Nat} (hm : m < 17) : ∀ (j k : Nat), k + j = q_ln t n p → ∀ M : ZM, MS t n p (q_nmk t n p ρ m k) N M → zP l X 6 tX12_newName 45 [some (zr 124), some (zi (m : Int)), some (zi (k : Int))] [] M (fun r M' => r = none ∧ MS t n (q_en t n p) (q_nm t n p ρ m) N M') := by
  obtain ⟨w1, w2, w3, w4, w5⟩ := q_tk_word hp hk2
  intro j
  induction j with
  | zero =>
    intro k hk M hS
    obtain ⟨hB, hT, hf0, hr, hfa, hfk⟩ := id hS
    obtain ⟨t4, t5, t6, t8, t7⟩ := id hT
    refine p_iload_n 46 dX12_newName_45 rfl rfl ?_
    refine p_aload_n 47 dX12_newName_46 rfl rfl (by decide) ?_
    refine p_getI 124 50 dX12_newName_47 fX12_75 rfl ?_
    rw [(t8 hk2).1]
    refine p_icmp_ge 80 53 dX12_newName_50 (by omega) (by omega) (by omega) (by omega) (fun h50 => ?_) (fun h50 => absurd (by omega) (fun h9 : False => h9))
    refine p_aload_n 81 dX12_newName_80 rfl rfl (by decide) ?_
    refine p_getR 124 84 dX12_newName_81 fX12_23 rfl (hB.1 (124, 16, 128) (by decide)) ?_
    refine p_sipush 87 dX12_newName_84 rfl ?_
    refine p_iload_n 88 dX12_newName_87 rfl rfl ?_
    refine p_iadd 89 dX12_newName_88 ?_
    refine p_aload_n 90 dX12_newName_89 rfl rfl (by decide) ?_
    refine p_getI 124 93 dX12_newName_90 fX12_75 rfl ?_
    rw [Nat.add_zero] at hk
    subst hk
    rw [(t8 hk2).1]
    refine p_iastn 128 94 (268 + m) dX12_newName_93 rfl (by omega) (by omega) ?_
    have hS8 := (hS.put (k := 268 + m) (v := (q_ln t n p : Int))).row (fun i _ => q_nmk_all (t := t) (n := n) (p := p) (ρ := ρ) hm i)
    refine p_aload_n 95 dX12_newName_94 rfl rfl (by decide) ?_
    refine p_callV0v 124 98 dX12_newName_95 (s_goOn hn ht hS8.1 (p := q_en t n p) (q_en_n t hp) hS8.2.1.2.1) lk_X12_112 mX12_goOn rfl rfl (by decide) (Nat.le_of_ble_eq_true rfl) ?_
    rintro M9 ⟨kk9, hT9⟩
    have hS9 := hS8.adv kk9 hT9
    refine p_vret dX12_newName_98 rfl ?_
    exact ⟨rfl, hS9⟩
  | succ j ih =>
    intro k hk M hS
    obtain ⟨hB, hT, hf0, hr, hfa, hfk⟩ := id hS
    obtain ⟨t4, t5, t6, t8, t7⟩ := id hT
    refine p_iload_n 46 dX12_newName_45 rfl rfl ?_
    refine p_aload_n 47 dX12_newName_46 rfl rfl (by decide) ?_
    refine p_getI 124 50 dX12_newName_47 fX12_75 rfl ?_
    rw [(t8 hk2).1]
    refine p_icmp_ge 80 53 dX12_newName_50 (by omega) (by omega) (by omega) (by omega) (fun h50 => absurd (by omega) (fun h9 : False => h9)) (fun h50 => ?_)
    refine p_aload_n 54 dX12_newName_53 rfl rfl (by decide) ?_
    refine p_getR 124 57 dX12_newName_54 fX12_23 rfl (hB.1 (124, 16, 128) (by decide)) ?_
    refine p_sipush 60 dX12_newName_57 rfl ?_
    refine p_bipush 62 dX12_newName_60 rfl ?_
    refine p_iload_n 63 dX12_newName_62 rfl rfl ?_
    refine p_imul 64 dX12_newName_63 ?_
    refine p_iadd 65 dX12_newName_64 ?_
    refine p_iload_n 66 dX12_newName_65 rfl rfl ?_
    refine p_iadd 67 dX12_newName_66 ?_
    refine p_aload_n 68 dX12_newName_67 rfl rfl (by decide) ?_
    refine p_getR 124 71 dX12_newName_68 fX12_17 rfl (hB.1 (124, 12, 126) (by decide)) ?_
    refine p_iload_n 72 dX12_newName_71 rfl rfl ?_
    refine p_ialdn 126 73 (k) dX12_newName_72 rfl (by omega) (by omega) ?_
    rw [(t8 hk2).2 k (by omega)]
    refine p_iastn 128 74 (285 + 8 * m + k) dX12_newName_73 rfl (by omega) (by omega) ?_
    refine p_iinc 77 dX12_newName_74 rfl rfl rfl ?_
    dsimp only [List.set]
    refine p_goto 45 dX12_newName_77 ?_
    exact ih (k + 1) (by omega) _ (hS.put.row (fun i _ => q_nmk_up t n p ρ m k i))
theorem s_newNameS {l : Launch} {X : ZX} {M : ZM} {t : Nat → Int} {n p : Nat} {ρ : Nat → Int} {N : ZM} (hn : n ≤ 900) (ht : ∀ i, i < n → 0 ≤ t i ∧ t i < 256) (hp : p ≤ n) (hS : MS t n p ρ N M) (hP : PI ρ) {m : Nat} (hm : m < 17) : zCv l X 6 yX12_newName tX12_newName [zr 124, zi (m : Int)] M (fun M' => MX t n (q_newn t n p ρ m) N M') := by
  obtain ⟨hB, hT, hf0, hr, hfa, hfk⟩ := id hS
  obtain ⟨t4, t5, t6, t8, t7⟩ := id hT
  have hal := q_at_le t hp
  have hel := q_en_le t hp
  have htk := q_tk_cases t n p
  refine zC.of [some (zr 124), some (zi (m : Int)), none] (by decide +kernel) rfl rfl (Nat.le_of_ble_eq_true rfl) rfl ?_
  refine p_aload_n 1 dX12_newName_0 rfl rfl (by decide) ?_
  refine p_getI 124 4 dX12_newName_1 fX12_91 rfl ?_
  rw [hf0]
  refine p_if_eq 8 7 dX12_newName_4 (by decide) (by decide) (fun h4 => ?_) (fun h4 => absurd (h4 rfl) (fun h9 : False => h9))
  refine p_aload_n 9 dX12_newName_8 rfl rfl (by decide) ?_
  refine p_callV0v 124 12 dX12_newName_9 (s_mustNameS hn ht hp hS) lk_X12_140 mX12_mustName rfl rfl (by decide) (Nat.le_of_ble_eq_true rfl) ?_
  rintro M1 (⟨hk2, hrs, em⟩ | ⟨hw, hF1⟩)
  · have em := em.symm
    subst em
    have hfb := q_fnd_bd (t := t) (n := n) (p := p) (ρ := ρ)
    refine p_aload_n 13 dX12_newName_12 rfl rfl (by decide) ?_
    refine p_getI 124 16 dX12_newName_13 fX12_91 rfl ?_
    rw [hf0]
    refine p_if_ne 35 19 dX12_newName_16 (by decide) (by decide) (fun h16 => absurd (absurd rfl h16) (fun h9 : False => h9)) (fun h16 => ?_)
    refine p_aload_n 20 dX12_newName_19 rfl rfl (by decide) ?_
    refine p_callV0i 124 23 dX12_newName_20 (s_findS hn ht hp hS hP hk2) lk_X12_143 mX12_find rfl rfl (by decide) (Nat.le_of_ble_eq_true rfl) ?_
    rintro _ _ ⟨rfl, e9⟩
    have e9 := e9.symm
    subst e9
    refine p_if_lt 35 26 dX12_newName_23 (by omega) (by omega) (fun h23 => ?_) (fun h23 => ?_)
    · refine p_aload_n 36 dX12_newName_35 rfl rfl (by decide) ?_
      refine p_getI 124 39 dX12_newName_36 fX12_91 rfl ?_
      rw [hf0]
      refine p_if_eq 43 42 dX12_newName_39 (by decide) (by decide) (fun h39 => ?_) (fun h39 => absurd (h39 rfl) (fun h9 : False => h9))
      refine p_iconst 44 dX12_newName_43 ?_
      refine p_istore_n 45 dX12_newName_44 rfl (Nat.le_of_ble_eq_true rfl) rfl rfl ?_
      dsimp only [List.set]
      refine (l_newNm hn ht hp hk2 hm (M := M) (q_ln t n p) 0 (by omega) _ (hS.row (fun i _ => q_nmk_0 t n p ρ m i))).mono (fun r M9 h9 => ?_)
      exact ⟨h9.1, MX.r (q_newn_y hk2 hrs (fun k => by have := q_mn_is.mp k; omega)) h9.2⟩
    · refine p_aload_n 27 dX12_newName_26 rfl rfl (by decide) ?_
      refine p_iconst 28 dX12_newName_27 ?_
      refine p_aload_n 29 dX12_newName_28 rfl rfl (by decide) ?_
      refine p_getI 124 32 dX12_newName_29 fX12_72 rfl ?_
      rw [t4]
      refine p_callV2v 124 35 dX12_newName_32 (s_wrongS hn hp hS) lk_X12_118 mX12_wrong rfl rfl (by decide) (Nat.le_of_ble_eq_true rfl) ?_
      intro M9 hF9
      refine p_aload_n 36 dX12_newName_35 rfl rfl (by decide) ?_
      refine p_getI 124 39 dX12_newName_36 fX12_91 rfl ?_
      rw [hF9.2.1]
      refine p_if_eq 43 42 dX12_newName_39 (by decide) (by decide) (fun h39 => absurd (absurd h39 (by decide)) (fun h9 : False => h9)) (fun h39 => ?_)
      refine p_vret dX12_newName_42 rfl ?_
      exact ⟨rfl, MX.l (q_newn_o hk2 hrs (q_mn_is.mpr (by omega))) hF9⟩
  · refine p_aload_n 13 dX12_newName_12 rfl rfl (by decide) ?_
    refine p_getI 124 16 dX12_newName_13 fX12_91 rfl ?_
    rw [hF1.2.1]
    refine p_if_ne 35 19 dX12_newName_16 (by decide) (by decide) (fun h16 => ?_) (fun h16 => absurd (h16 (by decide)) (fun h9 : False => h9))
    refine p_aload_n 36 dX12_newName_35 rfl rfl (by decide) ?_
    refine p_getI 124 39 dX12_newName_36 fX12_91 rfl ?_
    rw [hF1.2.1]
    refine p_if_eq 43 42 dX12_newName_39 (by decide) (by decide) (fun h39 => absurd (absurd h39 (by decide)) (fun h9 : False => h9)) (fun h39 => ?_)
    refine p_vret dX12_newName_42 rfl ?_
    exact ⟨rfl, MX.l (q_newn_w hw) hF1⟩
theorem s_newNameF {l : Launch} {X : ZX} {M : ZM} {e : Int × Int} {N : ZM} (hS : MF e N M) {z : Int} : zCv l X 6 yX12_newName tX12_newName [zr 124, zi z] M (fun M' => M' = M) := by
  refine zC.of [some (zr 124), some (zi z), none] (by decide +kernel) rfl rfl (Nat.le_of_ble_eq_true rfl) rfl ?_
  refine p_aload_n 1 dX12_newName_0 rfl rfl (by decide) ?_
  refine p_getI 124 4 dX12_newName_1 fX12_91 rfl ?_
  rw [hS.2.1]
  refine p_if_eq 8 7 dX12_newName_4 (by decide) (by decide) (fun h4 => absurd (absurd h4 (by decide)) (fun h9 : False => h9)) (fun h4 => ?_)
  refine p_vret dX12_newName_7 rfl ?_
  exact ⟨rfl, rfl⟩
theorem s_wordHereS {l : Launch} {X : ZX} {M : ZM} {t : Nat → Int} {n p : Nat} {ρ : Nat → Int} {N : ZM} (hn : n ≤ 900) (ht : ∀ i, i < n → 0 ≤ t i ∧ t i < 256) (hp : p ≤ n) (hS : MS t n p ρ N M) (hP : PI ρ) : zCi l X 6 yX12_wordHere tX12_wordHere [zr 124] M (fun a M' => (∃ e, q_told t n p ρ = .inl e ∧ a = 0 ∧ MF e N M') ∨ (∃ w : Nat, w < q_n ρ 4 ∧ q_told t n p ρ = .inr w ∧ a = (w : Int) ∧ M' = M)) := by
  obtain ⟨hB, hT, hf0, hr, hfa, hfk⟩ := id hS
  obtain ⟨t4, t5, t6, t8, t7⟩ := id hT
  have hal := q_at_le t hp
  have hel := q_en_le t hp
  have htk := q_tk_cases t n p
  refine zC.of [some (zr 124), none] (by decide +kernel) rfl rfl (Nat.le_of_ble_eq_true rfl) rfl ?_
  refine p_aload_n 1 dX12_wordHere_0 rfl rfl (by decide) ?_
  refine p_getI 124 4 dX12_wordHere_1 fX12_91 rfl ?_
  rw [hf0]
  refine p_if_eq 9 7 dX12_wordHere_4 (by decide) (by decide) (fun h4 => ?_) (fun h4 => absurd (h4 rfl) (fun h9 : False => h9))
  refine p_aload_n 10 dX12_wordHere_9 rfl rfl (by decide) ?_
  refine p_callV0v 124 13 dX12_wordHere_10 (s_mustNameS hn ht hp hS) lk_X12_140 mX12_mustName rfl rfl (by decide) (Nat.le_of_ble_eq_true rfl) ?_
  rintro M1 (⟨hk2, hrs, em⟩ | ⟨hw, hF1⟩)
  · have em := em.symm
    subst em
    have hfb := q_fnd_bd (t := t) (n := n) (p := p) (ρ := ρ)
    refine p_aload_n 14 dX12_wordHere_13 rfl rfl (by decide) ?_
    refine p_getI 124 17 dX12_wordHere_14 fX12_91 rfl ?_
    rw [hf0]
    refine p_if_eq 22 20 dX12_wordHere_17 (by decide) (by decide) (fun h17 => ?_) (fun h17 => absurd (h17 rfl) (fun h9 : False => h9))
    refine p_aload_n 23 dX12_wordHere_22 rfl rfl (by decide) ?_
    refine p_callV0i 124 26 dX12_wordHere_23 (s_findS hn ht hp hS hP hk2) lk_X12_143 mX12_find rfl rfl (by decide) (Nat.le_of_ble_eq_true rfl) ?_
    rintro _ _ ⟨rfl, e9⟩
    have e9 := e9.symm
    subst e9
    refine p_istore_n 27 dX12_wordHere_26 rfl (Nat.le_of_ble_eq_true rfl) rfl rfl ?_
    dsimp only [List.set]
    refine p_iload_n 28 dX12_wordHere_27 rfl rfl ?_
    refine p_bipush 30 dX12_wordHere_28 rfl ?_
    refine p_bipush 32 dX12_wordHere_30 rfl ?_
    refine p_callS3i 35 dX12_wordHere_32 (s_in (by omega) (by omega) (by omega) (by omega) (by omega) (by omega)) lk_X12_146 mX12_in (by decide) (Nat.le_of_ble_eq_true rfl) ?_
    rintro _ _ ⟨rfl, e9⟩
    have e9 := e9.symm
    subst e9
    refine p_if_ne 47 38 dX12_wordHere_35 (by split <;> omega) (by split <;> omega) (fun h35 => ?_) (fun h35 => ?_)
    · have hin := if_ne0 h35
      obtain ⟨m, hm⟩ : ∃ m, q_fnd t n p ρ = some m := by
        cases hq : q_fnd t n p ρ with
        | none => rw [hq] at hin; exact absurd hin (by decide)
        | some m => exact ⟨m, rfl⟩
      rw [hm] at hin
      have hin : 10 ≤ (m : Int) ∧ (m : Int) ≤ 16 := hin
      obtain ⟨g1, g2⟩ := q_told_in hP hk2 hrs hm (by omega)
      rw [hm]
      refine p_aload_n 48 dX12_wordHere_47 rfl rfl (by decide) ?_
      refine p_getI 124 51 dX12_wordHere_48 fX12_91 rfl ?_
      rw [hf0]
      refine p_if_eq 58 54 dX12_wordHere_51 (by decide) (by decide) (fun h51 => ?_) (fun h51 => absurd (h51 rfl) (fun h9 : False => h9))
      refine p_iload_n 59 dX12_wordHere_58 rfl rfl ?_
      refine p_bipush 61 dX12_wordHere_59 rfl ?_
      refine p_isub 62 dX12_wordHere_61 ?_
      refine p_iret dX12_wordHere_62 rfl ?_
      exact ⟨_, rfl, Or.inr ⟨m - 10, g1, g2, by show (m : Int) - 10 = _; omega, rfl⟩⟩
    · have hin := if_nne0 h35
      have hz := q_told_out hP hk2 hrs (fun m hm => by
        rw [hm] at hin
        exact q_mn_lt hin (q_first_some hm).1)
      refine p_aload_n 39 dX12_wordHere_38 rfl rfl (by decide) ?_
      refine p_iconst 40 dX12_wordHere_39 ?_
      refine p_aload_n 41 dX12_wordHere_40 rfl rfl (by decide) ?_
      refine p_getI 124 44 dX12_wordHere_41 fX12_72 rfl ?_
      rw [t4]
      refine p_callV2v 124 47 dX12_wordHere_44 (s_wrongS hn hp hS) lk_X12_118 mX12_wrong rfl rfl (by decide) (Nat.le_of_ble_eq_true rfl) ?_
      intro M9 hF9
      refine p_aload_n 48 dX12_wordHere_47 rfl rfl (by decide) ?_
      refine p_getI 124 51 dX12_wordHere_48 fX12_91 rfl ?_
      rw [hF9.2.1]
      refine p_if_eq 58 54 dX12_wordHere_51 (by decide) (by decide) (fun h51 => absurd (absurd h51 (by decide)) (fun h9 : False => h9)) (fun h51 => ?_)
      refine p_iconst 55 dX12_wordHere_54 ?_
      refine p_goto 62 dX12_wordHere_55 ?_
      refine p_iret dX12_wordHere_62 rfl ?_
      exact ⟨_, rfl, Or.inl ⟨_, hz, rfl, hF9⟩⟩
  · refine p_aload_n 14 dX12_wordHere_13 rfl rfl (by decide) ?_
    refine p_getI 124 17 dX12_wordHere_14 fX12_91 rfl ?_
    rw [hF1.2.1]
    refine p_if_eq 22 20 dX12_wordHere_17 (by decide) (by decide) (fun h17 => absurd (absurd h17 (by decide)) (fun h9 : False => h9)) (fun h17 => ?_)
    refine p_iconst 21 dX12_wordHere_20 ?_
    refine p_iret dX12_wordHere_21 rfl ?_
    exact ⟨_, rfl, Or.inl ⟨_, q_told_w hw, rfl, hF1⟩⟩
