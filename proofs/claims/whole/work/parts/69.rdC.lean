theorem q_fnd_iff {t : Nat → Int} {n p : Nat} {ρ : Nat → Int} : (q_fnd t n p ρ).isSome = true ↔ ∃ m, m < 17 ∧ 0 < ρ (268 + m) ∧ q_nmp ρ m = q_wd t n p := by
  constructor
  · intro h
    cases hq : q_fnd t n p ρ with
    | none => rw [hq] at h; cases h
    | some m =>
      obtain ⟨h1, h2, -⟩ := q_first_some hq
      rw [Bool.and_eq_true, decide_eq_true_eq, decide_eq_true_eq] at h2
      exact ⟨m, h1, h2.1, h2.2⟩
  · rintro ⟨m, h1, h2, h3⟩
    cases hq : q_fnd t n p ρ with
    | some _ => rfl
    | none =>
      have h4 := q_first_none hq m h1
      have h5 : (decide (0 < ρ (268 + m)) && decide (q_nmp ρ m = q_wd t n p)) = false := h4
      rw [decide_eq_true h2, decide_eq_true h3] at h5
      cases h5
theorem q_mn_none {o : Option Nat} : q_mn o = -1 ↔ o = none := by
  cases o with
  | none => exact ⟨fun _ => rfl, fun _ => rfl⟩
  | some w => exact ⟨fun h => by have : (w : Int) = -1 := h; omega, fun h => by cases h⟩
theorem q_mn_bd {p : Nat → Bool} {n : Nat} : -1 ≤ q_mn (q_first p n) ∧ q_mn (q_first p n) < 1 + (n : Int) := by
  cases h : q_first p n with
  | none => exact ⟨by show (-1 : Int) ≤ -1; decide, by show (-1 : Int) < _; omega⟩
  | some w =>
    have := (q_first_some h).1
    exact ⟨by show (-1 : Int) ≤ (w : Int); omega, by show (w : Int) < _; omega⟩
def q_hasn (ρ : Nat → Int) (sh : Int) : Int := if q_all (fun m => !(decide (0 < ρ (268 + m)) && decide (q_nmp ρ m = sh))) 17 = true then 0 else 1
theorem q_hasn_yes {ρ : Nat → Int} {sh : Int} {m : Nat} (h1 : m < 17) (h2 : 0 < ρ (268 + m)) (h3 : q_nmp ρ m = sh) : q_hasn ρ sh = 1 := by
  unfold q_hasn
  rw [if_neg]
  intro g
  have := q_all_iff.mp g m h1
  rw [decide_eq_true h2, decide_eq_true h3] at this
  cases this
theorem q_hasn_no {ρ : Nat → Int} {sh : Int} (h : ∀ m, m < 17 → 0 < ρ (268 + m) → ¬ q_nmp ρ m = sh) : q_hasn ρ sh = 0 := by
  unfold q_hasn
  rw [if_pos]
  refine q_all_iff.mpr (fun m hm => ?_)
  by_cases g : 0 < ρ (268 + m)
  · rw [decide_eq_false (h m hm g), Bool.and_false]; rfl
  · rw [decide_eq_false g]; rfl
theorem q_hasn_iff {t : Nat → Int} {n p : Nat} {ρ : Nat → Int} : q_hasn ρ (q_wd t n p) = if (q_fnd t n p ρ).isSome = true then 1 else 0 := by
  by_cases h : (q_fnd t n p ρ).isSome = true
  · rw [if_pos h]
    obtain ⟨m, h1, h2, h3⟩ := q_fnd_iff.mp h
    exact q_hasn_yes h1 h2 h3
  · rw [if_neg h]
    exact q_hasn_no (fun m h1 h2 h3 => h (q_fnd_iff.mpr ⟨m, h1, h2, h3⟩))
theorem l_hasNameB {l : Launch} {X : ZX} {M : ZM} {c : Nat} (hc : isC c) (hW : zWc M) {ρ : Nat → Int} (hI : ICr ρ c M) (hP : PI ρ) {sh : Int} (hsh : 0 ≤ sh ∧ sh < 1099511627776) (hs : ∀ s : Nat, (s : Int) < ρ 2 → ¬ q_nmp ρ s = sh) : ∀ (j i : Nat), i + j = q_n ρ 3 → (∀ a : Nat, a < i → ¬ q_nmp ρ (7 + a) = sh) → zP l X 1 tX0_hasName 37 [some (zr (c : Int)), some (zl sh), none, some (zi (i : Int))] [] M (fun r M' => ∃ a, r = some (zi a) ∧ (a = q_hasn ρ sh ∧ M' = M)) := by
  have hR := hP.1
  have e2 : ρ 2 = (q_n ρ 2 : Int) := hR.n (by decide)
  have b2 := hR.2.1.2.2.1
  have e3 : ρ 3 = (q_n ρ 3 : Int) := hR.n (by decide)
  have b3 := hR.2.1.2.2.2.1
  have e4 : ρ 4 = (q_n ρ 4 : Int) := hR.n (by decide)
  have b4 := hR.2.1.2.2.2.2.1
  have hcl := hc.lt
  have hmb := q_mn_bd (p := fun w => decide (q_nmp ρ (10 + w) = sh)) (n := q_n ρ 4)
  intro j
  induction j with
  | zero =>
    intro i hi hv
    refine p_iload_n 38 dX0_hasName_37 rfl rfl ?_
    refine p_aload_n 39 dX0_hasName_38 rfl rfl (by omega) ?_
    refine p_getR (c) 42 dX0_hasName_39 fX0_21 (tt_c hc) (wi_0_4 hc hW) ?_
    refine p_getI (c + 6) 45 dX0_hasName_42 fX0_53 (tt_6 hc) ?_
    rw [hI.1.1.2.2.2.2.1]
    refine p_icmp_ge 70 48 dX0_hasName_45 (by omega) (by omega) (by omega) (by omega) (fun h45 => ?_) (fun h45 => absurd (by omega) (fun h9 : False => h9))
    have ha : ∀ a : Nat, (a : Int) < ρ 3 → ¬ q_nmp ρ (7 + a) = sh := fun a h => hv a (by omega)
    refine p_aload_n 71 dX0_hasName_70 rfl rfl (by omega) ?_
    refine p_getR (c) 74 dX0_hasName_71 fX0_28 (tt_c hc) (wi_0_5 hc hW) ?_
    refine p_lload_n 75 dX0_hasName_74 rfl rfl ?_
    refine p_callV1i (c + 11) 78 dX0_hasName_75 (s_findG hc hW (n := q_n ρ 4) (g := fun w => q_nmp ρ (10 + w)) (hI.1.1.2.2.2.2.2.1.trans e4) (by omega) (fun k hk => (hI.2.2.2 k (by omega)).1) (fun k hk => hP.nm (by omega)) hsh) lk_X0_67 mX10_find (tt_11 hc) rfl (by decide) (Nat.le_of_ble_eq_true rfl) ?_
    rintro _ _ ⟨rfl, e9⟩
    have e9 := e9.symm
    subst e9
    refine p_iconst 79 dX0_hasName_78 ?_
    refine p_icmp_eq 86 82 dX0_hasName_79 (by omega) (by omega) (by decide) (by decide) (fun h79 => ?_) (fun h79 => ?_)
    · have hno : q_first (fun w => decide (q_nmp ρ (10 + w) = sh)) (q_n ρ 4) = none := q_mn_none.mp h79
      refine p_iconst 87 dX0_hasName_86 ?_
      refine p_zret dX0_hasName_87 rfl (by decide) ?_
      first
        | (refine ⟨_, rfl, ?_, rfl⟩
           rw [q_hasn_yes (m := 10 + w) (by omega) ((hP.2.1.2.2 w (by omega)).mpr (by omega)) (of_decide_eq_true w2)])
        | (refine ⟨_, rfl, ?_, rfl⟩
           rw [q_hasn_no (fun m h1 h2 h3 => ?_)]
           by_cases c1 : m < 7
           · exact hs m ((hP.2.1.1 m c1).mp h2) h3
           · by_cases c2 : m < 10
             · obtain ⟨a, rfl⟩ : ∃ a, m = 7 + a := ⟨m - 7, by omega⟩
               exact ha a ((hP.2.1.2.1 a (by omega)).mp h2) h3
             · obtain ⟨w, rfl⟩ : ∃ w, m = 10 + w := ⟨m - 10, by omega⟩
               have h4 := (hP.2.1.2.2 w (by omega)).mp h2
               have h5 := q_first_none hno w (by omega)
               exact of_decide_eq_false h5 h3)
    · obtain ⟨w, hw⟩ : ∃ w, q_first (fun w => decide (q_nmp ρ (10 + w) = sh)) (q_n ρ 4) = some w := by
        cases hq : q_first (fun w => decide (q_nmp ρ (10 + w) = sh)) (q_n ρ 4) with
        | none => exact absurd (q_mn_none.mpr hq) h79
        | some w => exact ⟨w, rfl⟩
      obtain ⟨w1, w2, -⟩ := q_first_some hw
      refine p_iconst 83 dX0_hasName_82 ?_
      refine p_goto 87 dX0_hasName_83 ?_
      refine p_zret dX0_hasName_87 rfl (by decide) ?_
      first
        | (refine ⟨_, rfl, ?_, rfl⟩
           rw [q_hasn_yes (m := 10 + w) (by omega) ((hP.2.1.2.2 w (by omega)).mpr (by omega)) (of_decide_eq_true w2)])
        | (refine ⟨_, rfl, ?_, rfl⟩
           rw [q_hasn_no (fun m h1 h2 h3 => ?_)]
           by_cases c1 : m < 7
           · exact hs m ((hP.2.1.1 m c1).mp h2) h3
           · by_cases c2 : m < 10
             · obtain ⟨a, rfl⟩ : ∃ a, m = 7 + a := ⟨m - 7, by omega⟩
               exact ha a ((hP.2.1.2.1 a (by omega)).mp h2) h3
             · obtain ⟨w, rfl⟩ : ∃ w, m = 10 + w := ⟨m - 10, by omega⟩
               have h4 := (hP.2.1.2.2 w (by omega)).mp h2
               have h5 := q_first_none hno w (by omega)
               exact of_decide_eq_false h5 h3)
  | succ j ih =>
    intro i hi hv
    refine p_iload_n 38 dX0_hasName_37 rfl rfl ?_
    refine p_aload_n 39 dX0_hasName_38 rfl rfl (by omega) ?_
    refine p_getR (c) 42 dX0_hasName_39 fX0_21 (tt_c hc) (wi_0_4 hc hW) ?_
    refine p_getI (c + 6) 45 dX0_hasName_42 fX0_53 (tt_6 hc) ?_
    rw [hI.1.1.2.2.2.2.1]
    refine p_icmp_ge 70 48 dX0_hasName_45 (by omega) (by omega) (by omega) (by omega) (fun h45 => absurd (by omega) (fun h9 : False => h9)) (fun h45 => ?_)
    refine p_aload_n 49 dX0_hasName_48 rfl rfl (by omega) ?_
    refine p_getR (c) 52 dX0_hasName_49 fX0_21 (tt_c hc) (wi_0_4 hc hW) ?_
    refine p_getR (c + 6) 55 dX0_hasName_52 fX0_66 (tt_6 hc) (wi_6_1 hc hW) ?_
    refine p_iload_n 56 dX0_hasName_55 rfl rfl ?_
    refine p_laldn (c + 7) 57 (i) dX0_hasName_56 (tt_7 hc) (by omega) (by omega) ?_
    rw [hI.2.2.1 i (by omega)]
    have zc := z_lc (hP.nm (m := 7 + i) (by omega)) hsh
    refine p_lload_n 58 dX0_hasName_57 rfl rfl ?_
    refine p_lcmp 59 dX0_hasName_58 ?_
    refine p_if_ne 64 62 dX0_hasName_59 (by omega) (by omega) (fun h59 => ?_) (fun h59 => ?_)
    · refine p_iinc 67 dX0_hasName_64 rfl rfl rfl ?_
      dsimp only [List.set]
      refine p_goto 37 dX0_hasName_67 ?_
      refine ih (i + 1) (by omega) (fun a ha2 => ?_)
      by_cases e : a = i
      · subst e; exact fun g9 => h59 (zc.1.mpr g9)
      · exact hv a (by omega)
    · refine p_iconst 63 dX0_hasName_62 ?_
      refine p_zret dX0_hasName_63 rfl (by decide) ?_
      refine ⟨_, rfl, ?_, rfl⟩
      rw [q_hasn_yes (m := 7 + i) (by omega) ((hP.2.1.2.1 i (by omega)).mpr (by omega)) (zc.1.mp (by omega))]
theorem l_hasNameA {l : Launch} {X : ZX} {M : ZM} {c : Nat} (hc : isC c) (hW : zWc M) {ρ : Nat → Int} (hI : ICr ρ c M) (hP : PI ρ) {sh : Int} (hsh : 0 ≤ sh ∧ sh < 1099511627776) : ∀ (j i : Nat), i + j = q_n ρ 2 → (∀ s : Nat, s < i → ¬ q_nmp ρ s = sh) → zP l X 1 tX0_hasName 2 [some (zr (c : Int)), some (zl sh), none, some (zi (i : Int))] [] M (fun r M' => ∃ a, r = some (zi a) ∧ (a = q_hasn ρ sh ∧ M' = M)) := by
  have hR := hP.1
  have e2 : ρ 2 = (q_n ρ 2 : Int) := hR.n (by decide)
  have b2 := hR.2.1.2.2.1
  have e3 : ρ 3 = (q_n ρ 3 : Int) := hR.n (by decide)
  have b3 := hR.2.1.2.2.2.1
  have e4 : ρ 4 = (q_n ρ 4 : Int) := hR.n (by decide)
  have b4 := hR.2.1.2.2.2.2.1
  have hcl := hc.lt
  intro j
  induction j with
  | zero =>
    intro i hi hv
    refine p_iload_n 3 dX0_hasName_2 rfl rfl ?_
    refine p_aload_n 4 dX0_hasName_3 rfl rfl (by omega) ?_
    refine p_getR (c) 7 dX0_hasName_4 fX0_12 (tt_c hc) (wi_0_3 hc hW) ?_
    refine p_getI (c + 1) 10 dX0_hasName_7 fX0_50 (tt_1 hc) ?_
    rw [hI.1.1.2.2.2.1]
    refine p_icmp_ge 35 13 dX0_hasName_10 (by omega) (by omega) (by omega) (by omega) (fun h10 => ?_) (fun h10 => absurd (by omega) (fun h9 : False => h9))
    refine p_iconst 36 dX0_hasName_35 ?_
    refine p_istore_n 37 dX0_hasName_36 rfl (Nat.le_of_ble_eq_true rfl) rfl rfl ?_
    dsimp only [List.set]
    exact l_hasNameB hc hW hI hP hsh (fun s h => hv s (by omega)) (q_n ρ 3) 0 (Nat.zero_add _) (fun a ha => absurd ha (by omega))
  | succ j ih =>
    intro i hi hv
    refine p_iload_n 3 dX0_hasName_2 rfl rfl ?_
    refine p_aload_n 4 dX0_hasName_3 rfl rfl (by omega) ?_
    refine p_getR (c) 7 dX0_hasName_4 fX0_12 (tt_c hc) (wi_0_3 hc hW) ?_
    refine p_getI (c + 1) 10 dX0_hasName_7 fX0_50 (tt_1 hc) ?_
    rw [hI.1.1.2.2.2.1]
    refine p_icmp_ge 35 13 dX0_hasName_10 (by omega) (by omega) (by omega) (by omega) (fun h10 => absurd (by omega) (fun h9 : False => h9)) (fun h10 => ?_)
    refine p_aload_n 14 dX0_hasName_13 rfl rfl (by omega) ?_
    refine p_getR (c) 17 dX0_hasName_14 fX0_12 (tt_c hc) (wi_0_3 hc hW) ?_
    refine p_getR (c + 1) 20 dX0_hasName_17 fX0_62 (tt_1 hc) (wi_1_1 hc hW) ?_
    refine p_iload_n 21 dX0_hasName_20 rfl rfl ?_
    refine p_laldn (c + 2) 22 (i) dX0_hasName_21 (tt_2 hc) (by omega) (by omega) ?_
    rw [hI.2.1 i (by omega)]
    have zc := z_lc (hP.nm (m := i) (by omega)) hsh
    refine p_lload_n 23 dX0_hasName_22 rfl rfl ?_
    refine p_lcmp 24 dX0_hasName_23 ?_
    refine p_if_ne 29 27 dX0_hasName_24 (by omega) (by omega) (fun h24 => ?_) (fun h24 => ?_)
    · refine p_iinc 32 dX0_hasName_29 rfl rfl rfl ?_
      dsimp only [List.set]
      refine p_goto 2 dX0_hasName_32 ?_
      refine ih (i + 1) (by omega) (fun a ha2 => ?_)
      by_cases e : a = i
      · subst e; exact fun g9 => h24 (zc.1.mpr g9)
      · exact hv a (by omega)
    · refine p_iconst 28 dX0_hasName_27 ?_
      refine p_zret dX0_hasName_28 rfl (by decide) ?_
      refine ⟨_, rfl, ?_, rfl⟩
      rw [q_hasn_yes (m := i) (by omega) ((hP.2.1.1 i (by omega)).mpr (by omega)) (zc.1.mp (by omega))]
theorem s_hasName {l : Launch} {X : ZX} {M : ZM} {c : Nat} (hc : isC c) (hW : zWc M) {ρ : Nat → Int} (hI : ICr ρ c M) (hP : PI ρ) {sh : Int} (hsh : 0 ≤ sh ∧ sh < 1099511627776) : zCi l X 1 yX0_hasName tX0_hasName [zr (c : Int), zl sh] M (fun a M' => a = q_hasn ρ sh ∧ M' = M) := by
  refine zC.of [some (zr (c : Int)), some (zl sh), none, none] (by decide +kernel) rfl rfl (Nat.le_of_ble_eq_true rfl) rfl ?_
  refine p_iconst 1 dX0_hasName_0 ?_
  refine p_istore_n 2 dX0_hasName_1 rfl (Nat.le_of_ble_eq_true rfl) rfl rfl ?_
  dsimp only [List.set]
  exact l_hasNameA hc hW hI hP hsh (q_n ρ 2) 0 (Nat.zero_add _) (fun a ha => absurd ha (by omega))
theorem s_isNewName {l : Launch} {X : ZX} {M : ZM} {t : Nat → Int} {n c : Nat} (hn : n ≤ 900) (ht : ∀ i, i < n → 0 ≤ t i ∧ t i < 256) (hc : isC c) {p : Nat} (hp : p ≤ n) {ρ : Nat → Int} {N : ZM} (hS : RS t n c p ρ N M) (hP : PI ρ) : zCi l X 6 yX6_isNewName tX6_isNewName [zr 48] M (fun a M' => (q_tk t n p = 2 ∧ ¬ q_rsv t n p = true ∧ ¬ (q_fnd t n p ρ).isSome = true ∧ a = 1 ∧ M' = M) ∨ ∃ e, (∀ m, q_newn t n p ρ m = .inl e) ∧ a = 0 ∧ FL c N e M') := by
  obtain ⟨hB, hT, hI, hfr, hf0⟩ := id hS
  obtain ⟨t3, t4, t5, t6, t7⟩ := id hT
  have hal := q_at_le t hp
  have hel := q_en_le t hp
  have hsr := q_srt_bd (q_tk t n p)
  have hcl := hc.lt
  refine zC.of [some (zr 48)] (by decide +kernel) rfl rfl (Nat.le_of_ble_eq_true rfl) rfl ?_
  refine p_aload_n 1 dX6_isNewName_0 rfl rfl (by decide) ?_
  refine p_getI 48 4 dX6_isNewName_1 fX6_44 rfl ?_
  rw [t5]
  refine p_iconst 5 dX6_isNewName_4 ?_
  refine p_icmp_ne 15 8 dX6_isNewName_5 (by omega) (by omega) (by decide) (by decide) (fun h5 => ?_) (fun h5 => ?_)
  · have hk2 : ¬ q_tk t n p = 2 := fun g => h5 (q_srt1.mpr g)
    refine p_aload_n 16 dX6_isNewName_15 rfl rfl (by decide) ?_
    refine p_iconst 17 dX6_isNewName_16 ?_
    refine p_callV1i 48 20 dX6_isNewName_17 (s_failR hn ht hc hp hS.w) lk_X6_47 mX6_fail rfl rfl (by decide) (Nat.le_of_ble_eq_true rfl) ?_
    rintro _ M9 ⟨rfl, h9⟩
    refine p_zret dX6_isNewName_20 rfl (by decide) ?_
    first
      | exact ⟨_, rfl, Or.inr ⟨_, fun m => by unfold q_newn; rw [if_pos (Or.inl hk2)], rfl, h9⟩⟩
      | exact ⟨_, rfl, Or.inr ⟨_, fun m => by unfold q_newn; rw [if_pos (Or.inr hrv)], rfl, h9⟩⟩
  · have hk2 : q_tk t n p = 2 := q_srt1.mp (Decidable.not_not.mp h5)
    have hwb := q_wd_bd hp hk2
    refine p_aload_n 9 dX6_isNewName_8 rfl rfl (by decide) ?_
    refine p_callV0i 48 12 dX6_isNewName_9 (s_isReserved hn ht hc hp hS.w) lk_X6_170 mX6_isReserved rfl rfl (by decide) (Nat.le_of_ble_eq_true rfl) ?_
    rintro _ _ ⟨rfl, e9⟩
    have e9 := e9.symm
    subst e9
    refine p_if_eq 21 15 dX6_isNewName_12 (by split <;> omega) (by split <;> omega) (fun h12 => ?_) (fun h12 => ?_)
    · have hrv := if_eq0 h12
      refine p_aload_n 22 dX6_isNewName_21 rfl rfl (by decide) ?_
      refine p_getR 48 25 dX6_isNewName_22 fX6_19 rfl hB.2.2.2.1 ?_
      refine p_aload_n 26 dX6_isNewName_25 rfl rfl (by decide) ?_
      refine p_getJ 48 29 dX6_isNewName_26 fX6_76 rfl ?_
      rw [t6 hk2]
      refine p_callV1i (c) 32 dX6_isNewName_29 (s_hasName hc hB.1 hI hP (by omega)) lk_X6_173 mX0_hasName (tt_c hc) rfl (by decide) (Nat.le_of_ble_eq_true rfl) ?_
      rintro _ _ ⟨rfl, e9⟩
      have e9 := e9.symm
      subst e9
      rw [q_hasn_iff]
      refine p_if_eq 43 35 dX6_isNewName_32 (by split <;> omega) (by split <;> omega) (fun h32 => ?_) (fun h32 => ?_)
      · have hfd := if_eq0 h32
        refine p_iconst 44 dX6_isNewName_43 ?_
        refine p_goto 48 dX6_isNewName_44 ?_
        refine p_zret dX6_isNewName_48 rfl (by decide) ?_
        first
          | exact ⟨_, rfl, Or.inr ⟨_, fun m => by unfold q_newn; rw [if_neg (fun g => g.elim (fun g => g hk2) hrv), if_pos hfd], rfl, h9⟩⟩
          | exact ⟨_, rfl, Or.inl ⟨hk2, hrv, hfd, rfl, rfl⟩⟩
      · have hfd := if_neq0 h32
        refine p_aload_n 36 dX6_isNewName_35 rfl rfl (by decide) ?_
        refine p_iconst 37 dX6_isNewName_36 ?_
        refine p_callV1i 48 40 dX6_isNewName_37 (s_failR hn ht hc hp hS.w) lk_X6_47 mX6_fail rfl rfl (by decide) (Nat.le_of_ble_eq_true rfl) ?_
        rintro _ M9 ⟨rfl, h9⟩
        refine p_if_eq 47 43 dX6_isNewName_40 (by decide) (by decide) (fun h40 => ?_) (fun h40 => absurd (absurd rfl h40) (fun h9 : False => h9))
        refine p_iconst 48 dX6_isNewName_47 ?_
        refine p_zret dX6_isNewName_48 rfl (by decide) ?_
        first
          | exact ⟨_, rfl, Or.inr ⟨_, fun m => by unfold q_newn; rw [if_neg (fun g => g.elim (fun g => g hk2) hrv), if_pos hfd], rfl, h9⟩⟩
          | exact ⟨_, rfl, Or.inl ⟨hk2, hrv, hfd, rfl, rfl⟩⟩
    · have hrv := if_neq0 h12
      refine p_aload_n 16 dX6_isNewName_15 rfl rfl (by decide) ?_
      refine p_iconst 17 dX6_isNewName_16 ?_
      refine p_callV1i 48 20 dX6_isNewName_17 (s_failR hn ht hc hp hS.w) lk_X6_47 mX6_fail rfl rfl (by decide) (Nat.le_of_ble_eq_true rfl) ?_
      rintro _ M9 ⟨rfl, h9⟩
      refine p_zret dX6_isNewName_20 rfl (by decide) ?_
      first
        | exact ⟨_, rfl, Or.inr ⟨_, fun m => by unfold q_newn; rw [if_pos (Or.inl hk2)], rfl, h9⟩⟩
        | exact ⟨_, rfl, Or.inr ⟨_, fun m => by unfold q_newn; rw [if_pos (Or.inr hrv)], rfl, h9⟩⟩
theorem s_isToldWord {l : Launch} {X : ZX} {M : ZM} {t : Nat → Int} {n c : Nat} (hn : n ≤ 900) (ht : ∀ i, i < n → 0 ≤ t i ∧ t i < 256) (hc : isC c) {p : Nat} (hp : p ≤ n) {ρ : Nat → Int} {N : ZM} (hS : RS t n c p ρ N M) (hP : PI ρ) : zCi l X 6 yX6_isToldWord tX6_isToldWord [zr 48] M (fun a M' => (∃ w, w < q_n ρ 4 ∧ q_tk t n p = 2 ∧ q_told t n p ρ = .inr w ∧ q_first (fun w => decide (q_nmp ρ (10 + w) = q_wd t n p)) (q_n ρ 4) = some w ∧ a = 1 ∧ M' = M) ∨ ∃ e, q_told t n p ρ = .inl e ∧ a = 0 ∧ FL c N e M') := by
  obtain ⟨hB, hT, hI, hfr, hf0⟩ := id hS
  obtain ⟨t3, t4, t5, t6, t7⟩ := id hT
  have hal := q_at_le t hp
  have hel := q_en_le t hp
  have hsr := q_srt_bd (q_tk t n p)
  have hcl := hc.lt
  have e4 : ρ 4 = (q_n ρ 4 : Int) := hP.1.n (by decide)
  have b4 := hP.1.2.1.2.2.2.2.1
  have hmb := q_mn_bd (p := fun w => decide (q_nmp ρ (10 + w) = q_wd t n p)) (n := q_n ρ 4)
  refine zC.of [some (zr 48)] (by decide +kernel) rfl rfl (Nat.le_of_ble_eq_true rfl) rfl ?_
  refine p_aload_n 1 dX6_isToldWord_0 rfl rfl (by decide) ?_
  refine p_getI 48 4 dX6_isToldWord_1 fX6_44 rfl ?_
  rw [t5]
  refine p_iconst 5 dX6_isToldWord_4 ?_
  refine p_icmp_ne 15 8 dX6_isToldWord_5 (by omega) (by omega) (by decide) (by decide) (fun h5 => ?_) (fun h5 => ?_)
  · have hk2 : ¬ q_tk t n p = 2 := fun g => h5 (q_srt1.mpr g)
    refine p_aload_n 16 dX6_isToldWord_15 rfl rfl (by decide) ?_
    refine p_iconst 17 dX6_isToldWord_16 ?_
    refine p_callV1i 48 20 dX6_isToldWord_17 (s_failR hn ht hc hp hS.w) lk_X6_47 mX6_fail rfl rfl (by decide) (Nat.le_of_ble_eq_true rfl) ?_
    rintro _ M9 ⟨rfl, h9⟩
    refine p_zret dX6_isToldWord_20 rfl (by decide) ?_
    first
      | exact ⟨_, rfl, Or.inr ⟨_, by unfold q_told; rw [if_pos (Or.inl hk2)], rfl, h9⟩⟩
      | exact ⟨_, rfl, Or.inr ⟨_, by unfold q_told; rw [if_pos (Or.inr hrv)], rfl, h9⟩⟩
  · have hk2 : q_tk t n p = 2 := q_srt1.mp (Decidable.not_not.mp h5)
    have hwb := q_wd_bd hp hk2
    refine p_aload_n 9 dX6_isToldWord_8 rfl rfl (by decide) ?_
    refine p_callV0i 48 12 dX6_isToldWord_9 (s_isReserved hn ht hc hp hS.w) lk_X6_170 mX6_isReserved rfl rfl (by decide) (Nat.le_of_ble_eq_true rfl) ?_
    rintro _ _ ⟨rfl, e9⟩
    have e9 := e9.symm
    subst e9
    refine p_if_eq 21 15 dX6_isToldWord_12 (by split <;> omega) (by split <;> omega) (fun h12 => ?_) (fun h12 => ?_)
    · have hrv := if_eq0 h12
      refine p_aload_n 22 dX6_isToldWord_21 rfl rfl (by decide) ?_
      refine p_getR 48 25 dX6_isToldWord_22 fX6_19 rfl hB.2.2.2.1 ?_
      refine p_getR (c) 28 dX6_isToldWord_25 fX6_134 (tt_c hc) (wi_0_5 hc hB.1) ?_
      refine p_aload_n 29 dX6_isToldWord_28 rfl rfl (by decide) ?_
      refine p_getJ 48 32 dX6_isToldWord_29 fX6_76 rfl ?_
      rw [t6 hk2]
      refine p_callV1i (c + 11) 35 dX6_isToldWord_32 (s_findG hc hB.1 (n := q_n ρ 4) (g := fun w => q_nmp ρ (10 + w)) (hI.1.1.2.2.2.2.2.1.trans e4) (by omega) (fun k hk => (hI.2.2.2 k (by omega)).1) (fun k hk => hP.nm (by omega)) (by omega)) lk_X6_246 mX10_find (tt_11 hc) rfl (by decide) (Nat.le_of_ble_eq_true rfl) ?_
      rintro _ _ ⟨rfl, e9⟩
      have e9 := e9.symm
      subst e9
      refine p_iconst 36 dX6_isToldWord_35 ?_
      refine p_icmp_ne 47 39 dX6_isToldWord_36 (by omega) (by omega) (by decide) (by decide) (fun h36 => ?_) (fun h36 => ?_)
      · obtain ⟨w, hw⟩ : ∃ w, q_first (fun w => decide (q_nmp ρ (10 + w) = q_wd t n p)) (q_n ρ 4) = some w := by
          cases hq : q_first (fun w => decide (q_nmp ρ (10 + w) = q_wd t n p)) (q_n ρ 4) with
          | none => exact absurd (q_mn_none.mpr hq) h36
          | some w => exact ⟨w, rfl⟩
        refine p_iconst 48 dX6_isToldWord_47 ?_
        refine p_goto 52 dX6_isToldWord_48 ?_
        refine p_zret dX6_isToldWord_52 rfl (by decide) ?_
        first
          | exact ⟨_, rfl, Or.inr ⟨_, by unfold q_told; rw [if_neg (fun g => g.elim (fun g => g hk2) hrv), hno], rfl, h9⟩⟩
          | exact ⟨_, rfl, Or.inl ⟨w, (q_first_some hw).1, hk2, by unfold q_told; rw [if_neg (fun g => g.elim (fun g => g hk2) hrv), hw], hw, rfl, rfl⟩⟩
      · have hno := q_mn_none.mp (Decidable.not_not.mp h36)
        refine p_aload_n 40 dX6_isToldWord_39 rfl rfl (by decide) ?_
        refine p_iconst 41 dX6_isToldWord_40 ?_
        refine p_callV1i 48 44 dX6_isToldWord_41 (s_failR hn ht hc hp hS.w) lk_X6_47 mX6_fail rfl rfl (by decide) (Nat.le_of_ble_eq_true rfl) ?_
        rintro _ M9 ⟨rfl, h9⟩
        refine p_if_eq 51 47 dX6_isToldWord_44 (by decide) (by decide) (fun h44 => ?_) (fun h44 => absurd (absurd rfl h44) (fun h9 : False => h9))
        refine p_iconst 52 dX6_isToldWord_51 ?_
        refine p_zret dX6_isToldWord_52 rfl (by decide) ?_
        first
          | exact ⟨_, rfl, Or.inr ⟨_, by unfold q_told; rw [if_neg (fun g => g.elim (fun g => g hk2) hrv), hno], rfl, h9⟩⟩
          | exact ⟨_, rfl, Or.inl ⟨w, (q_first_some hw).1, hk2, by unfold q_told; rw [if_neg (fun g => g.elim (fun g => g hk2) hrv), hw], hw, rfl, rfl⟩⟩
    · have hrv := if_neq0 h12
      refine p_aload_n 16 dX6_isToldWord_15 rfl rfl (by decide) ?_
      refine p_iconst 17 dX6_isToldWord_16 ?_
      refine p_callV1i 48 20 dX6_isToldWord_17 (s_failR hn ht hc hp hS.w) lk_X6_47 mX6_fail rfl rfl (by decide) (Nat.le_of_ble_eq_true rfl) ?_
      rintro _ M9 ⟨rfl, h9⟩
      refine p_zret dX6_isToldWord_20 rfl (by decide) ?_
      first
        | exact ⟨_, rfl, Or.inr ⟨_, by unfold q_told; rw [if_pos (Or.inl hk2)], rfl, h9⟩⟩
        | exact ⟨_, rfl, Or.inr ⟨_, by unfold q_told; rw [if_pos (Or.inr hrv)], rfl, h9⟩⟩
