theorem if_ne0 {p : Prop} [Decidable p] (h : (if p then (1 : Int) else 0) ≠ 0) : p := by
  by_cases hp : p
  · exact hp
  · rw [if_neg hp] at h; exact absurd rfl h
theorem if_nne0 {p : Prop} [Decidable p] (h : ¬ (if p then (1 : Int) else 0) ≠ 0) : ¬ p := fun hp => h (by rw [if_pos hp]; decide)
theorem if_eq0 {p : Prop} [Decidable p] (h : (if p then (1 : Int) else 0) = 0) : ¬ p := fun hp => by rw [if_pos hp] at h; exact absurd h (by decide)
theorem if_neq0 {p : Prop} [Decidable p] (h : ¬ (if p then (1 : Int) else 0) = 0) : p := if_ne0 h
theorem q_set_ext {p : Nat → Bool} {n m : Nat} (h : n ≤ m) (hp : ∀ i, n ≤ i → i < m → p i = false) : q_set p m = q_set p n := by
  induction m with
  | zero => rw [Nat.le_zero.mp h]
  | succ m ih =>
    by_cases e : n = m + 1
    · rw [e]
    · have h1 : q_set p (m + 1) = if p m then q_set p m ||| 2 ^ m else q_set p m := rfl
      rw [h1, hp m (by omega) (by omega), if_neg (by decide), ih (by omega) (fun i a b => hp i a (by omega))]
theorem q_sum_ext {f : Nat → Nat} {n m : Nat} (h : n ≤ m) (hp : ∀ i, n ≤ i → i < m → f i = 0) : q_sum f m = q_sum f n := by
  induction m with
  | zero => rw [Nat.le_zero.mp h]
  | succ m ih =>
    by_cases e : n = m + 1
    · rw [e]
    · have h1 : q_sum f (m + 1) = q_sum f m + f m := rfl
      rw [h1, hp m (by omega) (by omega), Nat.add_zero, ih (by omega) (fun i a b => hp i a (by omega))]
theorem q_sum_zero {f : Nat → Nat} {n : Nat} (hp : ∀ i, i < n → f i = 0) : q_sum f n = 0 := (q_sum_ext (Nat.zero_le n) (fun i _ h => hp i h)).trans rfl
/-- those whom one tends -/
def q_by (ρ τ : Nat → Int) (a : Nat) : Nat := q_set (fun s => decide (τ (7 + s) = (a : Int) + 1)) (q_n ρ 2)
theorem q_by7 {ρ τ : Nat → Int} (hR : wfR ρ) (hT : wfT ρ τ) (a : Nat) : q_set (fun s => decide (τ (7 + s) = (a : Int) + 1)) 7 = q_by ρ τ a := by
  have e2 : ρ 2 = (q_n ρ 2 : Int) := hR.n (by decide)
  have b2 := hR.2.1.2.2.1
  refine q_set_ext (by omega) (fun i h1 h2 => ?_)
  have h3 := ((hT.2.1 i h2).2.2 (by omega)).2
  simp only [decide_eq_false_iff_not]
  omega
theorem q_by_lt {ρ τ : Nat → Int} (hR : wfR ρ) (a : Nat) : q_by ρ τ a < 128 := by
  have e2 : ρ 2 = (q_n ρ 2 : Int) := hR.n (by decide)
  have b2 := hR.2.1.2.2.1
  exact Nat.lt_of_lt_of_le (q_set_lt _ _) (Nat.pow_le_pow_right (n := 2) (by decide) (show q_n ρ 2 ≤ 7 by omega))
def q_ones (S : Nat) : Nat := q_cntp (fun k => S.testBit k) 8
theorem q_ones_le (S : Nat) : q_ones S ≤ 8 := by
  have : ∀ n, q_cntp (fun k => S.testBit k) n ≤ n := by
    intro n
    induction n with
    | zero => exact Nat.le_refl 0
    | succ n ih =>
      show q_cntp (fun k => S.testBit k) n + (if S.testBit n then 1 else 0) ≤ n + 1
      split <;> omega
  exact this 8
def pa_sleeper (h : Int) (ρ τ : Nat → Int) (s w : Int) : Int × Int := if h = 0 ∨ s < 0 ∨ ρ 2 ≤ s ∨ w < 0 ∨ 5 < w then (-1, 1) else if w = 0 then (ρ (8 + 3 * s.toNat), 0) else if w = 1 then (ρ (8 + 3 * s.toNat + 1), 0) else if w = 2 then (ρ (8 + 3 * s.toNat + 2), 0) else if w = 3 then (τ s.toNat, 0) else if w = 4 then (q_tnd (τ (7 + s.toNat)), 0) else ((q_set (fun a => q_reach (q_n ρ) a s.toNat) (q_n ρ 3) : Int), 0)
def pa_awake (h : Int) (ρ τ : Nat → Int) (a w : Int) : Int × Int := if h = 0 ∨ a < 0 ∨ ρ 3 ≤ a ∨ w < 0 ∨ 4 < w then (-1, 1) else if w = 0 then (ρ (29 + 3 * a.toNat), 0) else if w = 1 then (ρ (29 + 3 * a.toNat + 1), 0) else if w = 2 then (ρ (29 + 3 * a.toNat + 2), 0) else if w = 3 then ((q_by ρ τ a.toNat : Int), 0) else (ρ (29 + 3 * a.toNat + 1) - (q_ones (q_by ρ τ a.toNat) : Int), 0)
def pa_harmOf (h : Int) (ρ τ : Nat → Int) (s : Int) : Int × Int := if h = 0 ∨ s < 0 ∨ ρ 2 ≤ s then (-1, 1) else ((q_harmN (q_n ρ) τ s.toNat : Int), 0)
def pa_harm (h : Int) (ρ τ : Nat → Int) : Int × Int := if h = 0 then (-1, 1) else ((q_sum (q_harmN (q_n ρ) τ) (q_n ρ 2) : Int), 0)
def pa_harmed (h : Int) (ρ τ : Nat → Int) : Int × Int := if h = 0 then (-1, 1) else ((q_sum (fun s => (τ s).toNat) (q_n ρ 2) : Int), 0)
theorem q_harmed7 {ρ τ : Nat → Int} (hR : wfR ρ) (hT : wfT ρ τ) : q_sum (fun s => (τ s).toNat) 7 = q_sum (fun s => (τ s).toNat) (q_n ρ 2) := by
  have e2 : ρ 2 = (q_n ρ 2 : Int) := hR.n (by decide)
  have b2 := hR.2.1.2.2.1
  refine q_sum_ext (by omega) (fun i h1 h2 => ?_)
  have h3 := ((hT.2.1 i h2).2.2 (by omega)).1
  simp only [h3]
  rfl
def q_worst (τ : Nat → Int) : Nat → Int × Int
  | 0 => (0, -2)
  | n + 1 => if (q_worst τ n).1 < τ n then (τ n, (n : Int)) else q_worst τ n
def pa_worst (h : Int) (ρ τ : Nat → Int) : Int × Int := if h = 0 then (-1, 1) else ((q_worst τ (q_n ρ 2)).2, 0)
theorem q_worst_ok {τ : Nat → Int} : ∀ n, (∀ i, i < n → 0 ≤ τ i ∧ τ i ≤ 1000000) → 0 ≤ (q_worst τ n).1 ∧ (q_worst τ n).1 ≤ 1000000 ∧ (((q_worst τ n).2 = -2 ∧ (q_worst τ n).1 = 0) ∨ ∃ k : Nat, k < n ∧ (q_worst τ n).2 = (k : Int) ∧ (q_worst τ n).1 = τ k) := by
  intro n
  induction n with
  | zero => intro _; exact ⟨Int.le_refl 0, by show (0 : Int) ≤ 1000000; decide, Or.inl ⟨rfl, rfl⟩⟩
  | succ n ih =>
    intro h
    obtain ⟨a, b, c⟩ := ih (fun i hi => h i (by omega))
    have hn := h n (by omega)
    unfold q_worst
    split
    · exact ⟨hn.1, hn.2, Or.inr ⟨n, by omega, rfl, rfl⟩⟩
    · refine ⟨a, b, ?_⟩
      rcases c with c | ⟨k, c1, c2, c3⟩
      · exact Or.inl c
      · exact Or.inr ⟨k, by omega, c2, c3⟩
theorem q_worst7 {ρ τ : Nat → Int} (hR : wfR ρ) (hT : wfT ρ τ) : ∀ m, q_n ρ 2 + m ≤ 7 → q_worst τ (q_n ρ 2 + m) = q_worst τ (q_n ρ 2) := by
  have e2 : ρ 2 = (q_n ρ 2 : Int) := hR.n (by decide)
  intro m
  induction m with
  | zero => intro _; rfl
  | succ m ih =>
    intro h
    have h1 := ih (by omega)
    have h3 := ((hT.2.1 (q_n ρ 2 + m) (by omega)).2.2 (by omega)).1
    have h4 := (q_worst_ok (τ := τ) (q_n ρ 2 + m) (fun i hi => ⟨hT.1 i (by omega), by have := (hT.2.1 i (by omega)).1; have := hT.2.2.2.1; omega⟩)).1
    show (if (q_worst τ (q_n ρ 2 + m)).1 < τ (q_n ρ 2 + m) then _ else q_worst τ (q_n ρ 2 + m)) = _
    rw [if_neg (by omega), h1]
theorem c_sleeper {l : Launch} {X : ZX} {M : ZM} (hI : IC M M) (hF : WF M) {s w : Int} (hs1 : -2147483648 ≤ s) (hs2 : s < 2147483648) (hw1 : -2147483648 ≤ w) (hw2 : w < 2147483648) : zCi l X 3 yX11_sleeper tX11_sleeper [zr 0, zi s, zi w] M (CQ M (pa_sleeper (M 124 14) (M 127) (M 129) s w)) := by
  obtain ⟨hW, ⟨c, c', hcc, hco, hsp, hC⟩, ⟨j1, j2, j3, j4, j5⟩, hN, hpast, hten, ⟨hz0, hsea⟩, hfit⟩ := id hI
  have hR := hF.r
  have hT := hF.t
  have hh := hF.h
  have e0 : M 127 0 = (q_n (M 127) 0 : Int) := hR.n (by decide)
  have e2 : M 127 2 = (q_n (M 127) 2 : Int) := hR.n (by decide)
  have e3 : M 127 3 = (q_n (M 127) 3 : Int) := hR.n (by decide)
  have e4 : M 127 4 = (q_n (M 127) 4 : Int) := hR.n (by decide)
  have bR := hR.2.1
  have h20 : M 124 14 = 0 → M 127 2 = 0 := fun h => hF.r0 h 2 (by decide)
  have h30 : M 124 14 = 0 → M 127 3 = 0 := fun h => hF.r0 h 3 (by decide)
  have h40 : M 124 14 = 0 → M 127 4 = 0 := fun h => hF.r0 h 4 (by decide)
  have hwo : M 49 3 = M 129 16 := hN.2.2.2.1
  have t160 := hT.1 16 (by decide)
  have t161 := hT.2.2.2.2.1
  refine zC.of [some (zr 0), some (zi s), some (zi w)] (by decide +kernel) rfl rfl (Nat.le_of_ble_eq_true rfl) rfl ?_
  rcases hcc with ⟨rfl, rfl⟩ | ⟨rfl, rfl⟩
  · have hto : M 2 0 = M 124 14 := hC.1.1
    have hla : M 2 1 = M 127 0 := hC.1.2.1
    have hsn : M 2 2 = M 127 1 := hC.1.2.2.1
    have hcs : M 3 0 = M 127 2 := hC.1.2.2.2.1
    have hca : M 8 0 = M 127 3 := hC.1.2.2.2.2.1
    have hcw : M 13 0 = M 127 4 := hC.1.2.2.2.2.2.1
    have hcb : M 13 1 = M 127 5 := hC.1.2.2.2.2.2.2.1
    have hcor : M 19 0 = M 127 6 := hC.1.2.2.2.2.2.2.2.1
    have hcn : M 19 4 = M 127 7 := hC.1.2.2.2.2.2.2.2.2
    refine p_aload_n 1 dX11_sleeper_0 rfl rfl (by decide) ?_
    refine p_iload_n 2 dX11_sleeper_1 rfl rfl ?_
    refine p_callV1i 0 5 dX11_sleeper_2 (s_isSleeper_2 hW hC hR hco (by omega) (by omega)) lk_X11_125 mX11_isSleeper rfl rfl (by decide) (Nat.le_of_ble_eq_true rfl) ?_
    rintro _ _ ⟨rfl, e9⟩
    have e9 := e9.symm
    subst e9
    refine p_if_ne 14 8 dX11_sleeper_5 (by split <;> omega) (by split <;> omega) (fun h5 => ?_) (fun h5 => ?_)
    · have h5 := if_ne0 h5
      obtain ⟨n, rfl⟩ : ∃ k : Nat, s = (k : Int) := ⟨s.toNat, by omega⟩
      obtain ⟨g1, g2, g3⟩ := hC.2.1 n (by omega)
      have g1 : M 5 n = _ := g1
      have g2 : M 6 n = _ := g2
      have g3 : M 7 n = _ := g3
      have g4 : M 50 n = _ := hN.2.2.2.2.1 n (by omega)
      have g5 : M 51 n = _ := hN.2.2.2.2.2 (by omega) n (by omega)
      refine p_iload_n 15 dX11_sleeper_14 rfl rfl ?_
      have hsw15 : w = 0 ∨ w = 1 ∨ w = 2 ∨ w = 3 ∨ w = 4 ∨ w = 5 ∨ (w < 0 ∨ 5 < w) := by omega
      rcases hsw15 with hs15 | hs15 | hs15 | hs15 | hs15 | hs15 | hs15
      · refine p_tabJ (off := 37) 0 52 dX11_sleeper_15 hs15 (by decide) (by decide) (by decide) ?_
        refine p_aload_n 53 dX11_sleeper_52 rfl rfl (by decide) ?_
        refine p_aload_n 54 dX11_sleeper_53 rfl rfl (by decide) ?_
        refine p_getR 0 57 dX11_sleeper_54 fX11_16 rfl hco ?_
        refine p_getR 2 60 dX11_sleeper_57 fX11_99 rfl (hW (2, 3, 3) (by decide)) ?_
        refine p_getR 3 63 dX11_sleeper_60 fX11_129 rfl (hW (3, 2, 5) (by decide)) ?_
        refine p_iload_n 64 dX11_sleeper_63 rfl rfl ?_
        refine p_iald 5 65 dX11_sleeper_64 rfl (by omega) (by omega) ?_
        try simp only [Int.toNat_natCast, Int.reduceToNat]
        refine p_callV1i 0 68 dX11_sleeper_65 s_grant lk_X11_108 mX11_grant rfl rfl (by decide) (Nat.le_of_ble_eq_true rfl) ?_
        rintro _ _ ⟨rfl, rfl⟩
        refine p_iret dX11_sleeper_68 rfl ?_
        exact ⟨_, rfl, CQ.of hI hF (fun k _ => rfl) (by unfold pa_sleeper; (repeat' split) <;> first | rfl | (exfalso; omega) | exact g1 | exact g2 | exact g3 | exact g4 | exact g5) (by unfold pa_sleeper; (repeat' split) <;> first | rfl | (exfalso; omega)) (by decide)⟩
      · refine p_tabJ (off := 54) 1 69 dX11_sleeper_15 hs15 (by decide) (by decide) (by decide) ?_
        refine p_aload_n 70 dX11_sleeper_69 rfl rfl (by decide) ?_
        refine p_aload_n 71 dX11_sleeper_70 rfl rfl (by decide) ?_
        refine p_getR 0 74 dX11_sleeper_71 fX11_16 rfl hco ?_
        refine p_getR 2 77 dX11_sleeper_74 fX11_99 rfl (hW (2, 3, 3) (by decide)) ?_
        refine p_getR 3 80 dX11_sleeper_77 fX11_133 rfl (hW (3, 3, 6) (by decide)) ?_
        refine p_iload_n 81 dX11_sleeper_80 rfl rfl ?_
        refine p_iald 6 82 dX11_sleeper_81 rfl (by omega) (by omega) ?_
        try simp only [Int.toNat_natCast, Int.reduceToNat]
        refine p_callV1i 0 85 dX11_sleeper_82 s_grant lk_X11_108 mX11_grant rfl rfl (by decide) (Nat.le_of_ble_eq_true rfl) ?_
        rintro _ _ ⟨rfl, rfl⟩
        refine p_iret dX11_sleeper_85 rfl ?_
        exact ⟨_, rfl, CQ.of hI hF (fun k _ => rfl) (by unfold pa_sleeper; (repeat' split) <;> first | rfl | (exfalso; omega) | exact g1 | exact g2 | exact g3 | exact g4 | exact g5) (by unfold pa_sleeper; (repeat' split) <;> first | rfl | (exfalso; omega)) (by decide)⟩
      · refine p_tabJ (off := 71) 2 86 dX11_sleeper_15 hs15 (by decide) (by decide) (by decide) ?_
        refine p_aload_n 87 dX11_sleeper_86 rfl rfl (by decide) ?_
        refine p_aload_n 88 dX11_sleeper_87 rfl rfl (by decide) ?_
        refine p_getR 0 91 dX11_sleeper_88 fX11_16 rfl hco ?_
        refine p_getR 2 94 dX11_sleeper_91 fX11_99 rfl (hW (2, 3, 3) (by decide)) ?_
        refine p_getR 3 97 dX11_sleeper_94 fX11_136 rfl (hW (3, 4, 7) (by decide)) ?_
        refine p_iload_n 98 dX11_sleeper_97 rfl rfl ?_
        refine p_iald 7 99 dX11_sleeper_98 rfl (by omega) (by omega) ?_
        try simp only [Int.toNat_natCast, Int.reduceToNat]
        refine p_callV1i 0 102 dX11_sleeper_99 s_grant lk_X11_108 mX11_grant rfl rfl (by decide) (Nat.le_of_ble_eq_true rfl) ?_
        rintro _ _ ⟨rfl, rfl⟩
        refine p_iret dX11_sleeper_102 rfl ?_
        exact ⟨_, rfl, CQ.of hI hF (fun k _ => rfl) (by unfold pa_sleeper; (repeat' split) <;> first | rfl | (exfalso; omega) | exact g1 | exact g2 | exact g3 | exact g4 | exact g5) (by unfold pa_sleeper; (repeat' split) <;> first | rfl | (exfalso; omega)) (by decide)⟩
      · refine p_tabJ (off := 88) 3 103 dX11_sleeper_15 hs15 (by decide) (by decide) (by decide) ?_
        refine p_aload_n 104 dX11_sleeper_103 rfl rfl (by decide) ?_
        refine p_aload_n 105 dX11_sleeper_104 rfl rfl (by decide) ?_
        refine p_getR 0 108 dX11_sleeper_105 fX11_33 rfl (hW (0, 8, 49) (by decide)) ?_
        refine p_getR 49 111 dX11_sleeper_108 fX11_139 rfl (hW (49, 4, 50) (by decide)) ?_
        refine p_iload_n 112 dX11_sleeper_111 rfl rfl ?_
        refine p_iald 50 113 dX11_sleeper_112 rfl (by omega) (by omega) ?_
        try simp only [Int.toNat_natCast, Int.reduceToNat]
        refine p_callV1i 0 116 dX11_sleeper_113 s_grant lk_X11_108 mX11_grant rfl rfl (by decide) (Nat.le_of_ble_eq_true rfl) ?_
        rintro _ _ ⟨rfl, rfl⟩
        refine p_iret dX11_sleeper_116 rfl ?_
        exact ⟨_, rfl, CQ.of hI hF (fun k _ => rfl) (by unfold pa_sleeper; (repeat' split) <;> first | rfl | (exfalso; omega) | exact g1 | exact g2 | exact g3 | exact g4 | exact g5) (by unfold pa_sleeper; (repeat' split) <;> first | rfl | (exfalso; omega)) (by decide)⟩
      · refine p_tabJ (off := 102) 4 117 dX11_sleeper_15 hs15 (by decide) (by decide) (by decide) ?_
        refine p_aload_n 118 dX11_sleeper_117 rfl rfl (by decide) ?_
        refine p_aload_n 119 dX11_sleeper_118 rfl rfl (by decide) ?_
        refine p_getR 0 122 dX11_sleeper_119 fX11_33 rfl (hW (0, 8, 49) (by decide)) ?_
        refine p_getR 49 125 dX11_sleeper_122 fX11_142 rfl (hW (49, 5, 51) (by decide)) ?_
        refine p_iload_n 126 dX11_sleeper_125 rfl rfl ?_
        refine p_iald 51 127 dX11_sleeper_126 rfl (by omega) (by omega) ?_
        try simp only [Int.toNat_natCast, Int.reduceToNat]
        refine p_callV1i 0 130 dX11_sleeper_127 s_grant lk_X11_108 mX11_grant rfl rfl (by decide) (Nat.le_of_ble_eq_true rfl) ?_
        rintro _ _ ⟨rfl, rfl⟩
        refine p_iret dX11_sleeper_130 rfl ?_
        exact ⟨_, rfl, CQ.of hI hF (fun k _ => rfl) (by unfold pa_sleeper; (repeat' split) <;> first | rfl | (exfalso; omega) | exact g1 | exact g2 | exact g3 | exact g4 | exact g5) (by unfold pa_sleeper; (repeat' split) <;> first | rfl | (exfalso; omega)) (by decide)⟩
      · refine p_tabJ (off := 116) 5 131 dX11_sleeper_15 hs15 (by decide) (by decide) (by decide) ?_
        refine p_aload_n 132 dX11_sleeper_131 rfl rfl (by decide) ?_
        refine p_aload_n 133 dX11_sleeper_132 rfl rfl (by decide) ?_
        refine p_getR 0 136 dX11_sleeper_133 fX11_16 rfl hco ?_
        refine p_iload_n 137 dX11_sleeper_136 rfl rfl ?_
        refine p_callV1i 2 140 dX11_sleeper_137 (s_tendersOf_2 hW hC hR (by omega)) lk_X11_145 mX0_tendersOf rfl rfl (by decide) (Nat.le_of_ble_eq_true rfl) ?_
        rintro _ _ ⟨rfl, e9⟩
        have e9 := e9.symm
        subst e9
        refine p_callV1i 0 143 dX11_sleeper_140 s_grant lk_X11_108 mX11_grant rfl rfl (by decide) (Nat.le_of_ble_eq_true rfl) ?_
        rintro _ _ ⟨rfl, rfl⟩
        refine p_iret dX11_sleeper_143 rfl ?_
        exact ⟨_, rfl, CQ.of hI hF (fun k _ => rfl) (by unfold pa_sleeper; (repeat' split) <;> first | rfl | (exfalso; omega) | exact g1 | exact g2 | exact g3 | exact g4 | exact g5) (by unfold pa_sleeper; (repeat' split) <;> first | rfl | (exfalso; omega)) (by decide)⟩
      · refine p_tabD 144 dX11_sleeper_15 (by omega) (by omega) hs15 ?_
        refine p_aload_n 145 dX11_sleeper_144 rfl rfl (by decide) ?_
        refine p_iconst 146 dX11_sleeper_145 ?_
        refine p_callV1i 0 149 dX11_sleeper_146 s_refuse lk_X11_73 mX11_refuse rfl rfl (by decide) (Nat.le_of_ble_eq_true rfl) ?_
        rintro _ _ ⟨rfl, rfl⟩
        refine p_iret dX11_sleeper_149 rfl ?_
        exact ⟨_, rfl, CQ.of hI hF (fun k _ => rfl) (by unfold pa_sleeper; (repeat' split) <;> first | rfl | (exfalso; omega) | exact g1 | exact g2 | exact g3 | exact g4 | exact g5) (by unfold pa_sleeper; (repeat' split) <;> first | rfl | (exfalso; omega)) (by decide)⟩
    · refine p_aload_n 9 dX11_sleeper_8 rfl rfl (by decide) ?_
      refine p_iconst 10 dX11_sleeper_9 ?_
      refine p_callV1i 0 13 dX11_sleeper_10 s_refuse lk_X11_73 mX11_refuse rfl rfl (by decide) (Nat.le_of_ble_eq_true rfl) ?_
      rintro _ _ ⟨rfl, rfl⟩
      refine p_iret dX11_sleeper_13 rfl ?_
      have h5 := if_nne0 h5
      exact ⟨_, rfl, CQ.of hI hF (fun k _ => rfl) (by unfold pa_sleeper; (repeat' split) <;> first | rfl | (exfalso; omega)) (by unfold pa_sleeper; (repeat' split) <;> first | rfl | (exfalso; omega)) (by decide)⟩
  · have hto : M 25 0 = M 124 14 := hC.1.1
    have hla : M 25 1 = M 127 0 := hC.1.2.1
    have hsn : M 25 2 = M 127 1 := hC.1.2.2.1
    have hcs : M 26 0 = M 127 2 := hC.1.2.2.2.1
    have hca : M 31 0 = M 127 3 := hC.1.2.2.2.2.1
    have hcw : M 36 0 = M 127 4 := hC.1.2.2.2.2.2.1
    have hcb : M 36 1 = M 127 5 := hC.1.2.2.2.2.2.2.1
    have hcor : M 42 0 = M 127 6 := hC.1.2.2.2.2.2.2.2.1
    have hcn : M 42 4 = M 127 7 := hC.1.2.2.2.2.2.2.2.2
    refine p_aload_n 1 dX11_sleeper_0 rfl rfl (by decide) ?_
    refine p_iload_n 2 dX11_sleeper_1 rfl rfl ?_
    refine p_callV1i 0 5 dX11_sleeper_2 (s_isSleeper_25 hW hC hR hco (by omega) (by omega)) lk_X11_125 mX11_isSleeper rfl rfl (by decide) (Nat.le_of_ble_eq_true rfl) ?_
    rintro _ _ ⟨rfl, e9⟩
    have e9 := e9.symm
    subst e9
    refine p_if_ne 14 8 dX11_sleeper_5 (by split <;> omega) (by split <;> omega) (fun h5 => ?_) (fun h5 => ?_)
    · have h5 := if_ne0 h5
      obtain ⟨n, rfl⟩ : ∃ k : Nat, s = (k : Int) := ⟨s.toNat, by omega⟩
      obtain ⟨g1, g2, g3⟩ := hC.2.1 n (by omega)
      have g1 : M 28 n = _ := g1
      have g2 : M 29 n = _ := g2
      have g3 : M 30 n = _ := g3
      have g4 : M 50 n = _ := hN.2.2.2.2.1 n (by omega)
      have g5 : M 51 n = _ := hN.2.2.2.2.2 (by omega) n (by omega)
      refine p_iload_n 15 dX11_sleeper_14 rfl rfl ?_
      have hsw15 : w = 0 ∨ w = 1 ∨ w = 2 ∨ w = 3 ∨ w = 4 ∨ w = 5 ∨ (w < 0 ∨ 5 < w) := by omega
      rcases hsw15 with hs15 | hs15 | hs15 | hs15 | hs15 | hs15 | hs15
      · refine p_tabJ (off := 37) 0 52 dX11_sleeper_15 hs15 (by decide) (by decide) (by decide) ?_
        refine p_aload_n 53 dX11_sleeper_52 rfl rfl (by decide) ?_
        refine p_aload_n 54 dX11_sleeper_53 rfl rfl (by decide) ?_
        refine p_getR 0 57 dX11_sleeper_54 fX11_16 rfl hco ?_
        refine p_getR 25 60 dX11_sleeper_57 fX11_99 rfl (hW (25, 3, 26) (by decide)) ?_
        refine p_getR 26 63 dX11_sleeper_60 fX11_129 rfl (hW (26, 2, 28) (by decide)) ?_
        refine p_iload_n 64 dX11_sleeper_63 rfl rfl ?_
        refine p_iald 28 65 dX11_sleeper_64 rfl (by omega) (by omega) ?_
        try simp only [Int.toNat_natCast, Int.reduceToNat]
        refine p_callV1i 0 68 dX11_sleeper_65 s_grant lk_X11_108 mX11_grant rfl rfl (by decide) (Nat.le_of_ble_eq_true rfl) ?_
        rintro _ _ ⟨rfl, rfl⟩
        refine p_iret dX11_sleeper_68 rfl ?_
        exact ⟨_, rfl, CQ.of hI hF (fun k _ => rfl) (by unfold pa_sleeper; (repeat' split) <;> first | rfl | (exfalso; omega) | exact g1 | exact g2 | exact g3 | exact g4 | exact g5) (by unfold pa_sleeper; (repeat' split) <;> first | rfl | (exfalso; omega)) (by decide)⟩
      · refine p_tabJ (off := 54) 1 69 dX11_sleeper_15 hs15 (by decide) (by decide) (by decide) ?_
        refine p_aload_n 70 dX11_sleeper_69 rfl rfl (by decide) ?_
        refine p_aload_n 71 dX11_sleeper_70 rfl rfl (by decide) ?_
        refine p_getR 0 74 dX11_sleeper_71 fX11_16 rfl hco ?_
        refine p_getR 25 77 dX11_sleeper_74 fX11_99 rfl (hW (25, 3, 26) (by decide)) ?_
        refine p_getR 26 80 dX11_sleeper_77 fX11_133 rfl (hW (26, 3, 29) (by decide)) ?_
        refine p_iload_n 81 dX11_sleeper_80 rfl rfl ?_
        refine p_iald 29 82 dX11_sleeper_81 rfl (by omega) (by omega) ?_
        try simp only [Int.toNat_natCast, Int.reduceToNat]
        refine p_callV1i 0 85 dX11_sleeper_82 s_grant lk_X11_108 mX11_grant rfl rfl (by decide) (Nat.le_of_ble_eq_true rfl) ?_
        rintro _ _ ⟨rfl, rfl⟩
        refine p_iret dX11_sleeper_85 rfl ?_
        exact ⟨_, rfl, CQ.of hI hF (fun k _ => rfl) (by unfold pa_sleeper; (repeat' split) <;> first | rfl | (exfalso; omega) | exact g1 | exact g2 | exact g3 | exact g4 | exact g5) (by unfold pa_sleeper; (repeat' split) <;> first | rfl | (exfalso; omega)) (by decide)⟩
      · refine p_tabJ (off := 71) 2 86 dX11_sleeper_15 hs15 (by decide) (by decide) (by decide) ?_
        refine p_aload_n 87 dX11_sleeper_86 rfl rfl (by decide) ?_
        refine p_aload_n 88 dX11_sleeper_87 rfl rfl (by decide) ?_
        refine p_getR 0 91 dX11_sleeper_88 fX11_16 rfl hco ?_
        refine p_getR 25 94 dX11_sleeper_91 fX11_99 rfl (hW (25, 3, 26) (by decide)) ?_
        refine p_getR 26 97 dX11_sleeper_94 fX11_136 rfl (hW (26, 4, 30) (by decide)) ?_
        refine p_iload_n 98 dX11_sleeper_97 rfl rfl ?_
        refine p_iald 30 99 dX11_sleeper_98 rfl (by omega) (by omega) ?_
        try simp only [Int.toNat_natCast, Int.reduceToNat]
        refine p_callV1i 0 102 dX11_sleeper_99 s_grant lk_X11_108 mX11_grant rfl rfl (by decide) (Nat.le_of_ble_eq_true rfl) ?_
        rintro _ _ ⟨rfl, rfl⟩
        refine p_iret dX11_sleeper_102 rfl ?_
        exact ⟨_, rfl, CQ.of hI hF (fun k _ => rfl) (by unfold pa_sleeper; (repeat' split) <;> first | rfl | (exfalso; omega) | exact g1 | exact g2 | exact g3 | exact g4 | exact g5) (by unfold pa_sleeper; (repeat' split) <;> first | rfl | (exfalso; omega)) (by decide)⟩
      · refine p_tabJ (off := 88) 3 103 dX11_sleeper_15 hs15 (by decide) (by decide) (by decide) ?_
        refine p_aload_n 104 dX11_sleeper_103 rfl rfl (by decide) ?_
        refine p_aload_n 105 dX11_sleeper_104 rfl rfl (by decide) ?_
        refine p_getR 0 108 dX11_sleeper_105 fX11_33 rfl (hW (0, 8, 49) (by decide)) ?_
        refine p_getR 49 111 dX11_sleeper_108 fX11_139 rfl (hW (49, 4, 50) (by decide)) ?_
        refine p_iload_n 112 dX11_sleeper_111 rfl rfl ?_
        refine p_iald 50 113 dX11_sleeper_112 rfl (by omega) (by omega) ?_
        try simp only [Int.toNat_natCast, Int.reduceToNat]
        refine p_callV1i 0 116 dX11_sleeper_113 s_grant lk_X11_108 mX11_grant rfl rfl (by decide) (Nat.le_of_ble_eq_true rfl) ?_
        rintro _ _ ⟨rfl, rfl⟩
        refine p_iret dX11_sleeper_116 rfl ?_
        exact ⟨_, rfl, CQ.of hI hF (fun k _ => rfl) (by unfold pa_sleeper; (repeat' split) <;> first | rfl | (exfalso; omega) | exact g1 | exact g2 | exact g3 | exact g4 | exact g5) (by unfold pa_sleeper; (repeat' split) <;> first | rfl | (exfalso; omega)) (by decide)⟩
      · refine p_tabJ (off := 102) 4 117 dX11_sleeper_15 hs15 (by decide) (by decide) (by decide) ?_
        refine p_aload_n 118 dX11_sleeper_117 rfl rfl (by decide) ?_
        refine p_aload_n 119 dX11_sleeper_118 rfl rfl (by decide) ?_
        refine p_getR 0 122 dX11_sleeper_119 fX11_33 rfl (hW (0, 8, 49) (by decide)) ?_
        refine p_getR 49 125 dX11_sleeper_122 fX11_142 rfl (hW (49, 5, 51) (by decide)) ?_
        refine p_iload_n 126 dX11_sleeper_125 rfl rfl ?_
        refine p_iald 51 127 dX11_sleeper_126 rfl (by omega) (by omega) ?_
        try simp only [Int.toNat_natCast, Int.reduceToNat]
        refine p_callV1i 0 130 dX11_sleeper_127 s_grant lk_X11_108 mX11_grant rfl rfl (by decide) (Nat.le_of_ble_eq_true rfl) ?_
        rintro _ _ ⟨rfl, rfl⟩
        refine p_iret dX11_sleeper_130 rfl ?_
        exact ⟨_, rfl, CQ.of hI hF (fun k _ => rfl) (by unfold pa_sleeper; (repeat' split) <;> first | rfl | (exfalso; omega) | exact g1 | exact g2 | exact g3 | exact g4 | exact g5) (by unfold pa_sleeper; (repeat' split) <;> first | rfl | (exfalso; omega)) (by decide)⟩
      · refine p_tabJ (off := 116) 5 131 dX11_sleeper_15 hs15 (by decide) (by decide) (by decide) ?_
        refine p_aload_n 132 dX11_sleeper_131 rfl rfl (by decide) ?_
        refine p_aload_n 133 dX11_sleeper_132 rfl rfl (by decide) ?_
        refine p_getR 0 136 dX11_sleeper_133 fX11_16 rfl hco ?_
        refine p_iload_n 137 dX11_sleeper_136 rfl rfl ?_
        refine p_callV1i 25 140 dX11_sleeper_137 (s_tendersOf_25 hW hC hR (by omega)) lk_X11_145 mX0_tendersOf rfl rfl (by decide) (Nat.le_of_ble_eq_true rfl) ?_
        rintro _ _ ⟨rfl, e9⟩
        have e9 := e9.symm
        subst e9
        refine p_callV1i 0 143 dX11_sleeper_140 s_grant lk_X11_108 mX11_grant rfl rfl (by decide) (Nat.le_of_ble_eq_true rfl) ?_
        rintro _ _ ⟨rfl, rfl⟩
        refine p_iret dX11_sleeper_143 rfl ?_
        exact ⟨_, rfl, CQ.of hI hF (fun k _ => rfl) (by unfold pa_sleeper; (repeat' split) <;> first | rfl | (exfalso; omega) | exact g1 | exact g2 | exact g3 | exact g4 | exact g5) (by unfold pa_sleeper; (repeat' split) <;> first | rfl | (exfalso; omega)) (by decide)⟩
      · refine p_tabD 144 dX11_sleeper_15 (by omega) (by omega) hs15 ?_
        refine p_aload_n 145 dX11_sleeper_144 rfl rfl (by decide) ?_
        refine p_iconst 146 dX11_sleeper_145 ?_
        refine p_callV1i 0 149 dX11_sleeper_146 s_refuse lk_X11_73 mX11_refuse rfl rfl (by decide) (Nat.le_of_ble_eq_true rfl) ?_
        rintro _ _ ⟨rfl, rfl⟩
        refine p_iret dX11_sleeper_149 rfl ?_
        exact ⟨_, rfl, CQ.of hI hF (fun k _ => rfl) (by unfold pa_sleeper; (repeat' split) <;> first | rfl | (exfalso; omega) | exact g1 | exact g2 | exact g3 | exact g4 | exact g5) (by unfold pa_sleeper; (repeat' split) <;> first | rfl | (exfalso; omega)) (by decide)⟩
    · refine p_aload_n 9 dX11_sleeper_8 rfl rfl (by decide) ?_
      refine p_iconst 10 dX11_sleeper_9 ?_
      refine p_callV1i 0 13 dX11_sleeper_10 s_refuse lk_X11_73 mX11_refuse rfl rfl (by decide) (Nat.le_of_ble_eq_true rfl) ?_
      rintro _ _ ⟨rfl, rfl⟩
      refine p_iret dX11_sleeper_13 rfl ?_
      have h5 := if_nne0 h5
      exact ⟨_, rfl, CQ.of hI hF (fun k _ => rfl) (by unfold pa_sleeper; (repeat' split) <;> first | rfl | (exfalso; omega)) (by unfold pa_sleeper; (repeat' split) <;> first | rfl | (exfalso; omega)) (by decide)⟩
theorem l_sleeperM {l : Launch} {X : ZX} {M : ZM} {ρ : Nat → Int} (hW : zWm M) (hE : ∀ i, i < 421 → M 127 i = ρ i) (hR : wfR ρ) {s : Nat} (hs : s < 7) {a2 : Int} : ∀ (j i : Nat), i + j = q_n ρ 3 → zP l X 2 tX12_sleeper 97 [some (zr 124), some (zi (s : Int)), some (zi a2), some (zi (q_set (fun a => q_reach (q_n ρ) a s) i : Int)), some (zi (i : Int))] [] M (fun r M' => ∃ a, r = some (zi a) ∧ (a = (q_set (fun a => q_reach (q_n ρ) a s) (q_n ρ 3) : Int) ∧ M' = M)) := by
  have e3 : ρ 3 = (q_n ρ 3 : Int) := hR.n (by decide)
  have b3 := hR.2.1.2.2.2.1
  intro j
  induction j with
  | zero =>
    intro i hi
    refine p_iload 99 dX12_sleeper_97 rfl ?_
    refine p_aload_n 100 dX12_sleeper_99 rfl rfl (by decide) ?_
    refine p_getR 124 103 dX12_sleeper_100 fX12_20 rfl (hW (124, 15, 127) (by decide)) ?_
    refine p_iconst 104 dX12_sleeper_103 ?_
    refine p_iald 127 105 dX12_sleeper_104 rfl (by omega) (by omega) ?_
    try simp only [Int.toNat_natCast, Int.reduceToNat]
    rw [hE 3 (by decide)]
    refine p_icmp_ge 135 108 dX12_sleeper_105 (by omega) (by omega) (by omega) (by omega) (fun h105 => ?_) (fun h105 => absurd (by omega) (fun h9 : False => h9))
    refine p_iload_n 136 dX12_sleeper_135 rfl rfl ?_
    refine p_iret dX12_sleeper_136 rfl ?_
    rw [Nat.add_zero] at hi
    exact ⟨_, rfl, by rw [hi], rfl⟩
  | succ j ih =>
    intro i hi
    refine p_iload 99 dX12_sleeper_97 rfl ?_
    refine p_aload_n 100 dX12_sleeper_99 rfl rfl (by decide) ?_
    refine p_getR 124 103 dX12_sleeper_100 fX12_20 rfl (hW (124, 15, 127) (by decide)) ?_
    refine p_iconst 104 dX12_sleeper_103 ?_
    refine p_iald 127 105 dX12_sleeper_104 rfl (by omega) (by omega) ?_
    try simp only [Int.toNat_natCast, Int.reduceToNat]
    rw [hE 3 (by decide)]
    refine p_icmp_ge 135 108 dX12_sleeper_105 (by omega) (by omega) (by omega) (by omega) (fun h105 => absurd (by omega) (fun h9 : False => h9)) (fun h105 => ?_)
    refine p_iload_n 109 dX12_sleeper_108 rfl rfl ?_
    refine p_aload_n 110 dX12_sleeper_109 rfl rfl (by decide) ?_
    refine p_iload 112 dX12_sleeper_110 rfl ?_
    refine p_iload_n 113 dX12_sleeper_112 rfl rfl ?_
    refine p_callV2i 124 116 dX12_sleeper_113 (s_canReach hW hE hR (a := i) (s := s) (by omega) hs) lk_X12_278 mX12_canReach rfl rfl (by decide) (Nat.le_of_ble_eq_true rfl) ?_
    rintro _ _ ⟨rfl, e9⟩
    have e9 := e9.symm
    subst e9
    refine p_if_eq 126 119 dX12_sleeper_116 (by split <;> omega) (by split <;> omega) (fun h116 => ?_) (fun h116 => ?_)
    · refine p_iconst 127 dX12_sleeper_126 ?_
      refine p_ior 128 dX12_sleeper_127 ?_
      refine p_istore_n 129 dX12_sleeper_128 rfl (Nat.le_of_ble_eq_true rfl) rfl rfl ?_
      dsimp only [List.set]
      refine p_iinc 132 dX12_sleeper_129 rfl rfl rfl ?_
      dsimp only [List.set]
      refine p_goto 97 dX12_sleeper_132 ?_
      have e := ih (i + 1) (by omega)
      have er : q_set (fun a => q_reach (q_n ρ) a s) (i + 1) = if q_reach (q_n ρ) i s then q_set (fun a => q_reach (q_n ρ) a s) i ||| 2 ^ i else q_set (fun a => q_reach (q_n ρ) a s) i := rfl
      rw [er] at e
      cases hb : q_reach (q_n ρ) i s
      · rw [hb] at e h116
        first
          | (rw [z_ior_zero _ (Nat.lt_of_lt_of_le (q_set_lt _ i) (Nat.pow_le_pow_right (n := 2) (by decide) (show i ≤ 31 by omega)))]; exact e)
          | exact absurd rfl h116
      · rw [hb] at e h116
        first
          | (rw [z_bit i (by omega), z_ior_set _ (by omega)]; exact e)
          | exact absurd h116 (by decide)
    · refine p_iconst 120 dX12_sleeper_119 ?_
      refine p_iload 122 dX12_sleeper_120 rfl ?_
      refine p_ishl 123 dX12_sleeper_122 ?_
      refine p_goto 127 dX12_sleeper_123 ?_
      refine p_ior 128 dX12_sleeper_127 ?_
      refine p_istore_n 129 dX12_sleeper_128 rfl (Nat.le_of_ble_eq_true rfl) rfl rfl ?_
      dsimp only [List.set]
      refine p_iinc 132 dX12_sleeper_129 rfl rfl rfl ?_
      dsimp only [List.set]
      refine p_goto 97 dX12_sleeper_132 ?_
      have e := ih (i + 1) (by omega)
      have er : q_set (fun a => q_reach (q_n ρ) a s) (i + 1) = if q_reach (q_n ρ) i s then q_set (fun a => q_reach (q_n ρ) a s) i ||| 2 ^ i else q_set (fun a => q_reach (q_n ρ) a s) i := rfl
      rw [er] at e
      cases hb : q_reach (q_n ρ) i s
      · rw [hb] at e h116
        first
          | (rw [z_ior_zero _ (Nat.lt_of_lt_of_le (q_set_lt _ i) (Nat.pow_le_pow_right (n := 2) (by decide) (show i ≤ 31 by omega)))]; exact e)
          | exact absurd rfl h116
      · rw [hb] at e h116
        first
          | (rw [z_bit i (by omega), z_ior_set _ (by omega)]; exact e)
          | exact absurd h116 (by decide)
theorem m_sleeper {l : Launch} {X : ZX} {M : ZM} (hW : zWm M) (hF : WF M) {s w : Int} (hs1 : -2147483648 ≤ s) (hs2 : s < 2147483648) (hw1 : -2147483648 ≤ w) (hw2 : w < 2147483648) : zCi l X 2 yX12_sleeper tX12_sleeper [zr 124, zi s, zi w] M (MQq M (pa_sleeper (M 124 14) (M 127) (M 129) s w)) := by
  have hWg : zWm (zset (zset M 124 0 0) 124 11 0) := (hW.set (by decide +kernel)).set (by decide +kernel)
  have hR := hF.r
  have hT := hF.t
  have hh := hF.h
  have e0 : M 127 0 = (q_n (M 127) 0 : Int) := hR.n (by decide)
  have e2 : M 127 2 = (q_n (M 127) 2 : Int) := hR.n (by decide)
  have e3 : M 127 3 = (q_n (M 127) 3 : Int) := hR.n (by decide)
  have e4 : M 127 4 = (q_n (M 127) 4 : Int) := hR.n (by decide)
  have bR := hR.2.1
  have h20 : M 124 14 = 0 → M 127 2 = 0 := fun h => hF.r0 h 2 (by decide)
  have h30 : M 124 14 = 0 → M 127 3 = 0 := fun h => hF.r0 h 3 (by decide)
  have h40 : M 124 14 = 0 → M 127 4 = 0 := fun h => hF.r0 h 4 (by decide)
  refine zC.of [some (zr 124), some (zi s), some (zi w), none, none] (by decide +kernel) rfl rfl (Nat.le_of_ble_eq_true rfl) rfl ?_
  refine p_aload_n 1 dX12_sleeper_0 rfl rfl (by decide) ?_
  refine p_callV0v 124 4 dX12_sleeper_1 s_good lk_X12_165 mX12_good rfl rfl (by decide) (Nat.le_of_ble_eq_true rfl) ?_
  rintro _ rfl
  refine p_aload_n 5 dX12_sleeper_4 rfl rfl (by decide) ?_
  refine p_iload_n 6 dX12_sleeper_5 rfl rfl ?_
  refine p_callV1i 124 9 dX12_sleeper_6 (s_isSleeper (ρ := M 127) hWg (fun _ _ => rfl) hR (by exact hh) (by omega) (by omega)) lk_X12_275 mX12_isSleeper rfl rfl (by decide) (Nat.le_of_ble_eq_true rfl) ?_
  rintro _ _ ⟨rfl, e9⟩
  have e9 := e9.symm
  subst e9
  refine p_if_eq 21 12 dX12_sleeper_9 (by split <;> omega) (by split <;> omega) (fun h9 => ?_) (fun h9 => ?_)
  · have h9 := if_eq0 h9
    have h9 : ¬ (M 124 14 = 1 ∧ 0 ≤ s ∧ s < M 127 2) := h9
    refine p_aload_n 22 dX12_sleeper_21 rfl rfl (by decide) ?_
    refine p_iconst 23 dX12_sleeper_22 ?_
    refine p_callV1i 124 26 dX12_sleeper_23 s_no lk_X12_168 mX12_no rfl rfl (by decide) (Nat.le_of_ble_eq_true rfl) ?_
    rintro _ _ ⟨rfl, rfl⟩
    refine p_iret dX12_sleeper_26 rfl ?_
    exact ⟨_, rfl, MQq.of hid_no hW (by unfold pa_sleeper; (repeat' split) <;> first | rfl | (exfalso; omega)) (by unfold pa_sleeper; (repeat' split) <;> first | rfl | (exfalso; omega))⟩
  · have h9 := if_neq0 h9
    have h9 : M 124 14 = 1 ∧ 0 ≤ s ∧ s < M 127 2 := h9
    refine p_iload_n 13 dX12_sleeper_12 rfl rfl ?_
    refine p_iconst 14 dX12_sleeper_13 ?_
    refine p_iconst 15 dX12_sleeper_14 ?_
    refine p_callS3i 18 dX12_sleeper_15 (s_in (by omega) (by omega) (by omega) (by omega) (by omega) (by omega)) lk_X12_146 mX12_in (by decide) (Nat.le_of_ble_eq_true rfl) ?_
    rintro _ _ ⟨rfl, e9⟩
    have e9 := e9.symm
    subst e9
    refine p_if_ne 27 21 dX12_sleeper_18 (by split <;> omega) (by split <;> omega) (fun h18 => ?_) (fun h18 => ?_)
    · have h18 := if_ne0 h18
      obtain ⟨n, rfl⟩ : ∃ k : Nat, s = (k : Int) := ⟨s.toNat, by omega⟩
      obtain ⟨k, rfl⟩ : ∃ k : Nat, w = (k : Int) := ⟨w.toNat, by omega⟩
      have q0 := hT.1 (7 + n) (by omega)
      have q1 := (hT.2.1 n (by omega)).2.1
      refine p_iload_n 28 dX12_sleeper_27 rfl rfl ?_
      refine p_iconst 29 dX12_sleeper_28 ?_
      refine p_icmp_ge 46 32 dX12_sleeper_29 (by omega) (by omega) (by omega) (by omega) (fun h29 => ?_) (fun h29 => ?_)
      · refine p_iload_n 47 dX12_sleeper_46 rfl rfl ?_
        refine p_iconst 48 dX12_sleeper_47 ?_
        refine p_icmp_ne 58 51 dX12_sleeper_48 (by omega) (by omega) (by omega) (by omega) (fun h48 => ?_) (fun h48 => ?_)
        · refine p_iload_n 59 dX12_sleeper_58 rfl rfl ?_
          refine p_iconst 60 dX12_sleeper_59 ?_
          refine p_icmp_ne 92 63 dX12_sleeper_60 (by omega) (by omega) (by omega) (by omega) (fun h60 => ?_) (fun h60 => ?_)
          · refine p_iconst 93 dX12_sleeper_92 ?_
            refine p_istore_n 94 dX12_sleeper_93 rfl (Nat.le_of_ble_eq_true rfl) rfl rfl ?_
            dsimp only [List.set]
            refine p_iconst 95 dX12_sleeper_94 ?_
            refine p_istore 97 dX12_sleeper_95 (Nat.le_of_ble_eq_true rfl) rfl rfl ?_
            dsimp only [List.set]
            refine (l_sleeperM (ρ := M 127) hWg (fun _ _ => rfl) hR (s := n) (by omega) (q_n (M 127) 3) 0 (Nat.zero_add _)).mono (fun r M9 h9 => ?_)
            obtain ⟨a9, ea, eb, ec⟩ := h9
            subst ec
            refine ⟨a9, ea, MQq.of hid_good hW (eb.trans ?_) (by unfold pa_sleeper; (repeat' split) <;> first | rfl | (exfalso; omega))⟩
            unfold pa_sleeper
            (repeat' split) <;> first | rfl | (exfalso; omega)
          · refine p_aload_n 64 dX12_sleeper_63 rfl rfl (by decide) ?_
            refine p_getR 124 67 dX12_sleeper_64 fX12_26 rfl (hWg (124, 17, 129) (by decide)) ?_
            refine p_bipush 69 dX12_sleeper_67 rfl ?_
            refine p_iload_n 70 dX12_sleeper_69 rfl rfl ?_
            refine p_iadd 71 dX12_sleeper_70 ?_
            refine p_ialdn 129 72 (7 + n) dX12_sleeper_71 rfl (by omega) (by omega) ?_
            refine p_if_ne 80 75 dX12_sleeper_72 (by show _ ≤ M 129 _; omega) (by show M 129 _ < _; omega) (fun h72 => ?_) (fun h72 => ?_)
            · have h72 : M 129 (7 + n) ≠ 0 := h72
              refine p_aload_n 81 dX12_sleeper_80 rfl rfl (by decide) ?_
              refine p_getR 124 84 dX12_sleeper_81 fX12_26 rfl (hWg (124, 17, 129) (by decide)) ?_
              refine p_bipush 86 dX12_sleeper_84 rfl ?_
              refine p_iload_n 87 dX12_sleeper_86 rfl rfl ?_
              refine p_iadd 88 dX12_sleeper_87 ?_
              refine p_ialdn 129 89 (7 + n) dX12_sleeper_88 rfl (by omega) (by omega) ?_
              refine p_iconst 90 dX12_sleeper_89 ?_
              refine p_isub 91 dX12_sleeper_90 ?_
              refine p_iret dX12_sleeper_91 rfl ?_
              exact ⟨_, rfl, MQq.of hid_good hW (by unfold pa_sleeper; (repeat' split) <;> first | rfl | (exfalso; omega) | (show _ = q_tnd (M 129 (7 + n)); unfold q_tnd; split <;> first | rfl | (exfalso; omega))) (by unfold pa_sleeper; (repeat' split) <;> first | rfl | (exfalso; omega))⟩
            · have h72 : ¬ M 129 (7 + n) ≠ 0 := h72
              refine p_bipush 77 dX12_sleeper_75 rfl ?_
              refine p_goto 91 dX12_sleeper_77 ?_
              refine p_iret dX12_sleeper_91 rfl ?_
              exact ⟨_, rfl, MQq.of hid_good hW (by unfold pa_sleeper; (repeat' split) <;> first | rfl | (exfalso; omega) | (show _ = q_tnd (M 129 (7 + n)); unfold q_tnd; split <;> first | rfl | (exfalso; omega))) (by unfold pa_sleeper; (repeat' split) <;> first | rfl | (exfalso; omega))⟩
        · refine p_aload_n 52 dX12_sleeper_51 rfl rfl (by decide) ?_
          refine p_getR 124 55 dX12_sleeper_52 fX12_26 rfl (hWg (124, 17, 129) (by decide)) ?_
          refine p_iload_n 56 dX12_sleeper_55 rfl rfl ?_
          refine p_ialdn 129 57 (n) dX12_sleeper_56 rfl (by omega) (by omega) ?_
          refine p_iret dX12_sleeper_57 rfl ?_
          exact ⟨_, rfl, MQq.of hid_good hW (by unfold pa_sleeper; (repeat' split) <;> first | rfl | (exfalso; omega)) (by unfold pa_sleeper; (repeat' split) <;> first | rfl | (exfalso; omega))⟩
      · refine p_aload_n 33 dX12_sleeper_32 rfl rfl (by decide) ?_
        refine p_getR 124 36 dX12_sleeper_33 fX12_20 rfl (hWg (124, 15, 127) (by decide)) ?_
        refine p_bipush 38 dX12_sleeper_36 rfl ?_
        refine p_iconst 39 dX12_sleeper_38 ?_
        refine p_iload_n 40 dX12_sleeper_39 rfl rfl ?_
        refine p_imul 41 dX12_sleeper_40 ?_
        refine p_iadd 42 dX12_sleeper_41 ?_
        refine p_iload_n 43 dX12_sleeper_42 rfl rfl ?_
        refine p_iadd 44 dX12_sleeper_43 ?_
        refine p_ialdn 127 45 (8 + 3 * n + k) dX12_sleeper_44 rfl (by omega) (by omega) ?_
        refine p_iret dX12_sleeper_45 rfl ?_
        have hk : k = 0 ∨ k = 1 ∨ k = 2 := by omega
        rcases hk with rfl | rfl | rfl
        · exact ⟨_, rfl, MQq.of hid_good hW (by unfold pa_sleeper; (repeat' split) <;> first | rfl | (exfalso; omega)) (by unfold pa_sleeper; (repeat' split) <;> first | rfl | (exfalso; omega))⟩
        · exact ⟨_, rfl, MQq.of hid_good hW (by unfold pa_sleeper; (repeat' split) <;> first | rfl | (exfalso; omega)) (by unfold pa_sleeper; (repeat' split) <;> first | rfl | (exfalso; omega))⟩
        · exact ⟨_, rfl, MQq.of hid_good hW (by unfold pa_sleeper; (repeat' split) <;> first | rfl | (exfalso; omega)) (by unfold pa_sleeper; (repeat' split) <;> first | rfl | (exfalso; omega))⟩
    · have h18 := if_nne0 h18
      refine p_aload_n 22 dX12_sleeper_21 rfl rfl (by decide) ?_
      refine p_iconst 23 dX12_sleeper_22 ?_
      refine p_callV1i 124 26 dX12_sleeper_23 s_no lk_X12_168 mX12_no rfl rfl (by decide) (Nat.le_of_ble_eq_true rfl) ?_
      rintro _ _ ⟨rfl, rfl⟩
      refine p_iret dX12_sleeper_26 rfl ?_
      exact ⟨_, rfl, MQq.of hid_no hW (by unfold pa_sleeper; (repeat' split) <;> first | rfl | (exfalso; omega)) (by unfold pa_sleeper; (repeat' split) <;> first | rfl | (exfalso; omega))⟩
