theorem IC.learnT {s M M' : ZM} (h : IC s M) (hF : WF s) (h1 : ∀ a, a < 112 ∨ 114 < a → M' a = M a) (h2 : ∀ k, 3 ≤ k → M' 112 k = M 112 k) (h3 : M' 112 0 = 1) (h4 : ICt (s 127) M') : IC s M' := by
  obtain ⟨i1, ⟨c, c', hcc, hc1, hc2, hc3⟩, ⟨j1, j2, j3, j4, j5⟩, i4, ⟨p1, p2, top, ht, p3, p4, p5⟩, i6, ⟨⟨z1, z2, z3, z4⟩, i7⟩, i8⟩ := id h
  have hm3 := hF.m
  refine ⟨?_, ⟨c, c', hcc, ?_, ?_, hc3.congr (fun a g1 g2 => h1 a (by omega))⟩, ⟨?_, fun i hi => ?_, ?_, ?_, fun h9 => ?_⟩, i4.congr (h1 _ (by omega)) (h1 _ (by omega)) (h1 _ (by omega)), ⟨?_, ?_, top, ht, ?_, fun j hj => ?_, fun j hj => ?_⟩, Or.inr ⟨h3, h4⟩, ⟨⟨?_, ?_, ?_, ?_⟩, ?_⟩, ?_⟩
  · refine i1.fr (fun q hq => ?_)
    have hr : ∀ q ∈ zwC, q.1 < 113 ∨ 114 < q.1 := by decide +kernel
    have hr2 : ∀ q ∈ zwC, q.1 = 112 → 3 ≤ q.2.1 := by decide +kernel
    have g := hr q hq
    by_cases e : q.1 = 112
    · rw [e]
      exact h2 _ (hr2 q hq e)
    · rw [h1 _ (by omega)]
  · rw [h1 0 (by omega)]; exact hc1
  · rw [h1 0 (by omega)]; exact hc2
  · rw [h1 0 (by omega)]; exact j1
  · rw [h1 1 (by omega)]; exact j2 i hi
  · rw [h1 0 (by omega)]; exact j3
  · rw [h1 0 (by omega)]; exact j4
  · rw [h1 0 (by omega)]; exact j5 h9
  · rw [h1 52 (by omega)]; exact p1
  · rw [h1 52 (by omega)]; exact p2
  · rw [h1 52 (by omega)]; exact p3
  · have hm : (top + 16 - (s 124 20).toNat + j) % 16 < 16 := Nat.mod_lt _ (by decide)
    exact (p4 j hj).congr (h1 _ (by omega)) (h1 _ (by omega)) (h1 _ (by omega))
  · exact (p5 j hj).congr (h1 _ (by omega)) (h1 _ (by omega)) (h1 _ (by omega))
  · rw [h1 116 (by omega)]; exact z1
  · rw [h1 117 (by omega)]; exact z2
  · rw [h1 118 (by omega)]; exact z3
  · rw [h1 119 (by omega)]; exact z4
  · rw [h1 115 (by omega)]
    exact i7.imp id (fun g => ⟨g.1, g.2.congr (h1 _ (by omega)) (h1 _ (by omega)) (h1 _ (by omega)) (h1 _ (by omega)) (h1 _ (by omega))⟩)
  · rw [h1 121 (by omega)]
    exact i8.imp id (fun g => ⟨g.1, g.2.congr (h1 _ (by omega))⟩)
theorem ICt.top {ρ : Nat → Int} {M : ZM} (h : ICt ρ M) {st : Nat} (hst : st ≤ q_T ρ) : M 114 st = (q_bt (q_n ρ) (q_n ρ 2) (q_dg st) : Int) := by
  have h4 := h.2.2.2 (q_n ρ 2) (Nat.le_refl _) st hst
  rw [Nat.sub_self, Nat.zero_mul, Nat.zero_add] at h4
  exact h4
theorem ICt.all {ρ : Nat → Int} (hR : wfR ρ) {M : ZM} (h : ICt ρ M) : M 114 (q_allHands (q_n ρ)) = (q_bt (q_n ρ) (q_n ρ 2) (q_hands (q_n ρ)) : Int) := by
  rw [h.top (q_all_le_T ρ), q_bt_congr (q_n ρ 2) (q_dg_all hR)]
theorem q_all_sub {ρ : Nat → Int} (hR : wfR ρ) {a : Nat} (ha : a < q_n ρ 3) : q_n ρ (29 + 3 * a + 1) * 8 ^ a ≤ q_allHands (q_n ρ) ∧ ∀ b, b < q_n ρ 3 → q_dg (q_allHands (q_n ρ) - q_n ρ (29 + 3 * a + 1) * 8 ^ a) b = q_hw (q_n ρ) (a : Int) (-1) b := by
  have e3 : ρ 3 = (q_n ρ 3 : Int) := hR.n (by decide)
  have b3 := hR.2.1.2.2.2.1
  have hu := q_sum_upd (f := fun b => (if b = a then 0 else q_n ρ (29 + 3 * b + 1)) * 8 ^ b) (g := fun b => q_n ρ (29 + 3 * b + 1) * 8 ^ b) ha (fun i hi he => by show q_n ρ _ * 8 ^ i = (if i = a then 0 else q_n ρ _) * 8 ^ i; rw [if_neg he]) (by show (if a = a then 0 else q_n ρ _) * 8 ^ a = 0; rw [if_pos rfl, Nat.zero_mul])
  have hq : q_allHands (q_n ρ) = q_sum (fun b => q_n ρ (29 + 3 * b + 1) * 8 ^ b) (q_n ρ 3) := rfl
  rw [hq, hu]
  refine ⟨Nat.le_add_left _ _, fun b hb => ?_⟩
  rw [Nat.add_sub_cancel, q_dg_sum (f := fun b => if b = a then 0 else q_n ρ (29 + 3 * b + 1)) (by omega) (fun c hc => by
    have := q_hand4 hR hc
    show (if c = a then 0 else q_n ρ (29 + 3 * c + 1)) < 8
    split <;> omega) (by omega), if_pos hb]
  unfold q_hw
  by_cases e : b = a
  · subst e
    rw [if_pos rfl, if_pos rfl]
  · rw [if_neg e, if_neg (by omega), if_neg (by omega)]
    exact (Nat.add_zero _).symm
theorem q_all_add {ρ : Nat → Int} (hR : wfR ρ) {a : Nat} (ha : a < q_n ρ 3) : q_allHands (q_n ρ) + 8 ^ a ≤ q_T ρ ∧ ∀ b, b < q_n ρ 3 → q_dg (q_allHands (q_n ρ) + 8 ^ a) b = q_hw (q_n ρ) (-1) (a : Int) b := by
  have e3 : ρ 3 = (q_n ρ 3 : Int) := hR.n (by decide)
  have b3 := hR.2.1.2.2.2.1
  have hu := q_sum_upd (f := fun b => (if b = a then 0 else q_n ρ (29 + 3 * b + 1)) * 8 ^ b) (g := fun b => q_n ρ (29 + 3 * b + 1) * 8 ^ b) ha (fun i hi he => by show q_n ρ _ * 8 ^ i = (if i = a then 0 else q_n ρ _) * 8 ^ i; rw [if_neg he]) (by show (if a = a then 0 else q_n ρ _) * 8 ^ a = 0; rw [if_pos rfl, Nat.zero_mul])
  have hv := q_sum_upd (f := fun b => (if b = a then 0 else q_n ρ (29 + 3 * b + 1)) * 8 ^ b) (g := fun b => (q_n ρ (29 + 3 * b + 1) + (if b = a then 1 else 0)) * 8 ^ b) ha (fun i hi he => by show (q_n ρ _ + (if i = a then 1 else 0)) * 8 ^ i = (if i = a then 0 else q_n ρ _) * 8 ^ i; rw [if_neg he, if_neg he, Nat.add_zero]) (by show (if a = a then 0 else q_n ρ _) * 8 ^ a = 0; rw [if_pos rfl, Nat.zero_mul])
  have hq : q_allHands (q_n ρ) = q_sum (fun b => q_n ρ (29 + 3 * b + 1) * 8 ^ b) (q_n ρ 3) := rfl
  have he : q_allHands (q_n ρ) + 8 ^ a = q_sum (fun b => (q_n ρ (29 + 3 * b + 1) + (if b = a then 1 else 0)) * 8 ^ b) (q_n ρ 3) := by
    rw [hq, hu, hv]
    show _ + _ * 8 ^ a + 8 ^ a = _ + (_ + (if a = a then 1 else 0)) * 8 ^ a
    rw [if_pos rfl, Nat.add_mul, Nat.one_mul, Nat.add_assoc]
  rw [he]
  refine ⟨q_sum_mono (fun b hb => Nat.mul_le_mul_right _ (by split <;> omega)), fun b hb => ?_⟩
  rw [q_dg_sum (f := fun b => q_n ρ (29 + 3 * b + 1) + (if b = a then 1 else 0)) (by omega) (fun c hc => by
    have := q_hand4 hR hc
    show q_n ρ (29 + 3 * c + 1) + (if c = a then 1 else 0) < 8
    split <;> omega) (by omega), if_pos hb]
  unfold q_hw
  by_cases e : b = a
  · subst e
    rw [if_pos rfl, if_neg (by omega), if_pos rfl]
  · rw [if_neg e, if_neg (by omega), if_neg (by omega)]
theorem q_set_compl {p : Nat → Bool} {n : Nat} (hn : n ≤ 7) : (2 ^ n - 1) &&& (2147483647 ^^^ q_set p n) = q_set (fun i => !(p i)) n := by
  apply Nat.eq_of_testBit_eq
  intro i
  rw [Nat.testBit_and, Nat.testBit_xor, Nat.testBit_two_pow_sub_one, show (2147483647 : Nat) = 2 ^ 31 - 1 from rfl, Nat.testBit_two_pow_sub_one, q_set_bit, q_set_bit]
  by_cases h : i < n
  · simp [h, show i < 31 by omega]
  · simp [h]
/-- who has one hand more for the most: how many then, and who -/
def q_bh (ρ : Nat → Int) : Nat → Nat × Int
  | 0 => (q_bt (q_n ρ) (q_n ρ 2) (q_hands (q_n ρ)), -2)
  | i + 1 => if (q_bh ρ i).1 < q_bt (q_n ρ) (q_n ρ 2) (q_hw (q_n ρ) (-1) (i : Int)) then (q_bt (q_n ρ) (q_n ρ 2) (q_hw (q_n ρ) (-1) (i : Int)), (i : Int)) else q_bh ρ i
theorem q_bh_le {ρ : Nat → Int} (hR : wfR ρ) : ∀ i, (q_bh ρ i).1 ≤ 280 ∧ -2 ≤ (q_bh ρ i).2 ∧ (q_bh ρ i).2 ≤ (i : Int) := by
  have e2 : ρ 2 = (q_n ρ 2 : Int) := hR.n (by decide)
  have b2 := hR.2.1.2.2.1
  intro i
  induction i with
  | zero =>
    have := q_bt_le hR (q_n ρ 2) (q_hands (q_n ρ))
    exact ⟨by show q_bt _ _ _ ≤ 280; omega, by show (-2 : Int) ≤ -2; decide, by show (-2 : Int) ≤ _; omega⟩
  | succ i ih =>
    have h := q_bt_le hR (q_n ρ 2) (q_hw (q_n ρ) (-1) (i : Int))
    have e : q_bh ρ (i + 1) = if (q_bh ρ i).1 < q_bt (q_n ρ) (q_n ρ 2) (q_hw (q_n ρ) (-1) (i : Int)) then (q_bt (q_n ρ) (q_n ρ 2) (q_hw (q_n ρ) (-1) (i : Int)), (i : Int)) else q_bh ρ i := rfl
    rw [e]
    split
    · exact ⟨by show q_bt _ _ _ ≤ 280; omega, by show (-2 : Int) ≤ (i : Int); omega, by show (i : Int) ≤ _; omega⟩
    · omega
def q_te (ρ : Nat → Int) (s : Nat) : Nat := q_tends (q_n ρ) (q_n ρ 2) (q_hands (q_n ρ)) s
def pa_tending (h : Int) (ρ : Nat → Int) : Int × Int := if h = 0 then (-1, 1) else ((q_bt (q_n ρ) (q_n ρ 2) (q_hands (q_n ρ)) : Int), 0)
def pa_tendedBy (h : Int) (ρ : Nat → Int) (s : Int) : Int × Int := if h = 0 ∨ s < 0 ∨ ρ 2 ≤ s then (-1, 1) else (q_tnd (q_te ρ s.toNat : Int), 0)
def pa_left (h : Int) (ρ : Nat → Int) : Int × Int := if h = 0 then (-1, 1) else ((q_set (fun s => !(decide (q_te ρ s ≠ 0))) (q_n ρ 2) : Int), 0)
def pa_worthOf (h : Int) (ρ : Nat → Int) (a : Int) : Int × Int := if h = 0 ∨ a < 0 ∨ ρ 3 ≤ a then (-1, 1) else ((q_bt (q_n ρ) (q_n ρ 2) (q_hands (q_n ρ)) : Int) - (q_bt (q_n ρ) (q_n ρ 2) (q_hw (q_n ρ) a (-1)) : Int), 0)
def pa_bestHand (h : Int) (ρ : Nat → Int) : Int × Int := if h = 0 then (-1, 1) else ((q_bh ρ (q_n ρ 3)).2, 0)
theorem c_tending {l : Launch} {X : ZX} {M : ZM} (hI : IC M M) (hF : WF M)  : zCi l X 6 yX11_tending tX11_tending [zr 0] M (CQ M (pa_tending (M 124 14) (M 127))) := by
  obtain ⟨hW, ⟨c, c', hcc, hco, hsp, hC⟩, ⟨j1, j2, j3, j4, j5⟩, hN, hpast, hten, ⟨hz0, hsea⟩, hfit⟩ := id hI
  have hR := hF.r
  have hT := hF.t
  have hh := hF.h
  have e0 : M 127 0 = (q_n (M 127) 0 : Int) := hR.n (by decide)
  have e2 : M 127 2 = (q_n (M 127) 2 : Int) := hR.n (by decide)
  have e3 : M 127 3 = (q_n (M 127) 3 : Int) := hR.n (by decide)
  have e4 : M 127 4 = (q_n (M 127) 4 : Int) := hR.n (by decide)
  have bR := hR.2.1
  have h20 : M 124 14 = 0 → M 127 2 = 0 := fun h => hF.r0 h 2 (by decide)
  have h30 : M 124 14 = 0 → M 127 3 = 0 := fun h => hF.r0 h 3 (by decide)
  have h40 : M 124 14 = 0 → M 127 4 = 0 := fun h => hF.r0 h 4 (by decide)
  have hwo : M 49 3 = M 129 16 := hN.2.2.2.1
  have t160 := hT.1 16 (by decide)
  have t161 := hT.2.2.2.2.1
  refine zC.of [some (zr 0)] (by decide +kernel) rfl rfl (Nat.le_of_ble_eq_true rfl) rfl ?_
  rcases hcc with ⟨rfl, rfl⟩ | ⟨rfl, rfl⟩
  · have hto : M 2 0 = M 124 14 := hC.1.1
    have hla : M 2 1 = M 127 0 := hC.1.2.1
    have hsn : M 2 2 = M 127 1 := hC.1.2.2.1
    have hcs : M 3 0 = M 127 2 := hC.1.2.2.2.1
    have hca : M 8 0 = M 127 3 := hC.1.2.2.2.2.1
    have hcw : M 13 0 = M 127 4 := hC.1.2.2.2.2.2.1
    have hcb : M 13 1 = M 127 5 := hC.1.2.2.2.2.2.2.1
    have hcor : M 19 0 = M 127 6 := hC.1.2.2.2.2.2.2.2.1
    have hcn : M 19 4 = M 127 7 := hC.1.2.2.2.2.2.2.2.2
    have b2 := bR.2.2.1
    have b3 := bR.2.2.2.1
    have hTl := q_T_le hR (n := q_n (M 127) 3) (by omega)
    change q_T (M 127) ≤ 365 at hTl
    have hAl := q_all_le_T (M 127)
    refine p_aload_n 1 dX11_tending_0 rfl rfl (by decide) ?_
    refine p_getR 0 4 dX11_tending_1 fX11_16 rfl hco ?_
    refine p_getI 2 7 dX11_tending_4 fX11_114 rfl ?_
    rw [hto]
    refine p_if_ne 16 10 dX11_tending_7 (by omega) (by omega) (fun h7 => ?_) (fun h7 => ?_)
    · have h1 : M 124 14 = 1 := by omega
      have hR1 := hF.r1 h1
      refine p_aload_n 17 dX11_tending_16 rfl rfl (by decide) ?_
      refine p_getR 0 20 dX11_tending_17 fX11_47 rfl (hW (0, 10, 112) (by decide)) ?_
      refine p_aload_n 21 dX11_tending_20 rfl rfl (by decide) ?_
      refine p_getR 0 24 dX11_tending_21 fX11_16 rfl hco ?_
      refine p_callV1v 112 27 dX11_tending_24 (s_learnT (Or.inl rfl : isC 2) hW hC hR hten) lk_X11_187 mX9_learn rfl rfl (by decide) (Nat.le_of_ble_eq_true rfl) ?_
      intro M9 h9
      obtain ⟨g1, g2, g3, g4⟩ := h9
      have hI9 : IC M M9 := hI.learnT hF g1 g2 g3 g4
      have hk9 : ∀ k, 124 ≤ k → M9 k = M k := fun k hk => g1 k (by omega)
      have hW := hI9.1
      have hC : ICc (M 127) (M 124 14) 2 M9 := hC.congr (fun a _ _ => g1 a (by omega))
      have hcs : M9 3 0 = M 127 2 := hC.1.2.2.2.1
      have hca : M9 8 0 = M 127 3 := hC.1.2.2.2.2.1
      have hsn : M9 2 2 = M 127 1 := hC.1.2.2.1
      have hco : M9 0 5 = 2 := (congrFun (g1 0 (by omega)) 5).trans hco
      have hN : ICn (M 129) (M 124 14) 49 M9 := hN.congr (g1 _ (by omega)) (g1 _ (by omega)) (g1 _ (by omega))
      have hwo : M9 49 3 = M 129 16 := hN.2.2.2.1
      refine p_aload_n 28 dX11_tending_27 rfl rfl (by decide) ?_
      refine p_aload_n 29 dX11_tending_28 rfl rfl (by decide) ?_
      refine p_getR 0 32 dX11_tending_29 fX11_47 rfl (hW (0, 10, 112) (by decide)) ?_
      refine p_aload_n 33 dX11_tending_32 rfl rfl (by decide) ?_
      refine p_getR 0 36 dX11_tending_33 fX11_47 rfl (hW (0, 10, 112) (by decide)) ?_
      refine p_getI 112 39 dX11_tending_36 fX11_191 rfl ?_
      rw [g4.1]
      refine p_callV1i 112 42 dX11_tending_39 (s_greatest hW (st := q_allHands (q_n (M 127))) (by omega)) lk_X11_194 mX9_greatest rfl rfl (by decide) (Nat.le_of_ble_eq_true rfl) ?_
      rintro _ _ ⟨rfl, e9⟩
      have e9 := e9.symm
      subst e9
      rw [g4.all hR]
      refine p_callV1i 0 45 dX11_tending_42 s_grant lk_X11_108 mX11_grant rfl rfl (by decide) (Nat.le_of_ble_eq_true rfl) ?_
      rintro _ _ ⟨rfl, rfl⟩
      refine p_iret dX11_tending_45 rfl ?_
      exact ⟨_, rfl, CQ.of hI9 hF hk9 (by unfold pa_tending; (repeat' split) <;> first | rfl | (exfalso; omega)) (by unfold pa_tending; (repeat' split) <;> first | rfl | (exfalso; omega)) (by decide)⟩
    · refine p_aload_n 11 dX11_tending_10 rfl rfl (by decide) ?_
      refine p_iconst 12 dX11_tending_11 ?_
      refine p_callV1i 0 15 dX11_tending_12 s_refuse lk_X11_73 mX11_refuse rfl rfl (by decide) (Nat.le_of_ble_eq_true rfl) ?_
      rintro _ _ ⟨rfl, rfl⟩
      refine p_iret dX11_tending_15 rfl ?_
      exact ⟨_, rfl, CQ.of hI hF (fun k _ => rfl) (by unfold pa_tending; (repeat' split) <;> first | rfl | (exfalso; omega)) (by unfold pa_tending; (repeat' split) <;> first | rfl | (exfalso; omega)) (by decide)⟩
  · have hto : M 25 0 = M 124 14 := hC.1.1
    have hla : M 25 1 = M 127 0 := hC.1.2.1
    have hsn : M 25 2 = M 127 1 := hC.1.2.2.1
    have hcs : M 26 0 = M 127 2 := hC.1.2.2.2.1
    have hca : M 31 0 = M 127 3 := hC.1.2.2.2.2.1
    have hcw : M 36 0 = M 127 4 := hC.1.2.2.2.2.2.1
    have hcb : M 36 1 = M 127 5 := hC.1.2.2.2.2.2.2.1
    have hcor : M 42 0 = M 127 6 := hC.1.2.2.2.2.2.2.2.1
    have hcn : M 42 4 = M 127 7 := hC.1.2.2.2.2.2.2.2.2
    have b2 := bR.2.2.1
    have b3 := bR.2.2.2.1
    have hTl := q_T_le hR (n := q_n (M 127) 3) (by omega)
    change q_T (M 127) ≤ 365 at hTl
    have hAl := q_all_le_T (M 127)
    refine p_aload_n 1 dX11_tending_0 rfl rfl (by decide) ?_
    refine p_getR 0 4 dX11_tending_1 fX11_16 rfl hco ?_
    refine p_getI 25 7 dX11_tending_4 fX11_114 rfl ?_
    rw [hto]
    refine p_if_ne 16 10 dX11_tending_7 (by omega) (by omega) (fun h7 => ?_) (fun h7 => ?_)
    · have h1 : M 124 14 = 1 := by omega
      have hR1 := hF.r1 h1
      refine p_aload_n 17 dX11_tending_16 rfl rfl (by decide) ?_
      refine p_getR 0 20 dX11_tending_17 fX11_47 rfl (hW (0, 10, 112) (by decide)) ?_
      refine p_aload_n 21 dX11_tending_20 rfl rfl (by decide) ?_
      refine p_getR 0 24 dX11_tending_21 fX11_16 rfl hco ?_
      refine p_callV1v 112 27 dX11_tending_24 (s_learnT (Or.inr rfl : isC 25) hW hC hR hten) lk_X11_187 mX9_learn rfl rfl (by decide) (Nat.le_of_ble_eq_true rfl) ?_
      intro M9 h9
      obtain ⟨g1, g2, g3, g4⟩ := h9
      have hI9 : IC M M9 := hI.learnT hF g1 g2 g3 g4
      have hk9 : ∀ k, 124 ≤ k → M9 k = M k := fun k hk => g1 k (by omega)
      have hW := hI9.1
      have hC : ICc (M 127) (M 124 14) 25 M9 := hC.congr (fun a _ _ => g1 a (by omega))
      have hcs : M9 26 0 = M 127 2 := hC.1.2.2.2.1
      have hca : M9 31 0 = M 127 3 := hC.1.2.2.2.2.1
      have hsn : M9 25 2 = M 127 1 := hC.1.2.2.1
      have hco : M9 0 5 = 25 := (congrFun (g1 0 (by omega)) 5).trans hco
      have hN : ICn (M 129) (M 124 14) 49 M9 := hN.congr (g1 _ (by omega)) (g1 _ (by omega)) (g1 _ (by omega))
      have hwo : M9 49 3 = M 129 16 := hN.2.2.2.1
      refine p_aload_n 28 dX11_tending_27 rfl rfl (by decide) ?_
      refine p_aload_n 29 dX11_tending_28 rfl rfl (by decide) ?_
      refine p_getR 0 32 dX11_tending_29 fX11_47 rfl (hW (0, 10, 112) (by decide)) ?_
      refine p_aload_n 33 dX11_tending_32 rfl rfl (by decide) ?_
      refine p_getR 0 36 dX11_tending_33 fX11_47 rfl (hW (0, 10, 112) (by decide)) ?_
      refine p_getI 112 39 dX11_tending_36 fX11_191 rfl ?_
      rw [g4.1]
      refine p_callV1i 112 42 dX11_tending_39 (s_greatest hW (st := q_allHands (q_n (M 127))) (by omega)) lk_X11_194 mX9_greatest rfl rfl (by decide) (Nat.le_of_ble_eq_true rfl) ?_
      rintro _ _ ⟨rfl, e9⟩
      have e9 := e9.symm
      subst e9
      rw [g4.all hR]
      refine p_callV1i 0 45 dX11_tending_42 s_grant lk_X11_108 mX11_grant rfl rfl (by decide) (Nat.le_of_ble_eq_true rfl) ?_
      rintro _ _ ⟨rfl, rfl⟩
      refine p_iret dX11_tending_45 rfl ?_
      exact ⟨_, rfl, CQ.of hI9 hF hk9 (by unfold pa_tending; (repeat' split) <;> first | rfl | (exfalso; omega)) (by unfold pa_tending; (repeat' split) <;> first | rfl | (exfalso; omega)) (by decide)⟩
    · refine p_aload_n 11 dX11_tending_10 rfl rfl (by decide) ?_
      refine p_iconst 12 dX11_tending_11 ?_
      refine p_callV1i 0 15 dX11_tending_12 s_refuse lk_X11_73 mX11_refuse rfl rfl (by decide) (Nat.le_of_ble_eq_true rfl) ?_
      rintro _ _ ⟨rfl, rfl⟩
      refine p_iret dX11_tending_15 rfl ?_
      exact ⟨_, rfl, CQ.of hI hF (fun k _ => rfl) (by unfold pa_tending; (repeat' split) <;> first | rfl | (exfalso; omega)) (by unfold pa_tending; (repeat' split) <;> first | rfl | (exfalso; omega)) (by decide)⟩
theorem c_tendedBy {l : Launch} {X : ZX} {M : ZM} (hI : IC M M) (hF : WF M) {v : Int} (hv1 : -2147483648 ≤ v) (hv2 : v < 2147483648) : zCi l X 6 yX11_tendedBy tX11_tendedBy [zr 0, zi v] M (CQ M (pa_tendedBy (M 124 14) (M 127) v)) := by
  obtain ⟨hW, ⟨c, c', hcc, hco, hsp, hC⟩, ⟨j1, j2, j3, j4, j5⟩, hN, hpast, hten, ⟨hz0, hsea⟩, hfit⟩ := id hI
  have hR := hF.r
  have hT := hF.t
  have hh := hF.h
  have e0 : M 127 0 = (q_n (M 127) 0 : Int) := hR.n (by decide)
  have e2 : M 127 2 = (q_n (M 127) 2 : Int) := hR.n (by decide)
  have e3 : M 127 3 = (q_n (M 127) 3 : Int) := hR.n (by decide)
  have e4 : M 127 4 = (q_n (M 127) 4 : Int) := hR.n (by decide)
  have bR := hR.2.1
  have h20 : M 124 14 = 0 → M 127 2 = 0 := fun h => hF.r0 h 2 (by decide)
  have h30 : M 124 14 = 0 → M 127 3 = 0 := fun h => hF.r0 h 3 (by decide)
  have h40 : M 124 14 = 0 → M 127 4 = 0 := fun h => hF.r0 h 4 (by decide)
  have hwo : M 49 3 = M 129 16 := hN.2.2.2.1
  have t160 := hT.1 16 (by decide)
  have t161 := hT.2.2.2.2.1
  refine zC.of [some (zr 0), some (zi v)] (by decide +kernel) rfl rfl (Nat.le_of_ble_eq_true rfl) rfl ?_
  rcases hcc with ⟨rfl, rfl⟩ | ⟨rfl, rfl⟩
  · have hto : M 2 0 = M 124 14 := hC.1.1
    have hla : M 2 1 = M 127 0 := hC.1.2.1
    have hsn : M 2 2 = M 127 1 := hC.1.2.2.1
    have hcs : M 3 0 = M 127 2 := hC.1.2.2.2.1
    have hca : M 8 0 = M 127 3 := hC.1.2.2.2.2.1
    have hcw : M 13 0 = M 127 4 := hC.1.2.2.2.2.2.1
    have hcb : M 13 1 = M 127 5 := hC.1.2.2.2.2.2.2.1
    have hcor : M 19 0 = M 127 6 := hC.1.2.2.2.2.2.2.2.1
    have hcn : M 19 4 = M 127 7 := hC.1.2.2.2.2.2.2.2.2
    have b2 := bR.2.2.1
    have b3 := bR.2.2.2.1
    have hTl := q_T_le hR (n := q_n (M 127) 3) (by omega)
    change q_T (M 127) ≤ 365 at hTl
    have hAl := q_all_le_T (M 127)
    refine p_aload_n 1 dX11_tendedBy_0 rfl rfl (by decide) ?_
    refine p_iload_n 2 dX11_tendedBy_1 rfl rfl ?_
    refine p_callV1i 0 5 dX11_tendedBy_2 (s_isSleeper_2 hW hC hR hco (by omega) (by omega)) lk_X11_125 mX11_isSleeper rfl rfl (by decide) (Nat.le_of_ble_eq_true rfl) ?_
    rintro _ _ ⟨rfl, e9⟩
    have e9 := e9.symm
    subst e9
    refine p_if_ne 14 8 dX11_tendedBy_5 (by split <;> omega) (by split <;> omega) (fun h5 => ?_) (fun h5 => ?_)
    · have h5 := if_ne0 h5
      obtain ⟨n, rfl⟩ : ∃ k : Nat, v = (k : Int) := ⟨v.toNat, by omega⟩
      have h1 : M 124 14 = 1 := by omega
      have hR1 := hF.r1 h1
      refine p_aload_n 15 dX11_tendedBy_14 rfl rfl (by decide) ?_
      refine p_getR 0 18 dX11_tendedBy_15 fX11_47 rfl (hW (0, 10, 112) (by decide)) ?_
      refine p_aload_n 19 dX11_tendedBy_18 rfl rfl (by decide) ?_
      refine p_getR 0 22 dX11_tendedBy_19 fX11_16 rfl hco ?_
      refine p_callV1v 112 25 dX11_tendedBy_22 (s_learnT (Or.inl rfl : isC 2) hW hC hR hten) lk_X11_187 mX9_learn rfl rfl (by decide) (Nat.le_of_ble_eq_true rfl) ?_
      intro M9 h9
      obtain ⟨g1, g2, g3, g4⟩ := h9
      have hI9 : IC M M9 := hI.learnT hF g1 g2 g3 g4
      have hk9 : ∀ k, 124 ≤ k → M9 k = M k := fun k hk => g1 k (by omega)
      have hW := hI9.1
      have hC : ICc (M 127) (M 124 14) 2 M9 := hC.congr (fun a _ _ => g1 a (by omega))
      have hcs : M9 3 0 = M 127 2 := hC.1.2.2.2.1
      have hca : M9 8 0 = M 127 3 := hC.1.2.2.2.2.1
      have hsn : M9 2 2 = M 127 1 := hC.1.2.2.1
      have hco : M9 0 5 = 2 := (congrFun (g1 0 (by omega)) 5).trans hco
      have hN : ICn (M 129) (M 124 14) 49 M9 := hN.congr (g1 _ (by omega)) (g1 _ (by omega)) (g1 _ (by omega))
      have hwo : M9 49 3 = M 129 16 := hN.2.2.2.1
      refine p_aload_n 26 dX11_tendedBy_25 rfl rfl (by decide) ?_
      refine p_aload_n 27 dX11_tendedBy_26 rfl rfl (by decide) ?_
      refine p_getR 0 30 dX11_tendedBy_27 fX11_47 rfl (hW (0, 10, 112) (by decide)) ?_
      refine p_getR 112 33 dX11_tendedBy_30 fX11_197 rfl (hW (112, 3, 113) (by decide)) ?_
      refine p_iload_n 34 dX11_tendedBy_33 rfl rfl ?_
      refine p_ialdn 113 35 (n) dX11_tendedBy_34 rfl (by omega) (by omega) ?_
      rw [g4.2.2.1 n (by omega)]
      refine p_callV1i 0 38 dX11_tendedBy_35 s_grant lk_X11_108 mX11_grant rfl rfl (by decide) (Nat.le_of_ble_eq_true rfl) ?_
      rintro _ _ ⟨rfl, rfl⟩
      refine p_iret dX11_tendedBy_38 rfl ?_
      exact ⟨_, rfl, CQ.of hI9 hF hk9 (by unfold pa_tendedBy; rw [if_neg (by omega), Int.toNat_natCast]; rfl) (by unfold pa_tendedBy; rw [if_neg (by omega)]) (by decide)⟩
    · have h5 := if_nne0 h5
      refine p_aload_n 9 dX11_tendedBy_8 rfl rfl (by decide) ?_
      refine p_iconst 10 dX11_tendedBy_9 ?_
      refine p_callV1i 0 13 dX11_tendedBy_10 s_refuse lk_X11_73 mX11_refuse rfl rfl (by decide) (Nat.le_of_ble_eq_true rfl) ?_
      rintro _ _ ⟨rfl, rfl⟩
      refine p_iret dX11_tendedBy_13 rfl ?_
      exact ⟨_, rfl, CQ.of hI hF (fun k _ => rfl) (by unfold pa_tendedBy; (repeat' split) <;> first | rfl | (exfalso; omega)) (by unfold pa_tendedBy; (repeat' split) <;> first | rfl | (exfalso; omega)) (by decide)⟩
  · have hto : M 25 0 = M 124 14 := hC.1.1
    have hla : M 25 1 = M 127 0 := hC.1.2.1
    have hsn : M 25 2 = M 127 1 := hC.1.2.2.1
    have hcs : M 26 0 = M 127 2 := hC.1.2.2.2.1
    have hca : M 31 0 = M 127 3 := hC.1.2.2.2.2.1
    have hcw : M 36 0 = M 127 4 := hC.1.2.2.2.2.2.1
    have hcb : M 36 1 = M 127 5 := hC.1.2.2.2.2.2.2.1
    have hcor : M 42 0 = M 127 6 := hC.1.2.2.2.2.2.2.2.1
    have hcn : M 42 4 = M 127 7 := hC.1.2.2.2.2.2.2.2.2
    have b2 := bR.2.2.1
    have b3 := bR.2.2.2.1
    have hTl := q_T_le hR (n := q_n (M 127) 3) (by omega)
    change q_T (M 127) ≤ 365 at hTl
    have hAl := q_all_le_T (M 127)
    refine p_aload_n 1 dX11_tendedBy_0 rfl rfl (by decide) ?_
    refine p_iload_n 2 dX11_tendedBy_1 rfl rfl ?_
    refine p_callV1i 0 5 dX11_tendedBy_2 (s_isSleeper_25 hW hC hR hco (by omega) (by omega)) lk_X11_125 mX11_isSleeper rfl rfl (by decide) (Nat.le_of_ble_eq_true rfl) ?_
    rintro _ _ ⟨rfl, e9⟩
    have e9 := e9.symm
    subst e9
    refine p_if_ne 14 8 dX11_tendedBy_5 (by split <;> omega) (by split <;> omega) (fun h5 => ?_) (fun h5 => ?_)
    · have h5 := if_ne0 h5
      obtain ⟨n, rfl⟩ : ∃ k : Nat, v = (k : Int) := ⟨v.toNat, by omega⟩
      have h1 : M 124 14 = 1 := by omega
      have hR1 := hF.r1 h1
      refine p_aload_n 15 dX11_tendedBy_14 rfl rfl (by decide) ?_
      refine p_getR 0 18 dX11_tendedBy_15 fX11_47 rfl (hW (0, 10, 112) (by decide)) ?_
      refine p_aload_n 19 dX11_tendedBy_18 rfl rfl (by decide) ?_
      refine p_getR 0 22 dX11_tendedBy_19 fX11_16 rfl hco ?_
      refine p_callV1v 112 25 dX11_tendedBy_22 (s_learnT (Or.inr rfl : isC 25) hW hC hR hten) lk_X11_187 mX9_learn rfl rfl (by decide) (Nat.le_of_ble_eq_true rfl) ?_
      intro M9 h9
      obtain ⟨g1, g2, g3, g4⟩ := h9
      have hI9 : IC M M9 := hI.learnT hF g1 g2 g3 g4
      have hk9 : ∀ k, 124 ≤ k → M9 k = M k := fun k hk => g1 k (by omega)
      have hW := hI9.1
      have hC : ICc (M 127) (M 124 14) 25 M9 := hC.congr (fun a _ _ => g1 a (by omega))
      have hcs : M9 26 0 = M 127 2 := hC.1.2.2.2.1
      have hca : M9 31 0 = M 127 3 := hC.1.2.2.2.2.1
      have hsn : M9 25 2 = M 127 1 := hC.1.2.2.1
      have hco : M9 0 5 = 25 := (congrFun (g1 0 (by omega)) 5).trans hco
      have hN : ICn (M 129) (M 124 14) 49 M9 := hN.congr (g1 _ (by omega)) (g1 _ (by omega)) (g1 _ (by omega))
      have hwo : M9 49 3 = M 129 16 := hN.2.2.2.1
      refine p_aload_n 26 dX11_tendedBy_25 rfl rfl (by decide) ?_
      refine p_aload_n 27 dX11_tendedBy_26 rfl rfl (by decide) ?_
      refine p_getR 0 30 dX11_tendedBy_27 fX11_47 rfl (hW (0, 10, 112) (by decide)) ?_
      refine p_getR 112 33 dX11_tendedBy_30 fX11_197 rfl (hW (112, 3, 113) (by decide)) ?_
      refine p_iload_n 34 dX11_tendedBy_33 rfl rfl ?_
      refine p_ialdn 113 35 (n) dX11_tendedBy_34 rfl (by omega) (by omega) ?_
      rw [g4.2.2.1 n (by omega)]
      refine p_callV1i 0 38 dX11_tendedBy_35 s_grant lk_X11_108 mX11_grant rfl rfl (by decide) (Nat.le_of_ble_eq_true rfl) ?_
      rintro _ _ ⟨rfl, rfl⟩
      refine p_iret dX11_tendedBy_38 rfl ?_
      exact ⟨_, rfl, CQ.of hI9 hF hk9 (by unfold pa_tendedBy; rw [if_neg (by omega), Int.toNat_natCast]; rfl) (by unfold pa_tendedBy; rw [if_neg (by omega)]) (by decide)⟩
    · have h5 := if_nne0 h5
      refine p_aload_n 9 dX11_tendedBy_8 rfl rfl (by decide) ?_
      refine p_iconst 10 dX11_tendedBy_9 ?_
      refine p_callV1i 0 13 dX11_tendedBy_10 s_refuse lk_X11_73 mX11_refuse rfl rfl (by decide) (Nat.le_of_ble_eq_true rfl) ?_
      rintro _ _ ⟨rfl, rfl⟩
      refine p_iret dX11_tendedBy_13 rfl ?_
      exact ⟨_, rfl, CQ.of hI hF (fun k _ => rfl) (by unfold pa_tendedBy; (repeat' split) <;> first | rfl | (exfalso; omega)) (by unfold pa_tendedBy; (repeat' split) <;> first | rfl | (exfalso; omega)) (by decide)⟩
theorem c_left {l : Launch} {X : ZX} {M : ZM} (hI : IC M M) (hF : WF M)  : zCi l X 6 yX11_left tX11_left [zr 0] M (CQ M (pa_left (M 124 14) (M 127))) := by
  obtain ⟨hW, ⟨c, c', hcc, hco, hsp, hC⟩, ⟨j1, j2, j3, j4, j5⟩, hN, hpast, hten, ⟨hz0, hsea⟩, hfit⟩ := id hI
  have hR := hF.r
  have hT := hF.t
  have hh := hF.h
  have e0 : M 127 0 = (q_n (M 127) 0 : Int) := hR.n (by decide)
  have e2 : M 127 2 = (q_n (M 127) 2 : Int) := hR.n (by decide)
  have e3 : M 127 3 = (q_n (M 127) 3 : Int) := hR.n (by decide)
  have e4 : M 127 4 = (q_n (M 127) 4 : Int) := hR.n (by decide)
  have bR := hR.2.1
  have h20 : M 124 14 = 0 → M 127 2 = 0 := fun h => hF.r0 h 2 (by decide)
  have h30 : M 124 14 = 0 → M 127 3 = 0 := fun h => hF.r0 h 3 (by decide)
  have h40 : M 124 14 = 0 → M 127 4 = 0 := fun h => hF.r0 h 4 (by decide)
  have hwo : M 49 3 = M 129 16 := hN.2.2.2.1
  have t160 := hT.1 16 (by decide)
  have t161 := hT.2.2.2.2.1
  refine zC.of [some (zr 0)] (by decide +kernel) rfl rfl (Nat.le_of_ble_eq_true rfl) rfl ?_
  rcases hcc with ⟨rfl, rfl⟩ | ⟨rfl, rfl⟩
  · have hto : M 2 0 = M 124 14 := hC.1.1
    have hla : M 2 1 = M 127 0 := hC.1.2.1
    have hsn : M 2 2 = M 127 1 := hC.1.2.2.1
    have hcs : M 3 0 = M 127 2 := hC.1.2.2.2.1
    have hca : M 8 0 = M 127 3 := hC.1.2.2.2.2.1
    have hcw : M 13 0 = M 127 4 := hC.1.2.2.2.2.2.1
    have hcb : M 13 1 = M 127 5 := hC.1.2.2.2.2.2.2.1
    have hcor : M 19 0 = M 127 6 := hC.1.2.2.2.2.2.2.2.1
    have hcn : M 19 4 = M 127 7 := hC.1.2.2.2.2.2.2.2.2
    have b2 := bR.2.2.1
    have b3 := bR.2.2.2.1
    have hTl := q_T_le hR (n := q_n (M 127) 3) (by omega)
    change q_T (M 127) ≤ 365 at hTl
    have hAl := q_all_le_T (M 127)
    have hp2 := p7 (n := q_n (M 127) 2) (by omega)
    have hqs := q_set_lt (fun s => decide (q_tends (q_n (M 127)) (q_n (M 127) 2) (q_hands (q_n (M 127))) s ≠ 0)) (q_n (M 127) 2)
    refine p_aload_n 1 dX11_left_0 rfl rfl (by decide) ?_
    refine p_getR 0 4 dX11_left_1 fX11_16 rfl hco ?_
    refine p_getI 2 7 dX11_left_4 fX11_114 rfl ?_
    rw [hto]
    refine p_if_ne 16 10 dX11_left_7 (by omega) (by omega) (fun h7 => ?_) (fun h7 => ?_)
    · have h1 : M 124 14 = 1 := by omega
      have hR1 := hF.r1 h1
      refine p_aload_n 17 dX11_left_16 rfl rfl (by decide) ?_
      refine p_getR 0 20 dX11_left_17 fX11_47 rfl (hW (0, 10, 112) (by decide)) ?_
      refine p_aload_n 21 dX11_left_20 rfl rfl (by decide) ?_
      refine p_getR 0 24 dX11_left_21 fX11_16 rfl hco ?_
      refine p_callV1v 112 27 dX11_left_24 (s_learnT (Or.inl rfl : isC 2) hW hC hR hten) lk_X11_187 mX9_learn rfl rfl (by decide) (Nat.le_of_ble_eq_true rfl) ?_
      intro M9 h9
      obtain ⟨g1, g2, g3, g4⟩ := h9
      have hI9 : IC M M9 := hI.learnT hF g1 g2 g3 g4
      have hk9 : ∀ k, 124 ≤ k → M9 k = M k := fun k hk => g1 k (by omega)
      have hW := hI9.1
      have hC : ICc (M 127) (M 124 14) 2 M9 := hC.congr (fun a _ _ => g1 a (by omega))
      have hcs : M9 3 0 = M 127 2 := hC.1.2.2.2.1
      have hca : M9 8 0 = M 127 3 := hC.1.2.2.2.2.1
      have hsn : M9 2 2 = M 127 1 := hC.1.2.2.1
      have hco : M9 0 5 = 2 := (congrFun (g1 0 (by omega)) 5).trans hco
      have hN : ICn (M 129) (M 124 14) 49 M9 := hN.congr (g1 _ (by omega)) (g1 _ (by omega)) (g1 _ (by omega))
      have hwo : M9 49 3 = M 129 16 := hN.2.2.2.1
      refine p_aload_n 28 dX11_left_27 rfl rfl (by decide) ?_
      refine p_aload_n 29 dX11_left_28 rfl rfl (by decide) ?_
      refine p_getR 0 32 dX11_left_29 fX11_16 rfl hco ?_
      refine p_getR 2 35 dX11_left_32 fX11_99 rfl (hW (2, 3, 3) (by decide)) ?_
      refine p_getI 3 38 dX11_left_35 fX11_103 rfl ?_
      rw [hcs, e2]
      refine p_callS1i 41 dX11_left_38 (s_fullBits (n := q_n (M 127) 2) (by omega)) lk_X11_198 mX11_fullBits (by decide) (Nat.le_of_ble_eq_true rfl) ?_
      rintro _ _ ⟨rfl, e9⟩
      have e9 := e9.symm
      subst e9
      refine p_aload_n 42 dX11_left_41 rfl rfl (by decide) ?_
      refine p_getR 0 45 dX11_left_42 fX11_47 rfl (hW (0, 10, 112) (by decide)) ?_
      refine p_getI 112 48 dX11_left_45 fX11_201 rfl ?_
      rw [g4.2.1]
      refine p_iconst 49 dX11_left_48 ?_
      refine p_ixor 50 dX11_left_49 ?_
      refine p_iand 51 dX11_left_50 ?_
      rw [z_andn_n (2 ^ q_n (M 127) 2 - 1) _ (by omega) (by omega), q_set_compl (by omega)]
      refine p_callV1i 0 54 dX11_left_51 s_grant lk_X11_108 mX11_grant rfl rfl (by decide) (Nat.le_of_ble_eq_true rfl) ?_
      rintro _ _ ⟨rfl, rfl⟩
      refine p_iret dX11_left_54 rfl ?_
      exact ⟨_, rfl, CQ.of hI9 hF hk9 (by unfold pa_left; (repeat' split) <;> first | rfl | (exfalso; omega)) (by unfold pa_left; (repeat' split) <;> first | rfl | (exfalso; omega)) (by decide)⟩
    · refine p_aload_n 11 dX11_left_10 rfl rfl (by decide) ?_
      refine p_iconst 12 dX11_left_11 ?_
      refine p_callV1i 0 15 dX11_left_12 s_refuse lk_X11_73 mX11_refuse rfl rfl (by decide) (Nat.le_of_ble_eq_true rfl) ?_
      rintro _ _ ⟨rfl, rfl⟩
      refine p_iret dX11_left_15 rfl ?_
      exact ⟨_, rfl, CQ.of hI hF (fun k _ => rfl) (by unfold pa_left; (repeat' split) <;> first | rfl | (exfalso; omega)) (by unfold pa_left; (repeat' split) <;> first | rfl | (exfalso; omega)) (by decide)⟩
  · have hto : M 25 0 = M 124 14 := hC.1.1
    have hla : M 25 1 = M 127 0 := hC.1.2.1
    have hsn : M 25 2 = M 127 1 := hC.1.2.2.1
    have hcs : M 26 0 = M 127 2 := hC.1.2.2.2.1
    have hca : M 31 0 = M 127 3 := hC.1.2.2.2.2.1
    have hcw : M 36 0 = M 127 4 := hC.1.2.2.2.2.2.1
    have hcb : M 36 1 = M 127 5 := hC.1.2.2.2.2.2.2.1
    have hcor : M 42 0 = M 127 6 := hC.1.2.2.2.2.2.2.2.1
    have hcn : M 42 4 = M 127 7 := hC.1.2.2.2.2.2.2.2.2
    have b2 := bR.2.2.1
    have b3 := bR.2.2.2.1
    have hTl := q_T_le hR (n := q_n (M 127) 3) (by omega)
    change q_T (M 127) ≤ 365 at hTl
    have hAl := q_all_le_T (M 127)
    have hp2 := p7 (n := q_n (M 127) 2) (by omega)
    have hqs := q_set_lt (fun s => decide (q_tends (q_n (M 127)) (q_n (M 127) 2) (q_hands (q_n (M 127))) s ≠ 0)) (q_n (M 127) 2)
    refine p_aload_n 1 dX11_left_0 rfl rfl (by decide) ?_
    refine p_getR 0 4 dX11_left_1 fX11_16 rfl hco ?_
    refine p_getI 25 7 dX11_left_4 fX11_114 rfl ?_
    rw [hto]
    refine p_if_ne 16 10 dX11_left_7 (by omega) (by omega) (fun h7 => ?_) (fun h7 => ?_)
    · have h1 : M 124 14 = 1 := by omega
      have hR1 := hF.r1 h1
      refine p_aload_n 17 dX11_left_16 rfl rfl (by decide) ?_
      refine p_getR 0 20 dX11_left_17 fX11_47 rfl (hW (0, 10, 112) (by decide)) ?_
      refine p_aload_n 21 dX11_left_20 rfl rfl (by decide) ?_
      refine p_getR 0 24 dX11_left_21 fX11_16 rfl hco ?_
      refine p_callV1v 112 27 dX11_left_24 (s_learnT (Or.inr rfl : isC 25) hW hC hR hten) lk_X11_187 mX9_learn rfl rfl (by decide) (Nat.le_of_ble_eq_true rfl) ?_
      intro M9 h9
      obtain ⟨g1, g2, g3, g4⟩ := h9
      have hI9 : IC M M9 := hI.learnT hF g1 g2 g3 g4
      have hk9 : ∀ k, 124 ≤ k → M9 k = M k := fun k hk => g1 k (by omega)
      have hW := hI9.1
      have hC : ICc (M 127) (M 124 14) 25 M9 := hC.congr (fun a _ _ => g1 a (by omega))
      have hcs : M9 26 0 = M 127 2 := hC.1.2.2.2.1
      have hca : M9 31 0 = M 127 3 := hC.1.2.2.2.2.1
      have hsn : M9 25 2 = M 127 1 := hC.1.2.2.1
      have hco : M9 0 5 = 25 := (congrFun (g1 0 (by omega)) 5).trans hco
      have hN : ICn (M 129) (M 124 14) 49 M9 := hN.congr (g1 _ (by omega)) (g1 _ (by omega)) (g1 _ (by omega))
      have hwo : M9 49 3 = M 129 16 := hN.2.2.2.1
      refine p_aload_n 28 dX11_left_27 rfl rfl (by decide) ?_
      refine p_aload_n 29 dX11_left_28 rfl rfl (by decide) ?_
      refine p_getR 0 32 dX11_left_29 fX11_16 rfl hco ?_
      refine p_getR 25 35 dX11_left_32 fX11_99 rfl (hW (25, 3, 26) (by decide)) ?_
      refine p_getI 26 38 dX11_left_35 fX11_103 rfl ?_
      rw [hcs, e2]
      refine p_callS1i 41 dX11_left_38 (s_fullBits (n := q_n (M 127) 2) (by omega)) lk_X11_198 mX11_fullBits (by decide) (Nat.le_of_ble_eq_true rfl) ?_
      rintro _ _ ⟨rfl, e9⟩
      have e9 := e9.symm
      subst e9
      refine p_aload_n 42 dX11_left_41 rfl rfl (by decide) ?_
      refine p_getR 0 45 dX11_left_42 fX11_47 rfl (hW (0, 10, 112) (by decide)) ?_
      refine p_getI 112 48 dX11_left_45 fX11_201 rfl ?_
      rw [g4.2.1]
      refine p_iconst 49 dX11_left_48 ?_
      refine p_ixor 50 dX11_left_49 ?_
      refine p_iand 51 dX11_left_50 ?_
      rw [z_andn_n (2 ^ q_n (M 127) 2 - 1) _ (by omega) (by omega), q_set_compl (by omega)]
      refine p_callV1i 0 54 dX11_left_51 s_grant lk_X11_108 mX11_grant rfl rfl (by decide) (Nat.le_of_ble_eq_true rfl) ?_
      rintro _ _ ⟨rfl, rfl⟩
      refine p_iret dX11_left_54 rfl ?_
      exact ⟨_, rfl, CQ.of hI9 hF hk9 (by unfold pa_left; (repeat' split) <;> first | rfl | (exfalso; omega)) (by unfold pa_left; (repeat' split) <;> first | rfl | (exfalso; omega)) (by decide)⟩
    · refine p_aload_n 11 dX11_left_10 rfl rfl (by decide) ?_
      refine p_iconst 12 dX11_left_11 ?_
      refine p_callV1i 0 15 dX11_left_12 s_refuse lk_X11_73 mX11_refuse rfl rfl (by decide) (Nat.le_of_ble_eq_true rfl) ?_
      rintro _ _ ⟨rfl, rfl⟩
      refine p_iret dX11_left_15 rfl ?_
      exact ⟨_, rfl, CQ.of hI hF (fun k _ => rfl) (by unfold pa_left; (repeat' split) <;> first | rfl | (exfalso; omega)) (by unfold pa_left; (repeat' split) <;> first | rfl | (exfalso; omega)) (by decide)⟩
theorem c_worthOf {l : Launch} {X : ZX} {M : ZM} (hI : IC M M) (hF : WF M) {v : Int} (hv1 : -2147483648 ≤ v) (hv2 : v < 2147483648) : zCi l X 6 yX11_worthOf tX11_worthOf [zr 0, zi v] M (CQ M (pa_worthOf (M 124 14) (M 127) v)) := by
  obtain ⟨hW, ⟨c, c', hcc, hco, hsp, hC⟩, ⟨j1, j2, j3, j4, j5⟩, hN, hpast, hten, ⟨hz0, hsea⟩, hfit⟩ := id hI
  have hR := hF.r
  have hT := hF.t
  have hh := hF.h
  have e0 : M 127 0 = (q_n (M 127) 0 : Int) := hR.n (by decide)
  have e2 : M 127 2 = (q_n (M 127) 2 : Int) := hR.n (by decide)
  have e3 : M 127 3 = (q_n (M 127) 3 : Int) := hR.n (by decide)
  have e4 : M 127 4 = (q_n (M 127) 4 : Int) := hR.n (by decide)
  have bR := hR.2.1
  have h20 : M 124 14 = 0 → M 127 2 = 0 := fun h => hF.r0 h 2 (by decide)
  have h30 : M 124 14 = 0 → M 127 3 = 0 := fun h => hF.r0 h 3 (by decide)
  have h40 : M 124 14 = 0 → M 127 4 = 0 := fun h => hF.r0 h 4 (by decide)
  have hwo : M 49 3 = M 129 16 := hN.2.2.2.1
  have t160 := hT.1 16 (by decide)
  have t161 := hT.2.2.2.2.1
  refine zC.of [some (zr 0), some (zi v), none] (by decide +kernel) rfl rfl (Nat.le_of_ble_eq_true rfl) rfl ?_
  rcases hcc with ⟨rfl, rfl⟩ | ⟨rfl, rfl⟩
  · have hto : M 2 0 = M 124 14 := hC.1.1
    have hla : M 2 1 = M 127 0 := hC.1.2.1
    have hsn : M 2 2 = M 127 1 := hC.1.2.2.1
    have hcs : M 3 0 = M 127 2 := hC.1.2.2.2.1
    have hca : M 8 0 = M 127 3 := hC.1.2.2.2.2.1
    have hcw : M 13 0 = M 127 4 := hC.1.2.2.2.2.2.1
    have hcb : M 13 1 = M 127 5 := hC.1.2.2.2.2.2.2.1
    have hcor : M 19 0 = M 127 6 := hC.1.2.2.2.2.2.2.2.1
    have hcn : M 19 4 = M 127 7 := hC.1.2.2.2.2.2.2.2.2
    have b2 := bR.2.2.1
    have b3 := bR.2.2.2.1
    have hTl := q_T_le hR (n := q_n (M 127) 3) (by omega)
    change q_T (M 127) ≤ 365 at hTl
    have hAl := q_all_le_T (M 127)
    refine p_aload_n 1 dX11_worthOf_0 rfl rfl (by decide) ?_
    refine p_iload_n 2 dX11_worthOf_1 rfl rfl ?_
    refine p_callV1i 0 5 dX11_worthOf_2 (s_isHelper_2 hW hC hR hco (by omega) (by omega)) lk_X11_148 mX11_isHelper rfl rfl (by decide) (Nat.le_of_ble_eq_true rfl) ?_
    rintro _ _ ⟨rfl, e9⟩
    have e9 := e9.symm
    subst e9
    refine p_if_ne 14 8 dX11_worthOf_5 (by split <;> omega) (by split <;> omega) (fun h5 => ?_) (fun h5 => ?_)
    · have h5 := if_ne0 h5
      obtain ⟨n, rfl⟩ : ∃ k : Nat, v = (k : Int) := ⟨v.toNat, by omega⟩
      have h1 : M 124 14 = 1 := by omega
      have hR1 := hF.r1 h1
      have hh4 := q_hand4 hR (a := n) (by omega)
      have eh : M 127 (29 + 3 * n + 1) = (q_n (M 127) (29 + 3 * n + 1) : Int) := hR.n (by omega)
      obtain ⟨hsb, hsd⟩ := q_all_sub hR (a := n) (by omega)
      have hsl : q_allHands (q_n (M 127)) - q_n (M 127) (29 + 3 * n + 1) * 8 ^ n ≤ q_allHands (q_n (M 127)) := Nat.sub_le _ _
      refine p_aload_n 15 dX11_worthOf_14 rfl rfl (by decide) ?_
      refine p_getR 0 18 dX11_worthOf_15 fX11_47 rfl (hW (0, 10, 112) (by decide)) ?_
      refine p_aload_n 19 dX11_worthOf_18 rfl rfl (by decide) ?_
      refine p_getR 0 22 dX11_worthOf_19 fX11_16 rfl hco ?_
      refine p_callV1v 112 25 dX11_worthOf_22 (s_learnT (Or.inl rfl : isC 2) hW hC hR hten) lk_X11_187 mX9_learn rfl rfl (by decide) (Nat.le_of_ble_eq_true rfl) ?_
      intro M9 h9
      obtain ⟨g1, g2, g3, g4⟩ := h9
      have hI9 : IC M M9 := hI.learnT hF g1 g2 g3 g4
      have hk9 : ∀ k, 124 ≤ k → M9 k = M k := fun k hk => g1 k (by omega)
      have hW := hI9.1
      have hC : ICc (M 127) (M 124 14) 2 M9 := hC.congr (fun a _ _ => g1 a (by omega))
      have hcs : M9 3 0 = M 127 2 := hC.1.2.2.2.1
      have hca : M9 8 0 = M 127 3 := hC.1.2.2.2.2.1
      have hsn : M9 2 2 = M 127 1 := hC.1.2.2.1
      have hco : M9 0 5 = 2 := (congrFun (g1 0 (by omega)) 5).trans hco
      have hN : ICn (M 129) (M 124 14) 49 M9 := hN.congr (g1 _ (by omega)) (g1 _ (by omega)) (g1 _ (by omega))
      have hwo : M9 49 3 = M 129 16 := hN.2.2.2.1
      refine p_aload_n 26 dX11_worthOf_25 rfl rfl (by decide) ?_
      refine p_getR 0 29 dX11_worthOf_26 fX11_47 rfl (hW (0, 10, 112) (by decide)) ?_
      refine p_getI 112 32 dX11_worthOf_29 fX11_191 rfl ?_
      rw [g4.1]
      refine p_iload_n 33 dX11_worthOf_32 rfl rfl ?_
      refine p_aload_n 34 dX11_worthOf_33 rfl rfl (by decide) ?_
      refine p_getR 0 37 dX11_worthOf_34 fX11_16 rfl hco ?_
      refine p_getR 2 40 dX11_worthOf_37 fX11_151 rfl (hW (2, 4, 8) (by decide)) ?_
      refine p_getR 8 43 dX11_worthOf_40 fX11_158 rfl (hW (8, 3, 11) (by decide)) ?_
      refine p_iload_n 44 dX11_worthOf_43 rfl rfl ?_
      refine p_ialdn 11 45 (n) dX11_worthOf_44 rfl (by omega) (by omega) ?_
      rw [(hC.2.2.1 n (by omega)).2.1, eh]
      refine p_callS2i 48 dX11_worthOf_45 (s_handsAt (i := n) (v := q_n (M 127) (29 + 3 * n + 1)) (by omega) (by omega)) lk_X11_204 mX11_handsAt (by decide) (Nat.le_of_ble_eq_true rfl) ?_
      rintro _ _ ⟨rfl, e9⟩
      have e9 := e9.symm
      subst e9
      refine p_isub 49 dX11_worthOf_48 ?_
      rw [← Int.ofNat_sub hsb]
      refine p_istore_n 50 dX11_worthOf_49 rfl (Nat.le_of_ble_eq_true rfl) rfl rfl ?_
      dsimp only [List.set]
      refine p_aload_n 51 dX11_worthOf_50 rfl rfl (by decide) ?_
      refine p_aload_n 52 dX11_worthOf_51 rfl rfl (by decide) ?_
      refine p_getR 0 55 dX11_worthOf_52 fX11_47 rfl (hW (0, 10, 112) (by decide)) ?_
      refine p_aload_n 56 dX11_worthOf_55 rfl rfl (by decide) ?_
      refine p_getR 0 59 dX11_worthOf_56 fX11_47 rfl (hW (0, 10, 112) (by decide)) ?_
      refine p_getI 112 62 dX11_worthOf_59 fX11_191 rfl ?_
      rw [g4.1]
      refine p_callV1i 112 65 dX11_worthOf_62 (s_greatest hW (st := q_allHands (q_n (M 127))) (by omega)) lk_X11_194 mX9_greatest rfl rfl (by decide) (Nat.le_of_ble_eq_true rfl) ?_
      rintro _ _ ⟨rfl, e9⟩
      have e9 := e9.symm
      subst e9
      rw [g4.all hR]
      refine p_aload_n 66 dX11_worthOf_65 rfl rfl (by decide) ?_
      refine p_getR 0 69 dX11_worthOf_66 fX11_47 rfl (hW (0, 10, 112) (by decide)) ?_
      refine p_iload_n 70 dX11_worthOf_69 rfl rfl ?_
      refine p_callV1i 112 73 dX11_worthOf_70 (s_greatest hW (st := q_allHands (q_n (M 127)) - q_n (M 127) (29 + 3 * n + 1) * 8 ^ n) (by omega)) lk_X11_194 mX9_greatest rfl rfl (by decide) (Nat.le_of_ble_eq_true rfl) ?_
      rintro _ _ ⟨rfl, e9⟩
      have e9 := e9.symm
      subst e9
      rw [g4.top (Nat.le_trans (Nat.sub_le _ _) hAl), q_bt_congr (q_n (M 127) 2) hsd]
      refine p_isub 74 dX11_worthOf_73 ?_
      refine p_callV1i 0 77 dX11_worthOf_74 s_grant lk_X11_108 mX11_grant rfl rfl (by decide) (Nat.le_of_ble_eq_true rfl) ?_
      rintro _ _ ⟨rfl, rfl⟩
      refine p_iret dX11_worthOf_77 rfl ?_
      exact ⟨_, rfl, CQ.of hI9 hF hk9 (by unfold pa_worthOf; (repeat' split) <;> first | rfl | (exfalso; omega)) (by unfold pa_worthOf; (repeat' split) <;> first | rfl | (exfalso; omega)) (by decide)⟩
    · have h5 := if_nne0 h5
      refine p_aload_n 9 dX11_worthOf_8 rfl rfl (by decide) ?_
      refine p_iconst 10 dX11_worthOf_9 ?_
      refine p_callV1i 0 13 dX11_worthOf_10 s_refuse lk_X11_73 mX11_refuse rfl rfl (by decide) (Nat.le_of_ble_eq_true rfl) ?_
      rintro _ _ ⟨rfl, rfl⟩
      refine p_iret dX11_worthOf_13 rfl ?_
      exact ⟨_, rfl, CQ.of hI hF (fun k _ => rfl) (by unfold pa_worthOf; (repeat' split) <;> first | rfl | (exfalso; omega)) (by unfold pa_worthOf; (repeat' split) <;> first | rfl | (exfalso; omega)) (by decide)⟩
  · have hto : M 25 0 = M 124 14 := hC.1.1
    have hla : M 25 1 = M 127 0 := hC.1.2.1
    have hsn : M 25 2 = M 127 1 := hC.1.2.2.1
    have hcs : M 26 0 = M 127 2 := hC.1.2.2.2.1
    have hca : M 31 0 = M 127 3 := hC.1.2.2.2.2.1
    have hcw : M 36 0 = M 127 4 := hC.1.2.2.2.2.2.1
    have hcb : M 36 1 = M 127 5 := hC.1.2.2.2.2.2.2.1
    have hcor : M 42 0 = M 127 6 := hC.1.2.2.2.2.2.2.2.1
    have hcn : M 42 4 = M 127 7 := hC.1.2.2.2.2.2.2.2.2
    have b2 := bR.2.2.1
    have b3 := bR.2.2.2.1
    have hTl := q_T_le hR (n := q_n (M 127) 3) (by omega)
    change q_T (M 127) ≤ 365 at hTl
    have hAl := q_all_le_T (M 127)
    refine p_aload_n 1 dX11_worthOf_0 rfl rfl (by decide) ?_
    refine p_iload_n 2 dX11_worthOf_1 rfl rfl ?_
    refine p_callV1i 0 5 dX11_worthOf_2 (s_isHelper_25 hW hC hR hco (by omega) (by omega)) lk_X11_148 mX11_isHelper rfl rfl (by decide) (Nat.le_of_ble_eq_true rfl) ?_
    rintro _ _ ⟨rfl, e9⟩
    have e9 := e9.symm
    subst e9
    refine p_if_ne 14 8 dX11_worthOf_5 (by split <;> omega) (by split <;> omega) (fun h5 => ?_) (fun h5 => ?_)
    · have h5 := if_ne0 h5
      obtain ⟨n, rfl⟩ : ∃ k : Nat, v = (k : Int) := ⟨v.toNat, by omega⟩
      have h1 : M 124 14 = 1 := by omega
      have hR1 := hF.r1 h1
      have hh4 := q_hand4 hR (a := n) (by omega)
      have eh : M 127 (29 + 3 * n + 1) = (q_n (M 127) (29 + 3 * n + 1) : Int) := hR.n (by omega)
      obtain ⟨hsb, hsd⟩ := q_all_sub hR (a := n) (by omega)
      have hsl : q_allHands (q_n (M 127)) - q_n (M 127) (29 + 3 * n + 1) * 8 ^ n ≤ q_allHands (q_n (M 127)) := Nat.sub_le _ _
      refine p_aload_n 15 dX11_worthOf_14 rfl rfl (by decide) ?_
      refine p_getR 0 18 dX11_worthOf_15 fX11_47 rfl (hW (0, 10, 112) (by decide)) ?_
      refine p_aload_n 19 dX11_worthOf_18 rfl rfl (by decide) ?_
      refine p_getR 0 22 dX11_worthOf_19 fX11_16 rfl hco ?_
      refine p_callV1v 112 25 dX11_worthOf_22 (s_learnT (Or.inr rfl : isC 25) hW hC hR hten) lk_X11_187 mX9_learn rfl rfl (by decide) (Nat.le_of_ble_eq_true rfl) ?_
      intro M9 h9
      obtain ⟨g1, g2, g3, g4⟩ := h9
      have hI9 : IC M M9 := hI.learnT hF g1 g2 g3 g4
      have hk9 : ∀ k, 124 ≤ k → M9 k = M k := fun k hk => g1 k (by omega)
      have hW := hI9.1
      have hC : ICc (M 127) (M 124 14) 25 M9 := hC.congr (fun a _ _ => g1 a (by omega))
      have hcs : M9 26 0 = M 127 2 := hC.1.2.2.2.1
      have hca : M9 31 0 = M 127 3 := hC.1.2.2.2.2.1
      have hsn : M9 25 2 = M 127 1 := hC.1.2.2.1
      have hco : M9 0 5 = 25 := (congrFun (g1 0 (by omega)) 5).trans hco
      have hN : ICn (M 129) (M 124 14) 49 M9 := hN.congr (g1 _ (by omega)) (g1 _ (by omega)) (g1 _ (by omega))
      have hwo : M9 49 3 = M 129 16 := hN.2.2.2.1
      refine p_aload_n 26 dX11_worthOf_25 rfl rfl (by decide) ?_
      refine p_getR 0 29 dX11_worthOf_26 fX11_47 rfl (hW (0, 10, 112) (by decide)) ?_
      refine p_getI 112 32 dX11_worthOf_29 fX11_191 rfl ?_
      rw [g4.1]
      refine p_iload_n 33 dX11_worthOf_32 rfl rfl ?_
      refine p_aload_n 34 dX11_worthOf_33 rfl rfl (by decide) ?_
      refine p_getR 0 37 dX11_worthOf_34 fX11_16 rfl hco ?_
      refine p_getR 25 40 dX11_worthOf_37 fX11_151 rfl (hW (25, 4, 31) (by decide)) ?_
      refine p_getR 31 43 dX11_worthOf_40 fX11_158 rfl (hW (31, 3, 34) (by decide)) ?_
      refine p_iload_n 44 dX11_worthOf_43 rfl rfl ?_
      refine p_ialdn 34 45 (n) dX11_worthOf_44 rfl (by omega) (by omega) ?_
      rw [(hC.2.2.1 n (by omega)).2.1, eh]
      refine p_callS2i 48 dX11_worthOf_45 (s_handsAt (i := n) (v := q_n (M 127) (29 + 3 * n + 1)) (by omega) (by omega)) lk_X11_204 mX11_handsAt (by decide) (Nat.le_of_ble_eq_true rfl) ?_
      rintro _ _ ⟨rfl, e9⟩
      have e9 := e9.symm
      subst e9
      refine p_isub 49 dX11_worthOf_48 ?_
      rw [← Int.ofNat_sub hsb]
      refine p_istore_n 50 dX11_worthOf_49 rfl (Nat.le_of_ble_eq_true rfl) rfl rfl ?_
      dsimp only [List.set]
      refine p_aload_n 51 dX11_worthOf_50 rfl rfl (by decide) ?_
      refine p_aload_n 52 dX11_worthOf_51 rfl rfl (by decide) ?_
      refine p_getR 0 55 dX11_worthOf_52 fX11_47 rfl (hW (0, 10, 112) (by decide)) ?_
      refine p_aload_n 56 dX11_worthOf_55 rfl rfl (by decide) ?_
      refine p_getR 0 59 dX11_worthOf_56 fX11_47 rfl (hW (0, 10, 112) (by decide)) ?_
      refine p_getI 112 62 dX11_worthOf_59 fX11_191 rfl ?_
      rw [g4.1]
      refine p_callV1i 112 65 dX11_worthOf_62 (s_greatest hW (st := q_allHands (q_n (M 127))) (by omega)) lk_X11_194 mX9_greatest rfl rfl (by decide) (Nat.le_of_ble_eq_true rfl) ?_
      rintro _ _ ⟨rfl, e9⟩
      have e9 := e9.symm
      subst e9
      rw [g4.all hR]
      refine p_aload_n 66 dX11_worthOf_65 rfl rfl (by decide) ?_
      refine p_getR 0 69 dX11_worthOf_66 fX11_47 rfl (hW (0, 10, 112) (by decide)) ?_
      refine p_iload_n 70 dX11_worthOf_69 rfl rfl ?_
      refine p_callV1i 112 73 dX11_worthOf_70 (s_greatest hW (st := q_allHands (q_n (M 127)) - q_n (M 127) (29 + 3 * n + 1) * 8 ^ n) (by omega)) lk_X11_194 mX9_greatest rfl rfl (by decide) (Nat.le_of_ble_eq_true rfl) ?_
      rintro _ _ ⟨rfl, e9⟩
      have e9 := e9.symm
      subst e9
      rw [g4.top (Nat.le_trans (Nat.sub_le _ _) hAl), q_bt_congr (q_n (M 127) 2) hsd]
      refine p_isub 74 dX11_worthOf_73 ?_
      refine p_callV1i 0 77 dX11_worthOf_74 s_grant lk_X11_108 mX11_grant rfl rfl (by decide) (Nat.le_of_ble_eq_true rfl) ?_
      rintro _ _ ⟨rfl, rfl⟩
      refine p_iret dX11_worthOf_77 rfl ?_
      exact ⟨_, rfl, CQ.of hI9 hF hk9 (by unfold pa_worthOf; (repeat' split) <;> first | rfl | (exfalso; omega)) (by unfold pa_worthOf; (repeat' split) <;> first | rfl | (exfalso; omega)) (by decide)⟩
    · have h5 := if_nne0 h5
      refine p_aload_n 9 dX11_worthOf_8 rfl rfl (by decide) ?_
      refine p_iconst 10 dX11_worthOf_9 ?_
      refine p_callV1i 0 13 dX11_worthOf_10 s_refuse lk_X11_73 mX11_refuse rfl rfl (by decide) (Nat.le_of_ble_eq_true rfl) ?_
      rintro _ _ ⟨rfl, rfl⟩
      refine p_iret dX11_worthOf_13 rfl ?_
      exact ⟨_, rfl, CQ.of hI hF (fun k _ => rfl) (by unfold pa_worthOf; (repeat' split) <;> first | rfl | (exfalso; omega)) (by unfold pa_worthOf; (repeat' split) <;> first | rfl | (exfalso; omega)) (by decide)⟩
theorem l_bestHandC {l : Launch} {X : ZX} {M : ZM} {c : Nat} (hc : isC c) {ρ : Nat → Int} {h : Int} (hW : zWc M) (hC : ICc ρ h c M) (hR : wfR ρ) (hco : M 0 5 = (c : Int)) (ht : ICt ρ M) : ∀ (j i : Nat), i + j = q_n ρ 3 → ∀ o4 : Option ZV, zP l X 6 tX11_bestHand 47 [some (zr 0), some (zi ((q_bh ρ i).1 : Int)), some (zi (q_bh ρ i).2), some (zi (i : Int)), o4] [] M (fun r M' => ∃ a, r = some (zi a) ∧ a = (q_bh ρ (q_n ρ 3)).2 ∧ M' = zset M 0 2 0) := by
  have e2 : ρ 2 = (q_n ρ 2 : Int) := hR.n (by decide)
  have b2 := hR.2.1.2.2.1
  have e3 : ρ 3 = (q_n ρ 3 : Int) := hR.n (by decide)
  have b3 := hR.2.1.2.2.2.1
  have hcl := hc.lt
  have hTl := q_T_le hR (n := q_n ρ 3) (by omega)
  change q_T ρ ≤ 365 at hTl
  intro j
  induction j with
  | zero =>
    intro i hi o4
    refine p_iload_n 48 dX11_bestHand_47 rfl rfl ?_
    refine p_aload_n 49 dX11_bestHand_48 rfl rfl (by decide) ?_
    refine p_getR 0 52 dX11_bestHand_49 fX11_16 rfl hco ?_
    refine p_getR (c) 55 dX11_bestHand_52 fX11_151 hc.tt2.1 (hc.wire2 hW).2.1 ?_
    refine p_getI (c + 6) 58 dX11_bestHand_55 fX11_207 hc.tt2.2.2.1 ?_
    rw [hC.1.2.2.2.2.1]
    refine p_icmp_ge 100 61 dX11_bestHand_58 (by omega) (by omega) (by omega) (by omega) (fun h58 => ?_) (fun h58 => absurd (by omega) (fun h9 : False => h9))
    refine p_aload_n 101 dX11_bestHand_100 rfl rfl (by decide) ?_
    refine p_iload_n 102 dX11_bestHand_101 rfl rfl ?_
    refine p_callV1i 0 105 dX11_bestHand_102 s_grant lk_X11_108 mX11_grant rfl rfl (by decide) (Nat.le_of_ble_eq_true rfl) ?_
    rintro _ _ ⟨rfl, rfl⟩
    refine p_iret dX11_bestHand_105 rfl ?_
    rw [Nat.add_zero] at hi
    subst hi
    exact ⟨_, rfl, rfl, rfl⟩
  | succ j ih =>
    intro i hi o4
    have hb := q_bh_le hR i
    have hq := q_bt_le hR (q_n ρ 2) (q_hw (q_n ρ) (-1) (i : Int))
    have er : q_bh ρ (i + 1) = if (q_bh ρ i).1 < q_bt (q_n ρ) (q_n ρ 2) (q_hw (q_n ρ) (-1) (i : Int)) then (q_bt (q_n ρ) (q_n ρ 2) (q_hw (q_n ρ) (-1) (i : Int)), (i : Int)) else q_bh ρ i := rfl
    obtain ⟨hq1, hq2⟩ := q_all_add hR (a := i) (by omega)
    refine p_iload_n 48 dX11_bestHand_47 rfl rfl ?_
    refine p_aload_n 49 dX11_bestHand_48 rfl rfl (by decide) ?_
    refine p_getR 0 52 dX11_bestHand_49 fX11_16 rfl hco ?_
    refine p_getR (c) 55 dX11_bestHand_52 fX11_151 hc.tt2.1 (hc.wire2 hW).2.1 ?_
    refine p_getI (c + 6) 58 dX11_bestHand_55 fX11_207 hc.tt2.2.2.1 ?_
    rw [hC.1.2.2.2.2.1]
    refine p_icmp_ge 100 61 dX11_bestHand_58 (by omega) (by omega) (by omega) (by omega) (fun h58 => absurd (by omega) (fun h9 : False => h9)) (fun h58 => ?_)
    refine p_aload_n 62 dX11_bestHand_61 rfl rfl (by decide) ?_
    refine p_getR 0 65 dX11_bestHand_62 fX11_47 rfl (hW (0, 10, 112) (by decide)) ?_
    refine p_aload_n 66 dX11_bestHand_65 rfl rfl (by decide) ?_
    refine p_getR 0 69 dX11_bestHand_66 fX11_47 rfl (hW (0, 10, 112) (by decide)) ?_
    refine p_getI 112 72 dX11_bestHand_69 fX11_191 rfl ?_
    rw [ht.1]
    refine p_iload_n 73 dX11_bestHand_72 rfl rfl ?_
    refine p_iconst 74 dX11_bestHand_73 ?_
    refine p_callS2i 77 dX11_bestHand_74 (s_handsAt (i := i) (v := 1) (by omega) (by decide)) lk_X11_204 mX11_handsAt (by decide) (Nat.le_of_ble_eq_true rfl) ?_
    rintro _ _ ⟨rfl, e9⟩
    have e9 := e9.symm
    subst e9
    rw [Nat.one_mul]
    refine p_iadd 78 dX11_bestHand_77 ?_
    refine p_callV1i 112 81 dX11_bestHand_78 (s_greatest hW (st := q_allHands (q_n ρ) + 8 ^ i) (by omega)) lk_X11_194 mX9_greatest rfl rfl (by decide) (Nat.le_of_ble_eq_true rfl) ?_
    rintro _ _ ⟨rfl, e9⟩
    have e9 := e9.symm
    subst e9
    rw [ht.top hq1, q_bt_congr (q_n ρ 2) hq2]
    refine p_istore 83 dX11_bestHand_81 (Nat.le_of_ble_eq_true rfl) rfl rfl ?_
    dsimp only [List.set]
    refine p_iload 85 dX11_bestHand_83 rfl ?_
    refine p_iload_n 86 dX11_bestHand_85 rfl rfl ?_
    refine p_icmp_le 94 89 dX11_bestHand_86 (by omega) (by omega) (by omega) (by omega) (fun h86 => ?_) (fun h86 => ?_)
    · refine p_iinc 97 dX11_bestHand_94 rfl rfl rfl ?_
      dsimp only [List.set]
      refine p_goto 47 dX11_bestHand_97 ?_
      have e := ih (i + 1) (by omega) (some (zi (q_bt (q_n ρ) (q_n ρ 2) (q_hw (q_n ρ) (-1) (i : Int)) : Int)))
      first
        | (rw [er, if_pos (by omega)] at e; exact e)
        | (rw [er, if_neg (by omega)] at e; exact e)
    · refine p_iload 91 dX11_bestHand_89 rfl ?_
      refine p_istore_n 92 dX11_bestHand_91 rfl (Nat.le_of_ble_eq_true rfl) rfl rfl ?_
      dsimp only [List.set]
      refine p_iload_n 93 dX11_bestHand_92 rfl rfl ?_
      refine p_istore_n 94 dX11_bestHand_93 rfl (Nat.le_of_ble_eq_true rfl) rfl rfl ?_
      dsimp only [List.set]
      refine p_iinc 97 dX11_bestHand_94 rfl rfl rfl ?_
      dsimp only [List.set]
      refine p_goto 47 dX11_bestHand_97 ?_
      have e := ih (i + 1) (by omega) (some (zi (q_bt (q_n ρ) (q_n ρ 2) (q_hw (q_n ρ) (-1) (i : Int)) : Int)))
      first
        | (rw [er, if_pos (by omega)] at e; exact e)
        | (rw [er, if_neg (by omega)] at e; exact e)
theorem c_bestHand {l : Launch} {X : ZX} {M : ZM} (hI : IC M M) (hF : WF M)  : zCi l X 6 yX11_bestHand tX11_bestHand [zr 0] M (CQ M (pa_bestHand (M 124 14) (M 127))) := by
  obtain ⟨hW, ⟨c, c', hcc, hco, hsp, hC⟩, ⟨j1, j2, j3, j4, j5⟩, hN, hpast, hten, ⟨hz0, hsea⟩, hfit⟩ := id hI
  have hR := hF.r
  have hT := hF.t
  have hh := hF.h
  have e0 : M 127 0 = (q_n (M 127) 0 : Int) := hR.n (by decide)
  have e2 : M 127 2 = (q_n (M 127) 2 : Int) := hR.n (by decide)
  have e3 : M 127 3 = (q_n (M 127) 3 : Int) := hR.n (by decide)
  have e4 : M 127 4 = (q_n (M 127) 4 : Int) := hR.n (by decide)
  have bR := hR.2.1
  have h20 : M 124 14 = 0 → M 127 2 = 0 := fun h => hF.r0 h 2 (by decide)
  have h30 : M 124 14 = 0 → M 127 3 = 0 := fun h => hF.r0 h 3 (by decide)
  have h40 : M 124 14 = 0 → M 127 4 = 0 := fun h => hF.r0 h 4 (by decide)
  have hwo : M 49 3 = M 129 16 := hN.2.2.2.1
  have t160 := hT.1 16 (by decide)
  have t161 := hT.2.2.2.2.1
  refine zC.of [some (zr 0), none, none, none, none] (by decide +kernel) rfl rfl (Nat.le_of_ble_eq_true rfl) rfl ?_
  rcases hcc with ⟨rfl, rfl⟩ | ⟨rfl, rfl⟩
  · have hto : M 2 0 = M 124 14 := hC.1.1
    have hla : M 2 1 = M 127 0 := hC.1.2.1
    have hsn : M 2 2 = M 127 1 := hC.1.2.2.1
    have hcs : M 3 0 = M 127 2 := hC.1.2.2.2.1
    have hca : M 8 0 = M 127 3 := hC.1.2.2.2.2.1
    have hcw : M 13 0 = M 127 4 := hC.1.2.2.2.2.2.1
    have hcb : M 13 1 = M 127 5 := hC.1.2.2.2.2.2.2.1
    have hcor : M 19 0 = M 127 6 := hC.1.2.2.2.2.2.2.2.1
    have hcn : M 19 4 = M 127 7 := hC.1.2.2.2.2.2.2.2.2
    have b2 := bR.2.2.1
    have b3 := bR.2.2.2.1
    have hTl := q_T_le hR (n := q_n (M 127) 3) (by omega)
    change q_T (M 127) ≤ 365 at hTl
    have hAl := q_all_le_T (M 127)
    refine p_aload_n 1 dX11_bestHand_0 rfl rfl (by decide) ?_
    refine p_getR 0 4 dX11_bestHand_1 fX11_16 rfl hco ?_
    refine p_getI 2 7 dX11_bestHand_4 fX11_114 rfl ?_
    rw [hto]
    refine p_if_ne 16 10 dX11_bestHand_7 (by omega) (by omega) (fun h7 => ?_) (fun h7 => ?_)
    · have h1 : M 124 14 = 1 := by omega
      have hR1 := hF.r1 h1
      refine p_aload_n 17 dX11_bestHand_16 rfl rfl (by decide) ?_
      refine p_getR 0 20 dX11_bestHand_17 fX11_47 rfl (hW (0, 10, 112) (by decide)) ?_
      refine p_aload_n 21 dX11_bestHand_20 rfl rfl (by decide) ?_
      refine p_getR 0 24 dX11_bestHand_21 fX11_16 rfl hco ?_
      refine p_callV1v 112 27 dX11_bestHand_24 (s_learnT (Or.inl rfl : isC 2) hW hC hR hten) lk_X11_187 mX9_learn rfl rfl (by decide) (Nat.le_of_ble_eq_true rfl) ?_
      intro M9 h9
      obtain ⟨g1, g2, g3, g4⟩ := h9
      have hI9 : IC M M9 := hI.learnT hF g1 g2 g3 g4
      have hk9 : ∀ k, 124 ≤ k → M9 k = M k := fun k hk => g1 k (by omega)
      have hW := hI9.1
      have hC : ICc (M 127) (M 124 14) 2 M9 := hC.congr (fun a _ _ => g1 a (by omega))
      have hcs : M9 3 0 = M 127 2 := hC.1.2.2.2.1
      have hca : M9 8 0 = M 127 3 := hC.1.2.2.2.2.1
      have hsn : M9 2 2 = M 127 1 := hC.1.2.2.1
      have hco : M9 0 5 = 2 := (congrFun (g1 0 (by omega)) 5).trans hco
      have hN : ICn (M 129) (M 124 14) 49 M9 := hN.congr (g1 _ (by omega)) (g1 _ (by omega)) (g1 _ (by omega))
      have hwo : M9 49 3 = M 129 16 := hN.2.2.2.1
      refine p_aload_n 28 dX11_bestHand_27 rfl rfl (by decide) ?_
      refine p_getR 0 31 dX11_bestHand_28 fX11_47 rfl (hW (0, 10, 112) (by decide)) ?_
      refine p_aload_n 32 dX11_bestHand_31 rfl rfl (by decide) ?_
      refine p_getR 0 35 dX11_bestHand_32 fX11_47 rfl (hW (0, 10, 112) (by decide)) ?_
      refine p_getI 112 38 dX11_bestHand_35 fX11_191 rfl ?_
      rw [g4.1]
      refine p_callV1i 112 41 dX11_bestHand_38 (s_greatest hW (st := q_allHands (q_n (M 127))) (by omega)) lk_X11_194 mX9_greatest rfl rfl (by decide) (Nat.le_of_ble_eq_true rfl) ?_
      rintro _ _ ⟨rfl, e9⟩
      have e9 := e9.symm
      subst e9
      rw [g4.all hR]
      refine p_istore_n 42 dX11_bestHand_41 rfl (Nat.le_of_ble_eq_true rfl) rfl rfl ?_
      dsimp only [List.set]
      refine p_bipush 44 dX11_bestHand_42 rfl ?_
      refine p_istore_n 45 dX11_bestHand_44 rfl (Nat.le_of_ble_eq_true rfl) rfl rfl ?_
      dsimp only [List.set]
      refine p_iconst 46 dX11_bestHand_45 ?_
      refine p_istore_n 47 dX11_bestHand_46 rfl (Nat.le_of_ble_eq_true rfl) rfl rfl ?_
      dsimp only [List.set]
      refine (l_bestHandC (Or.inl rfl : isC 2) hW hC hR hco g4 (q_n (M 127) 3) 0 (Nat.zero_add _) none).mono (fun r M8 h8 => ?_)
      obtain ⟨a9, ea, eb, ec⟩ := h8
      subst ec
      exact ⟨a9, ea, CQ.of hI9 hF hk9 (eb.trans (by unfold pa_bestHand; rw [if_neg (by omega)])) (by unfold pa_bestHand; rw [if_neg (by omega)]) (by decide)⟩
    · refine p_aload_n 11 dX11_bestHand_10 rfl rfl (by decide) ?_
      refine p_iconst 12 dX11_bestHand_11 ?_
      refine p_callV1i 0 15 dX11_bestHand_12 s_refuse lk_X11_73 mX11_refuse rfl rfl (by decide) (Nat.le_of_ble_eq_true rfl) ?_
      rintro _ _ ⟨rfl, rfl⟩
      refine p_iret dX11_bestHand_15 rfl ?_
      exact ⟨_, rfl, CQ.of hI hF (fun k _ => rfl) (by unfold pa_bestHand; (repeat' split) <;> first | rfl | (exfalso; omega)) (by unfold pa_bestHand; (repeat' split) <;> first | rfl | (exfalso; omega)) (by decide)⟩
  · have hto : M 25 0 = M 124 14 := hC.1.1
    have hla : M 25 1 = M 127 0 := hC.1.2.1
    have hsn : M 25 2 = M 127 1 := hC.1.2.2.1
    have hcs : M 26 0 = M 127 2 := hC.1.2.2.2.1
    have hca : M 31 0 = M 127 3 := hC.1.2.2.2.2.1
    have hcw : M 36 0 = M 127 4 := hC.1.2.2.2.2.2.1
    have hcb : M 36 1 = M 127 5 := hC.1.2.2.2.2.2.2.1
    have hcor : M 42 0 = M 127 6 := hC.1.2.2.2.2.2.2.2.1
    have hcn : M 42 4 = M 127 7 := hC.1.2.2.2.2.2.2.2.2
    have b2 := bR.2.2.1
    have b3 := bR.2.2.2.1
    have hTl := q_T_le hR (n := q_n (M 127) 3) (by omega)
    change q_T (M 127) ≤ 365 at hTl
    have hAl := q_all_le_T (M 127)
    refine p_aload_n 1 dX11_bestHand_0 rfl rfl (by decide) ?_
    refine p_getR 0 4 dX11_bestHand_1 fX11_16 rfl hco ?_
    refine p_getI 25 7 dX11_bestHand_4 fX11_114 rfl ?_
    rw [hto]
    refine p_if_ne 16 10 dX11_bestHand_7 (by omega) (by omega) (fun h7 => ?_) (fun h7 => ?_)
    · have h1 : M 124 14 = 1 := by omega
      have hR1 := hF.r1 h1
      refine p_aload_n 17 dX11_bestHand_16 rfl rfl (by decide) ?_
      refine p_getR 0 20 dX11_bestHand_17 fX11_47 rfl (hW (0, 10, 112) (by decide)) ?_
      refine p_aload_n 21 dX11_bestHand_20 rfl rfl (by decide) ?_
      refine p_getR 0 24 dX11_bestHand_21 fX11_16 rfl hco ?_
      refine p_callV1v 112 27 dX11_bestHand_24 (s_learnT (Or.inr rfl : isC 25) hW hC hR hten) lk_X11_187 mX9_learn rfl rfl (by decide) (Nat.le_of_ble_eq_true rfl) ?_
      intro M9 h9
      obtain ⟨g1, g2, g3, g4⟩ := h9
      have hI9 : IC M M9 := hI.learnT hF g1 g2 g3 g4
      have hk9 : ∀ k, 124 ≤ k → M9 k = M k := fun k hk => g1 k (by omega)
      have hW := hI9.1
      have hC : ICc (M 127) (M 124 14) 25 M9 := hC.congr (fun a _ _ => g1 a (by omega))
      have hcs : M9 26 0 = M 127 2 := hC.1.2.2.2.1
      have hca : M9 31 0 = M 127 3 := hC.1.2.2.2.2.1
      have hsn : M9 25 2 = M 127 1 := hC.1.2.2.1
      have hco : M9 0 5 = 25 := (congrFun (g1 0 (by omega)) 5).trans hco
      have hN : ICn (M 129) (M 124 14) 49 M9 := hN.congr (g1 _ (by omega)) (g1 _ (by omega)) (g1 _ (by omega))
      have hwo : M9 49 3 = M 129 16 := hN.2.2.2.1
      refine p_aload_n 28 dX11_bestHand_27 rfl rfl (by decide) ?_
      refine p_getR 0 31 dX11_bestHand_28 fX11_47 rfl (hW (0, 10, 112) (by decide)) ?_
      refine p_aload_n 32 dX11_bestHand_31 rfl rfl (by decide) ?_
      refine p_getR 0 35 dX11_bestHand_32 fX11_47 rfl (hW (0, 10, 112) (by decide)) ?_
      refine p_getI 112 38 dX11_bestHand_35 fX11_191 rfl ?_
      rw [g4.1]
      refine p_callV1i 112 41 dX11_bestHand_38 (s_greatest hW (st := q_allHands (q_n (M 127))) (by omega)) lk_X11_194 mX9_greatest rfl rfl (by decide) (Nat.le_of_ble_eq_true rfl) ?_
      rintro _ _ ⟨rfl, e9⟩
      have e9 := e9.symm
      subst e9
      rw [g4.all hR]
      refine p_istore_n 42 dX11_bestHand_41 rfl (Nat.le_of_ble_eq_true rfl) rfl rfl ?_
      dsimp only [List.set]
      refine p_bipush 44 dX11_bestHand_42 rfl ?_
      refine p_istore_n 45 dX11_bestHand_44 rfl (Nat.le_of_ble_eq_true rfl) rfl rfl ?_
      dsimp only [List.set]
      refine p_iconst 46 dX11_bestHand_45 ?_
      refine p_istore_n 47 dX11_bestHand_46 rfl (Nat.le_of_ble_eq_true rfl) rfl rfl ?_
      dsimp only [List.set]
      refine (l_bestHandC (Or.inr rfl : isC 25) hW hC hR hco g4 (q_n (M 127) 3) 0 (Nat.zero_add _) none).mono (fun r M8 h8 => ?_)
      obtain ⟨a9, ea, eb, ec⟩ := h8
      subst ec
      exact ⟨a9, ea, CQ.of hI9 hF hk9 (eb.trans (by unfold pa_bestHand; rw [if_neg (by omega)])) (by unfold pa_bestHand; rw [if_neg (by omega)]) (by decide)⟩
    · refine p_aload_n 11 dX11_bestHand_10 rfl rfl (by decide) ?_
      refine p_iconst 12 dX11_bestHand_11 ?_
      refine p_callV1i 0 15 dX11_bestHand_12 s_refuse lk_X11_73 mX11_refuse rfl rfl (by decide) (Nat.le_of_ble_eq_true rfl) ?_
      rintro _ _ ⟨rfl, rfl⟩
      refine p_iret dX11_bestHand_15 rfl ?_
      exact ⟨_, rfl, CQ.of hI hF (fun k _ => rfl) (by unfold pa_bestHand; (repeat' split) <;> first | rfl | (exfalso; omega)) (by unfold pa_bestHand; (repeat' split) <;> first | rfl | (exfalso; omega)) (by decide)⟩
theorem m_tending {l : Launch} {X : ZX} {M : ZM} (hW : zWm M) (hF : WF M)  : zCi l X 12 yX12_tending tX12_tending [zr 124] M (MQq M (pa_tending (M 124 14) (M 127))) := by
  have hWg : zWm (zset (zset M 124 0 0) 124 11 0) := (hW.set (by decide +kernel)).set (by decide +kernel)
  have hR := hF.r
  have hT := hF.t
  have hh := hF.h
  have e0 : M 127 0 = (q_n (M 127) 0 : Int) := hR.n (by decide)
  have e2 : M 127 2 = (q_n (M 127) 2 : Int) := hR.n (by decide)
  have e3 : M 127 3 = (q_n (M 127) 3 : Int) := hR.n (by decide)
  have e4 : M 127 4 = (q_n (M 127) 4 : Int) := hR.n (by decide)
  have bR := hR.2.1
  have h20 : M 124 14 = 0 → M 127 2 = 0 := fun h => hF.r0 h 2 (by decide)
  have h30 : M 124 14 = 0 → M 127 3 = 0 := fun h => hF.r0 h 3 (by decide)
  have h40 : M 124 14 = 0 → M 127 4 = 0 := fun h => hF.r0 h 4 (by decide)
  have b2 := bR.2.2.1
  have b3 := bR.2.2.2.1
  refine zC.of [some (zr 124)] (by decide +kernel) rfl rfl (Nat.le_of_ble_eq_true rfl) rfl ?_
  refine p_aload_n 1 dX12_tending_0 rfl rfl (by decide) ?_
  refine p_callV0v 124 4 dX12_tending_1 s_good lk_X12_165 mX12_good rfl rfl (by decide) (Nat.le_of_ble_eq_true rfl) ?_
  rintro _ rfl
  refine p_aload_n 5 dX12_tending_4 rfl rfl (by decide) ?_
  refine p_getI 124 8 dX12_tending_5 fX12_178 rfl ?_
  refine p_if_eq 20 11 dX12_tending_8 (by show _ ≤ M 124 14; omega) (by show M 124 14 < _; omega) (fun h8 => ?_) (fun h8 => ?_)
  · have h8 : M 124 14 = 0 := h8
    refine p_aload_n 21 dX12_tending_20 rfl rfl (by decide) ?_
    refine p_iconst 22 dX12_tending_21 ?_
    refine p_callV1i 124 25 dX12_tending_22 s_no lk_X12_168 mX12_no rfl rfl (by decide) (Nat.le_of_ble_eq_true rfl) ?_
    rintro _ _ ⟨rfl, rfl⟩
    refine p_iret dX12_tending_25 rfl ?_
    exact ⟨_, rfl, MQq.of hid_no hW (by unfold pa_tending; (repeat' split) <;> first | rfl | (exfalso; omega)) (by unfold pa_tending; (repeat' split) <;> first | rfl | (exfalso; omega))⟩
  · have h8 : ¬ M 124 14 = 0 := h8
    have h1 : M 124 14 = 1 := by omega
    refine p_aload_n 12 dX12_tending_11 rfl rfl (by decide) ?_
    refine p_iconst 13 dX12_tending_12 ?_
    refine p_iconst 14 dX12_tending_13 ?_
    refine p_callV2i 124 17 dX12_tending_14 (s_seekTending (ρ := M 127) hR hWg (fun _ _ => rfl) (wo := -1) (mo := -1) (by decide) (by decide) (by decide) (by decide)) lk_X12_306 mX12_seekTending rfl rfl (by decide) (Nat.le_of_ble_eq_true rfl) ?_
    rintro a9 M9 ⟨rfl, hh9, k11, k133⟩
    have hW9 : zWm M9 := hh9.wm hWg
    have hE9 : ∀ i, i < 421 → M9 127 i = M 127 i := fun i _ => hh9.2 127 i (by simp [q_hid]) (by omega) (by omega)
    have hU9 : ∀ i, i < 18 → M9 129 i = M 129 i := fun i _ => hh9.2 129 i (by simp [q_hid]) (by omega) (by omega)
    have hg9 := hid_good.trans hh9
    have k11 : M9 124 11 = 0 := k11
    rw [q_bt_congr (q_n (M 127) 2) q_hw_all]
    refine p_goto 25 dX12_tending_17 ?_
    refine p_iret dX12_tending_25 rfl ?_
    refine ⟨_, rfl, MQq.of hg9 hW ?_ ?_⟩ <;> unfold pa_tending <;> rw [if_neg (by omega)]
    exact k11
theorem q_tends_le {r : Nat → Nat} : ∀ (m : Nat) (hd : Nat → Nat) (s : Nat), q_tends r m hd s ≤ r 3 := by
  intro m
  induction m with
  | zero => intro hd s; exact Nat.zero_le _
  | succ m ih =>
    intro hd s
    rw [q_tends_succ]
    split
    · cases hq : q_who r m hd with
      | none => exact Nat.zero_le _
      | some a => exact (q_first_some hq).1
    · exact ih _ s
theorem q_te_le {ρ : Nat → Int} (hR : wfR ρ) (s : Nat) : q_te ρ s ≤ 3 := by
  have e3 : ρ 3 = (q_n ρ 3 : Int) := hR.n (by decide)
  have b3 := hR.2.1.2.2.2.1
  have := q_tends_le (r := q_n ρ) (q_n ρ 2) (q_hands (q_n ρ)) s
  unfold q_te
  omega
theorem m_tendedBy {l : Launch} {X : ZX} {M : ZM} (hW : zWm M) (hF : WF M) {v : Int} (hv1 : -2147483648 ≤ v) (hv2 : v < 2147483648) : zCi l X 12 yX12_tendedBy tX12_tendedBy [zr 124, zi v] M (MQq M (pa_tendedBy (M 124 14) (M 127) v)) := by
  have hWg : zWm (zset (zset M 124 0 0) 124 11 0) := (hW.set (by decide +kernel)).set (by decide +kernel)
  have hR := hF.r
  have hT := hF.t
  have hh := hF.h
  have e0 : M 127 0 = (q_n (M 127) 0 : Int) := hR.n (by decide)
  have e2 : M 127 2 = (q_n (M 127) 2 : Int) := hR.n (by decide)
  have e3 : M 127 3 = (q_n (M 127) 3 : Int) := hR.n (by decide)
  have e4 : M 127 4 = (q_n (M 127) 4 : Int) := hR.n (by decide)
  have bR := hR.2.1
  have h20 : M 124 14 = 0 → M 127 2 = 0 := fun h => hF.r0 h 2 (by decide)
  have h30 : M 124 14 = 0 → M 127 3 = 0 := fun h => hF.r0 h 3 (by decide)
  have h40 : M 124 14 = 0 → M 127 4 = 0 := fun h => hF.r0 h 4 (by decide)
  have b2 := bR.2.2.1
  have b3 := bR.2.2.2.1
  refine zC.of [some (zr 124), some (zi v)] (by decide +kernel) rfl rfl (Nat.le_of_ble_eq_true rfl) rfl ?_
  refine p_aload_n 1 dX12_tendedBy_0 rfl rfl (by decide) ?_
  refine p_callV0v 124 4 dX12_tendedBy_1 s_good lk_X12_165 mX12_good rfl rfl (by decide) (Nat.le_of_ble_eq_true rfl) ?_
  rintro _ rfl
  refine p_aload_n 5 dX12_tendedBy_4 rfl rfl (by decide) ?_
  refine p_iload_n 6 dX12_tendedBy_5 rfl rfl ?_
  refine p_callV1i 124 9 dX12_tendedBy_6 (s_isSleeper (ρ := M 127) hWg (fun _ _ => rfl) hR (by exact hh) (by omega) (by omega)) lk_X12_275 mX12_isSleeper rfl rfl (by decide) (Nat.le_of_ble_eq_true rfl) ?_
  rintro _ _ ⟨rfl, e9⟩
  have e9 := e9.symm
  subst e9
  refine p_if_ne 18 12 dX12_tendedBy_9 (by split <;> omega) (by split <;> omega) (fun h9 => ?_) (fun h9 => ?_)
  · have h9t : M 124 14 = 1 ∧ 0 ≤ v ∧ v < M 127 2 := if_ne0 h9
    obtain ⟨n, rfl⟩ : ∃ k : Nat, v = (k : Int) := ⟨v.toNat, by omega⟩
    have htl := q_te_le hR n
    refine p_aload_n 19 dX12_tendedBy_18 rfl rfl (by decide) ?_
    refine p_iconst 20 dX12_tendedBy_19 ?_
    refine p_iconst 21 dX12_tendedBy_20 ?_
    refine p_callV2i 124 24 dX12_tendedBy_21 (s_seekTending (ρ := M 127) hR hWg (fun _ _ => rfl) (wo := -1) (mo := -1) (by decide) (by decide) (by decide) (by decide)) lk_X12_306 mX12_seekTending rfl rfl (by decide) (Nat.le_of_ble_eq_true rfl) ?_
    rintro a9 M9 ⟨rfl, hh9, k11, k133⟩
    have hW9 : zWm M9 := hh9.wm hWg
    have hE9 : ∀ i, i < 421 → M9 127 i = M 127 i := fun i _ => hh9.2 127 i (by simp [q_hid]) (by omega) (by omega)
    have hU9 : ∀ i, i < 18 → M9 129 i = M 129 i := fun i _ => hh9.2 129 i (by simp [q_hid]) (by omega) (by omega)
    have hg9 := hid_good.trans hh9
    have k11 : M9 124 11 = 0 := k11
    have k133 : ∀ x, x < q_n (M 127) 2 → M9 133 x = (q_te (M 127) x : Int) := fun x hx => by
      rw [k133 x hx, q_tends_congr (q_n (M 127) 2) q_hw_all]
      rfl
    refine p_popI 25 dX12_tendedBy_24 ?_
    refine p_aload_n 26 dX12_tendedBy_25 rfl rfl (by decide) ?_
    refine p_getR 124 29 dX12_tendedBy_26 fX12_38 rfl (hW9 (124, 23, 133) (by decide +kernel)) ?_
    refine p_iload_n 30 dX12_tendedBy_29 rfl rfl ?_
    refine p_ialdn 133 31 (n) dX12_tendedBy_30 rfl (by omega) (by omega) ?_
    rw [k133 n (by omega)]
    refine p_if_ne 39 34 dX12_tendedBy_31 (by omega) (by omega) (fun h31 => ?_) (fun h31 => ?_)
    · refine p_aload_n 40 dX12_tendedBy_39 rfl rfl (by decide) ?_
      refine p_getR 124 43 dX12_tendedBy_40 fX12_38 rfl (hW9 (124, 23, 133) (by decide +kernel)) ?_
      refine p_iload_n 44 dX12_tendedBy_43 rfl rfl ?_
      refine p_ialdn 133 45 (n) dX12_tendedBy_44 rfl (by omega) (by omega) ?_
      rw [k133 n (by omega)]
      refine p_iconst 46 dX12_tendedBy_45 ?_
      refine p_isub 47 dX12_tendedBy_46 ?_
      refine p_iret dX12_tendedBy_47 rfl ?_
      refine ⟨_, rfl, MQq.of hg9 hW ?_ ?_⟩ <;> unfold pa_tendedBy <;> rw [if_neg (by omega)]
      · rw [Int.toNat_natCast]
        unfold q_tnd
        first | (rw [if_pos (by omega)]; done) | (rw [if_neg (by omega)]; done)
      · exact k11
    · refine p_bipush 36 dX12_tendedBy_34 rfl ?_
      refine p_goto 47 dX12_tendedBy_36 ?_
      refine p_iret dX12_tendedBy_47 rfl ?_
      refine ⟨_, rfl, MQq.of hg9 hW ?_ ?_⟩ <;> unfold pa_tendedBy <;> rw [if_neg (by omega)]
      · rw [Int.toNat_natCast]
        unfold q_tnd
        first | (rw [if_pos (by omega)]; done) | (rw [if_neg (by omega)]; done)
      · exact k11
  · have h9f : ¬ (M 124 14 = 1 ∧ 0 ≤ v ∧ v < M 127 2) := if_nne0 h9
    refine p_aload_n 13 dX12_tendedBy_12 rfl rfl (by decide) ?_
    refine p_iconst 14 dX12_tendedBy_13 ?_
    refine p_callV1i 124 17 dX12_tendedBy_14 s_no lk_X12_168 mX12_no rfl rfl (by decide) (Nat.le_of_ble_eq_true rfl) ?_
    rintro _ _ ⟨rfl, rfl⟩
    refine p_iret dX12_tendedBy_17 rfl ?_
    exact ⟨_, rfl, MQq.of hid_no hW (by unfold pa_tendedBy; (repeat' split) <;> first | rfl | (exfalso; omega)) (by unfold pa_tendedBy; (repeat' split) <;> first | rfl | (exfalso; omega))⟩
theorem l_leftM {l : Launch} {X : ZX} {M : ZM} {ρ : Nat → Int} (hW : zWm M) (hE : ∀ i, i < 421 → M 127 i = ρ i) (hR : wfR ρ) (hk : ∀ x, x < q_n ρ 2 → M 133 x = (q_te ρ x : Int)) : ∀ (j i : Nat), i + j = q_n ρ 2 → zP l X 12 tX12_left 28 [some (zr 124), some (zi (q_set (fun s => !(decide (q_te ρ s ≠ 0))) i : Int)), some (zi (i : Int))] [] M (fun r M' => ∃ a, r = some (zi a) ∧ (a = (q_set (fun s => !(decide (q_te ρ s ≠ 0))) (q_n ρ 2) : Int) ∧ M' = M)) := by
  have e2 : ρ 2 = (q_n ρ 2 : Int) := hR.n (by decide)
  have b2 := hR.2.1.2.2.1
  intro j
  induction j with
  | zero =>
    intro i hi
    refine p_iload_n 29 dX12_left_28 rfl rfl ?_
    refine p_aload_n 30 dX12_left_29 rfl rfl (by decide) ?_
    refine p_getR 124 33 dX12_left_30 fX12_20 rfl (hW (124, 15, 127) (by decide)) ?_
    refine p_iconst 34 dX12_left_33 ?_
    refine p_ialdn 127 35 (2) dX12_left_34 rfl (by omega) (by omega) ?_
    rw [hE 2 (by decide)]
    refine p_icmp_ge 63 38 dX12_left_35 (by omega) (by omega) (by omega) (by omega) (fun h35 => ?_) (fun h35 => absurd (by omega) (fun h9 : False => h9))
    refine p_iload_n 64 dX12_left_63 rfl rfl ?_
    refine p_iret dX12_left_64 rfl ?_
    rw [Nat.add_zero] at hi
    exact ⟨_, rfl, by rw [hi], rfl⟩
  | succ j ih =>
    intro i hi
    have htl := q_te_le hR i
    refine p_iload_n 29 dX12_left_28 rfl rfl ?_
    refine p_aload_n 30 dX12_left_29 rfl rfl (by decide) ?_
    refine p_getR 124 33 dX12_left_30 fX12_20 rfl (hW (124, 15, 127) (by decide)) ?_
    refine p_iconst 34 dX12_left_33 ?_
    refine p_ialdn 127 35 (2) dX12_left_34 rfl (by omega) (by omega) ?_
    rw [hE 2 (by decide)]
    refine p_icmp_ge 63 38 dX12_left_35 (by omega) (by omega) (by omega) (by omega) (fun h35 => absurd (by omega) (fun h9 : False => h9)) (fun h35 => ?_)
    refine p_iload_n 39 dX12_left_38 rfl rfl ?_
    refine p_aload_n 40 dX12_left_39 rfl rfl (by decide) ?_
    refine p_getR 124 43 dX12_left_40 fX12_38 rfl (hW (124, 23, 133) (by decide)) ?_
    refine p_iload_n 44 dX12_left_43 rfl rfl ?_
    refine p_ialdn 133 45 (i) dX12_left_44 rfl (by omega) (by omega) ?_
    rw [hk i (by omega)]
    refine p_if_ne 54 48 dX12_left_45 (by omega) (by omega) (fun h45 => ?_) (fun h45 => ?_)
    · refine p_iconst 55 dX12_left_54 ?_
      refine p_ior 56 dX12_left_55 ?_
      refine p_istore_n 57 dX12_left_56 rfl (Nat.le_of_ble_eq_true rfl) rfl rfl ?_
      dsimp only [List.set]
      refine p_iinc 60 dX12_left_57 rfl rfl rfl ?_
      dsimp only [List.set]
      refine p_goto 28 dX12_left_60 ?_
      have e := ih (i + 1) (by omega)
      have er : q_set (fun s => !(decide (q_te ρ s ≠ 0))) (i + 1) = if (fun s => !(decide (q_te ρ s ≠ 0))) i then q_set (fun s => !(decide (q_te ρ s ≠ 0))) i ||| 2 ^ i else q_set (fun s => !(decide (q_te ρ s ≠ 0))) i := rfl
      first
        | (rw [er, if_neg (by show ¬ (!(decide (q_te ρ i ≠ 0))) = true; rw [decide_eq_true (by omega)]; decide)] at e; rw [z_ior_zero _ (Nat.lt_of_lt_of_le (q_set_lt _ i) (Nat.pow_le_pow_right (n := 2) (by decide) (show i ≤ 31 by omega)))]; exact e)
        | (rw [er, if_pos (by show (!(decide (q_te ρ i ≠ 0))) = true; rw [decide_eq_false (by omega)]; rfl)] at e; rw [z_bit i (by omega), z_ior_set _ (by omega)]; exact e)
    · refine p_iconst 49 dX12_left_48 ?_
      refine p_iload_n 50 dX12_left_49 rfl rfl ?_
      refine p_ishl 51 dX12_left_50 ?_
      refine p_goto 55 dX12_left_51 ?_
      refine p_ior 56 dX12_left_55 ?_
      refine p_istore_n 57 dX12_left_56 rfl (Nat.le_of_ble_eq_true rfl) rfl rfl ?_
      dsimp only [List.set]
      refine p_iinc 60 dX12_left_57 rfl rfl rfl ?_
      dsimp only [List.set]
      refine p_goto 28 dX12_left_60 ?_
      have e := ih (i + 1) (by omega)
      have er : q_set (fun s => !(decide (q_te ρ s ≠ 0))) (i + 1) = if (fun s => !(decide (q_te ρ s ≠ 0))) i then q_set (fun s => !(decide (q_te ρ s ≠ 0))) i ||| 2 ^ i else q_set (fun s => !(decide (q_te ρ s ≠ 0))) i := rfl
      first
        | (rw [er, if_neg (by show ¬ (!(decide (q_te ρ i ≠ 0))) = true; rw [decide_eq_true (by omega)]; decide)] at e; rw [z_ior_zero _ (Nat.lt_of_lt_of_le (q_set_lt _ i) (Nat.pow_le_pow_right (n := 2) (by decide) (show i ≤ 31 by omega)))]; exact e)
        | (rw [er, if_pos (by show (!(decide (q_te ρ i ≠ 0))) = true; rw [decide_eq_false (by omega)]; rfl)] at e; rw [z_bit i (by omega), z_ior_set _ (by omega)]; exact e)
theorem m_left {l : Launch} {X : ZX} {M : ZM} (hW : zWm M) (hF : WF M)  : zCi l X 12 yX12_left tX12_left [zr 124] M (MQq M (pa_left (M 124 14) (M 127))) := by
  have hWg : zWm (zset (zset M 124 0 0) 124 11 0) := (hW.set (by decide +kernel)).set (by decide +kernel)
  have hR := hF.r
  have hT := hF.t
  have hh := hF.h
  have e0 : M 127 0 = (q_n (M 127) 0 : Int) := hR.n (by decide)
  have e2 : M 127 2 = (q_n (M 127) 2 : Int) := hR.n (by decide)
  have e3 : M 127 3 = (q_n (M 127) 3 : Int) := hR.n (by decide)
  have e4 : M 127 4 = (q_n (M 127) 4 : Int) := hR.n (by decide)
  have bR := hR.2.1
  have h20 : M 124 14 = 0 → M 127 2 = 0 := fun h => hF.r0 h 2 (by decide)
  have h30 : M 124 14 = 0 → M 127 3 = 0 := fun h => hF.r0 h 3 (by decide)
  have h40 : M 124 14 = 0 → M 127 4 = 0 := fun h => hF.r0 h 4 (by decide)
  have b2 := bR.2.2.1
  have b3 := bR.2.2.2.1
  refine zC.of [some (zr 124), none, none] (by decide +kernel) rfl rfl (Nat.le_of_ble_eq_true rfl) rfl ?_
  refine p_aload_n 1 dX12_left_0 rfl rfl (by decide) ?_
  refine p_callV0v 124 4 dX12_left_1 s_good lk_X12_165 mX12_good rfl rfl (by decide) (Nat.le_of_ble_eq_true rfl) ?_
  rintro _ rfl
  refine p_aload_n 5 dX12_left_4 rfl rfl (by decide) ?_
  refine p_getI 124 8 dX12_left_5 fX12_178 rfl ?_
  refine p_if_ne 17 11 dX12_left_8 (by show _ ≤ M 124 14; omega) (by show M 124 14 < _; omega) (fun h8 => ?_) (fun h8 => ?_)
  · have h8 : ¬ M 124 14 = 0 := h8
    have h1 : M 124 14 = 1 := by omega
    refine p_aload_n 18 dX12_left_17 rfl rfl (by decide) ?_
    refine p_iconst 19 dX12_left_18 ?_
    refine p_iconst 20 dX12_left_19 ?_
    refine p_callV2i 124 23 dX12_left_20 (s_seekTending (ρ := M 127) hR hWg (fun _ _ => rfl) (wo := -1) (mo := -1) (by decide) (by decide) (by decide) (by decide)) lk_X12_306 mX12_seekTending rfl rfl (by decide) (Nat.le_of_ble_eq_true rfl) ?_
    rintro a9 M9 ⟨rfl, hh9, k11, k133⟩
    have hW9 : zWm M9 := hh9.wm hWg
    have hE9 : ∀ i, i < 421 → M9 127 i = M 127 i := fun i _ => hh9.2 127 i (by simp [q_hid]) (by omega) (by omega)
    have hU9 : ∀ i, i < 18 → M9 129 i = M 129 i := fun i _ => hh9.2 129 i (by simp [q_hid]) (by omega) (by omega)
    have hg9 := hid_good.trans hh9
    have k11 : M9 124 11 = 0 := k11
    have k133 : ∀ x, x < q_n (M 127) 2 → M9 133 x = (q_te (M 127) x : Int) := fun x hx => by
      rw [k133 x hx, q_tends_congr (q_n (M 127) 2) q_hw_all]
      rfl
    refine p_popI 24 dX12_left_23 ?_
    refine p_iconst 25 dX12_left_24 ?_
    refine p_istore_n 26 dX12_left_25 rfl (Nat.le_of_ble_eq_true rfl) rfl rfl ?_
    dsimp only [List.set]
    refine p_iconst 27 dX12_left_26 ?_
    refine p_istore_n 28 dX12_left_27 rfl (Nat.le_of_ble_eq_true rfl) rfl rfl ?_
    dsimp only [List.set]
    refine (l_leftM (ρ := M 127) hW9 hE9 hR k133 (q_n (M 127) 2) 0 (Nat.zero_add _)).mono (fun r M8 h8 => ?_)
    obtain ⟨a9, ea, eb, ec⟩ := h8
    subst ec
    exact ⟨a9, ea, MQq.of hg9 hW (eb.trans (by unfold pa_left; rw [if_neg (by omega)])) (by unfold pa_left; rw [if_neg (by omega)]; exact k11)⟩
  · have h8 : ¬ M 124 14 ≠ 0 := h8
    refine p_aload_n 12 dX12_left_11 rfl rfl (by decide) ?_
    refine p_iconst 13 dX12_left_12 ?_
    refine p_callV1i 124 16 dX12_left_13 s_no lk_X12_168 mX12_no rfl rfl (by decide) (Nat.le_of_ble_eq_true rfl) ?_
    rintro _ _ ⟨rfl, rfl⟩
    refine p_iret dX12_left_16 rfl ?_
    exact ⟨_, rfl, MQq.of hid_no hW (by unfold pa_left; (repeat' split) <;> first | rfl | (exfalso; omega)) (by unfold pa_left; (repeat' split) <;> first | rfl | (exfalso; omega))⟩
theorem m_worthOf {l : Launch} {X : ZX} {M : ZM} (hW : zWm M) (hF : WF M) {v : Int} (hv1 : -2147483648 ≤ v) (hv2 : v < 2147483648) : zCi l X 12 yX12_worthOf tX12_worthOf [zr 124, zi v] M (MQq M (pa_worthOf (M 124 14) (M 127) v)) := by
  have hWg : zWm (zset (zset M 124 0 0) 124 11 0) := (hW.set (by decide +kernel)).set (by decide +kernel)
  have hR := hF.r
  have hT := hF.t
  have hh := hF.h
  have e0 : M 127 0 = (q_n (M 127) 0 : Int) := hR.n (by decide)
  have e2 : M 127 2 = (q_n (M 127) 2 : Int) := hR.n (by decide)
  have e3 : M 127 3 = (q_n (M 127) 3 : Int) := hR.n (by decide)
  have e4 : M 127 4 = (q_n (M 127) 4 : Int) := hR.n (by decide)
  have bR := hR.2.1
  have h20 : M 124 14 = 0 → M 127 2 = 0 := fun h => hF.r0 h 2 (by decide)
  have h30 : M 124 14 = 0 → M 127 3 = 0 := fun h => hF.r0 h 3 (by decide)
  have h40 : M 124 14 = 0 → M 127 4 = 0 := fun h => hF.r0 h 4 (by decide)
  have b2 := bR.2.2.1
  have b3 := bR.2.2.2.1
  refine zC.of [some (zr 124), some (zi v)] (by decide +kernel) rfl rfl (Nat.le_of_ble_eq_true rfl) rfl ?_
  refine p_aload_n 1 dX12_worthOf_0 rfl rfl (by decide) ?_
  refine p_callV0v 124 4 dX12_worthOf_1 s_good lk_X12_165 mX12_good rfl rfl (by decide) (Nat.le_of_ble_eq_true rfl) ?_
  rintro _ rfl
  refine p_aload_n 5 dX12_worthOf_4 rfl rfl (by decide) ?_
  refine p_iload_n 6 dX12_worthOf_5 rfl rfl ?_
  refine p_callV1i 124 9 dX12_worthOf_6 (s_isAwake (ρ := M 127) hWg (fun _ _ => rfl) hR (by exact hh) (by omega) (by omega)) lk_X12_281 mX12_isAwake rfl rfl (by decide) (Nat.le_of_ble_eq_true rfl) ?_
  rintro _ _ ⟨rfl, e9⟩
  have e9 := e9.symm
  subst e9
  refine p_if_eq 28 12 dX12_worthOf_9 (by split <;> omega) (by split <;> omega) (fun h9 => ?_) (fun h9 => ?_)
  · have h9f : ¬ (M 124 14 = 1 ∧ 0 ≤ v ∧ v < M 127 3) := if_eq0 h9
    refine p_aload_n 29 dX12_worthOf_28 rfl rfl (by decide) ?_
    refine p_iconst 30 dX12_worthOf_29 ?_
    refine p_callV1i 124 33 dX12_worthOf_30 s_no lk_X12_168 mX12_no rfl rfl (by decide) (Nat.le_of_ble_eq_true rfl) ?_
    rintro _ _ ⟨rfl, rfl⟩
    refine p_iret dX12_worthOf_33 rfl ?_
    exact ⟨_, rfl, MQq.of hid_no hW (by unfold pa_worthOf; (repeat' split) <;> first | rfl | (exfalso; omega)) (by unfold pa_worthOf; (repeat' split) <;> first | rfl | (exfalso; omega))⟩
  · have h9t : M 124 14 = 1 ∧ 0 ≤ v ∧ v < M 127 3 := if_neq0 h9
    refine p_aload_n 13 dX12_worthOf_12 rfl rfl (by decide) ?_
    refine p_iconst 14 dX12_worthOf_13 ?_
    refine p_iconst 15 dX12_worthOf_14 ?_
    refine p_callV2i 124 18 dX12_worthOf_15 (s_seekTending (ρ := M 127) hR hWg (fun _ _ => rfl) (wo := -1) (mo := -1) (by decide) (by decide) (by decide) (by decide)) lk_X12_306 mX12_seekTending rfl rfl (by decide) (Nat.le_of_ble_eq_true rfl) ?_
    rintro a9 M9 ⟨rfl, hh9, k11, k133⟩
    have hW9 : zWm M9 := hh9.wm hWg
    have hE9 : ∀ i, i < 421 → M9 127 i = M 127 i := fun i _ => hh9.2 127 i (by simp [q_hid]) (by omega) (by omega)
    have hU9 : ∀ i, i < 18 → M9 129 i = M 129 i := fun i _ => hh9.2 129 i (by simp [q_hid]) (by omega) (by omega)
    have hg9 := hid_good.trans hh9
    have k11 : M9 124 11 = 0 := k11
    rw [q_bt_congr (q_n (M 127) 2) q_hw_all]
    refine p_aload_n 19 dX12_worthOf_18 rfl rfl (by decide) ?_
    refine p_iload_n 20 dX12_worthOf_19 rfl rfl ?_
    refine p_iconst 21 dX12_worthOf_20 ?_
    refine p_callV2i 124 24 dX12_worthOf_21 (s_seekTending (ρ := M 127) hR hW9 hE9 (wo := v) (mo := -1) (by omega) (by omega) (by decide) (by decide)) lk_X12_306 mX12_seekTending rfl rfl (by decide) (Nat.le_of_ble_eq_true rfl) ?_
    rintro a8 M8 ⟨rfl, hh8, k118, -⟩
    have hg8 := hg9.trans hh8
    refine p_isub 25 dX12_worthOf_24 ?_
    refine p_goto 33 dX12_worthOf_25 ?_
    refine p_iret dX12_worthOf_33 rfl ?_
    refine ⟨_, rfl, MQq.of hg8 hW ?_ ?_⟩ <;> unfold pa_worthOf <;> rw [if_neg (by omega)]
    exact k118.trans k11
theorem l_bestHandM {l : Launch} {X : ZX} {M : ZM} {ρ : Nat → Int} {N : ZM} (hW : zWm N) (hE : ∀ i, i < 421 → N 127 i = ρ i) (hR : wfR ρ) (h11 : N 124 11 = 0) : ∀ (j i : Nat), i + j = q_n ρ 3 → ∀ (o4 : Option ZV) {M : ZM}, Hid N M → M 124 11 = 0 → zP l X 12 tX12_bestHand 29 [some (zr 124), some (zi ((q_bh ρ i).1 : Int)), some (zi (q_bh ρ i).2), some (zi (i : Int)), o4] [] M (fun r M' => ∃ a, r = some (zi a) ∧ a = (q_bh ρ (q_n ρ 3)).2 ∧ Hid N M' ∧ M' 124 11 = 0) := by
  have e2 : ρ 2 = (q_n ρ 2 : Int) := hR.n (by decide)
  have b2 := hR.2.1.2.2.1
  have e3 : ρ 3 = (q_n ρ 3 : Int) := hR.n (by decide)
  have b3 := hR.2.1.2.2.2.1
  intro j
  induction j with
  | zero =>
    intro i hi o4 M hH h0
    have hW9 : zWm M := hH.wm hW
    have hE9 : ∀ i, i < 421 → M 127 i = ρ i := fun i hi => (hH.2 127 i (by simp [q_hid]) (by omega) (by omega)).trans (hE i hi)
    refine p_iload_n 30 dX12_bestHand_29 rfl rfl ?_
    refine p_aload_n 31 dX12_bestHand_30 rfl rfl (by decide) ?_
    refine p_getR 124 34 dX12_bestHand_31 fX12_20 rfl (hW9 (124, 15, 127) (by decide)) ?_
    refine p_iconst 35 dX12_bestHand_34 ?_
    refine p_ialdn 127 36 (3) dX12_bestHand_35 rfl (by omega) (by omega) ?_
    rw [hE9 3 (by decide)]
    refine p_icmp_ge 67 39 dX12_bestHand_36 (by omega) (by omega) (by omega) (by omega) (fun h36 => ?_) (fun h36 => absurd (by omega) (fun h9 : False => h9))
    refine p_iload_n 68 dX12_bestHand_67 rfl rfl ?_
    refine p_iret dX12_bestHand_68 rfl ?_
    rw [Nat.add_zero] at hi
    subst hi
    exact ⟨_, rfl, rfl, hH, h0⟩
  | succ j ih =>
    intro i hi o4 M hH h0
    have hW9 : zWm M := hH.wm hW
    have hE9 : ∀ i, i < 421 → M 127 i = ρ i := fun i hi => (hH.2 127 i (by simp [q_hid]) (by omega) (by omega)).trans (hE i hi)
    have hb := q_bh_le hR i
    have hq := q_bt_le hR (q_n ρ 2) (q_hw (q_n ρ) (-1) (i : Int))
    have er : q_bh ρ (i + 1) = if (q_bh ρ i).1 < q_bt (q_n ρ) (q_n ρ 2) (q_hw (q_n ρ) (-1) (i : Int)) then (q_bt (q_n ρ) (q_n ρ 2) (q_hw (q_n ρ) (-1) (i : Int)), (i : Int)) else q_bh ρ i := rfl
    refine p_iload_n 30 dX12_bestHand_29 rfl rfl ?_
    refine p_aload_n 31 dX12_bestHand_30 rfl rfl (by decide) ?_
    refine p_getR 124 34 dX12_bestHand_31 fX12_20 rfl (hW9 (124, 15, 127) (by decide)) ?_
    refine p_iconst 35 dX12_bestHand_34 ?_
    refine p_ialdn 127 36 (3) dX12_bestHand_35 rfl (by omega) (by omega) ?_
    rw [hE9 3 (by decide)]
    refine p_icmp_ge 67 39 dX12_bestHand_36 (by omega) (by omega) (by omega) (by omega) (fun h36 => absurd (by omega) (fun h9 : False => h9)) (fun h36 => ?_)
    refine p_aload_n 40 dX12_bestHand_39 rfl rfl (by decide) ?_
    refine p_iconst 41 dX12_bestHand_40 ?_
    refine p_iload_n 42 dX12_bestHand_41 rfl rfl ?_
    refine p_callV2i 124 45 dX12_bestHand_42 (s_seekTending (ρ := ρ) hR hW9 hE9 (wo := -1) (mo := (i : Int)) (by decide) (by decide) (by omega) (by omega)) lk_X12_306 mX12_seekTending rfl rfl (by omega) (Nat.le_of_ble_eq_true rfl) ?_
    rintro a8 M8 ⟨rfl, hh8, k118, -⟩
    refine p_istore 47 dX12_bestHand_45 (Nat.le_of_ble_eq_true rfl) rfl rfl ?_
    dsimp only [List.set]
    refine p_iload 49 dX12_bestHand_47 rfl ?_
    refine p_iload_n 50 dX12_bestHand_49 rfl rfl ?_
    refine p_icmp_gt 56 53 dX12_bestHand_50 (by omega) (by omega) (by omega) (by omega) (fun h50 => ?_) (fun h50 => ?_)
    · refine p_iload_n 57 dX12_bestHand_56 rfl rfl ?_
      refine p_istore_n 58 dX12_bestHand_57 rfl (Nat.le_of_ble_eq_true rfl) rfl rfl ?_
      dsimp only [List.set]
      refine p_iload 60 dX12_bestHand_58 rfl ?_
      refine p_istore_n 61 dX12_bestHand_60 rfl (Nat.le_of_ble_eq_true rfl) rfl rfl ?_
      dsimp only [List.set]
      refine p_iinc 64 dX12_bestHand_61 rfl rfl rfl ?_
      dsimp only [List.set]
      refine p_goto 29 dX12_bestHand_64 ?_
      have e := ih (i + 1) (by omega) (some (zi (q_bt (q_n ρ) (q_n ρ 2) (q_hw (q_n ρ) (-1) (i : Int)) : Int))) (hH.trans hh8) (k118.trans h0)
      first
        | (rw [er, if_pos (by omega)] at e; exact e)
        | (rw [er, if_neg (by omega)] at e; exact e)
    · refine p_goto 61 dX12_bestHand_53 ?_
      refine p_iinc 64 dX12_bestHand_61 rfl rfl rfl ?_
      dsimp only [List.set]
      refine p_goto 29 dX12_bestHand_64 ?_
      have e := ih (i + 1) (by omega) (some (zi (q_bt (q_n ρ) (q_n ρ 2) (q_hw (q_n ρ) (-1) (i : Int)) : Int))) (hH.trans hh8) (k118.trans h0)
      first
        | (rw [er, if_pos (by omega)] at e; exact e)
        | (rw [er, if_neg (by omega)] at e; exact e)
theorem m_bestHand {l : Launch} {X : ZX} {M : ZM} (hW : zWm M) (hF : WF M)  : zCi l X 12 yX12_bestHand tX12_bestHand [zr 124] M (MQq M (pa_bestHand (M 124 14) (M 127))) := by
  have hWg : zWm (zset (zset M 124 0 0) 124 11 0) := (hW.set (by decide +kernel)).set (by decide +kernel)
  have hR := hF.r
  have hT := hF.t
  have hh := hF.h
  have e0 : M 127 0 = (q_n (M 127) 0 : Int) := hR.n (by decide)
  have e2 : M 127 2 = (q_n (M 127) 2 : Int) := hR.n (by decide)
  have e3 : M 127 3 = (q_n (M 127) 3 : Int) := hR.n (by decide)
  have e4 : M 127 4 = (q_n (M 127) 4 : Int) := hR.n (by decide)
  have bR := hR.2.1
  have h20 : M 124 14 = 0 → M 127 2 = 0 := fun h => hF.r0 h 2 (by decide)
  have h30 : M 124 14 = 0 → M 127 3 = 0 := fun h => hF.r0 h 3 (by decide)
  have h40 : M 124 14 = 0 → M 127 4 = 0 := fun h => hF.r0 h 4 (by decide)
  have b2 := bR.2.2.1
  have b3 := bR.2.2.2.1
  refine zC.of [some (zr 124), none, none, none, none] (by decide +kernel) rfl rfl (Nat.le_of_ble_eq_true rfl) rfl ?_
  refine p_aload_n 1 dX12_bestHand_0 rfl rfl (by decide) ?_
  refine p_callV0v 124 4 dX12_bestHand_1 s_good lk_X12_165 mX12_good rfl rfl (by decide) (Nat.le_of_ble_eq_true rfl) ?_
  rintro _ rfl
  refine p_aload_n 5 dX12_bestHand_4 rfl rfl (by decide) ?_
  refine p_getI 124 8 dX12_bestHand_5 fX12_178 rfl ?_
  refine p_if_ne 17 11 dX12_bestHand_8 (by show _ ≤ M 124 14; omega) (by show M 124 14 < _; omega) (fun h8 => ?_) (fun h8 => ?_)
  · have h8 : ¬ M 124 14 = 0 := h8
    have h1 : M 124 14 = 1 := by omega
    refine p_aload_n 18 dX12_bestHand_17 rfl rfl (by decide) ?_
    refine p_iconst 19 dX12_bestHand_18 ?_
    refine p_iconst 20 dX12_bestHand_19 ?_
    refine p_callV2i 124 23 dX12_bestHand_20 (s_seekTending (ρ := M 127) hR hWg (fun _ _ => rfl) (wo := -1) (mo := -1) (by decide) (by decide) (by decide) (by decide)) lk_X12_306 mX12_seekTending rfl rfl (by decide) (Nat.le_of_ble_eq_true rfl) ?_
    rintro a9 M9 ⟨rfl, hh9, k11, k133⟩
    have hW9 : zWm M9 := hh9.wm hWg
    have hE9 : ∀ i, i < 421 → M9 127 i = M 127 i := fun i _ => hh9.2 127 i (by simp [q_hid]) (by omega) (by omega)
    have hU9 : ∀ i, i < 18 → M9 129 i = M 129 i := fun i _ => hh9.2 129 i (by simp [q_hid]) (by omega) (by omega)
    have hg9 := hid_good.trans hh9
    have k11 : M9 124 11 = 0 := k11
    rw [q_bt_congr (q_n (M 127) 2) q_hw_all]
    refine p_istore_n 24 dX12_bestHand_23 rfl (Nat.le_of_ble_eq_true rfl) rfl rfl ?_
    dsimp only [List.set]
    refine p_bipush 26 dX12_bestHand_24 rfl ?_
    refine p_istore_n 27 dX12_bestHand_26 rfl (Nat.le_of_ble_eq_true rfl) rfl rfl ?_
    dsimp only [List.set]
    refine p_iconst 28 dX12_bestHand_27 ?_
    refine p_istore_n 29 dX12_bestHand_28 rfl (Nat.le_of_ble_eq_true rfl) rfl rfl ?_
    dsimp only [List.set]
    refine (l_bestHandM (M := M) (ρ := M 127) hW9 hE9 hR k11 (q_n (M 127) 3) 0 (Nat.zero_add _) none Hid.rfl k11).mono (fun r M8 h8 => ?_)
    obtain ⟨a9, ea, eb, ec, ed⟩ := h8
    exact ⟨a9, ea, MQq.of (hg9.trans ec) hW (eb.trans (by unfold pa_bestHand; rw [if_neg (by omega)])) (by unfold pa_bestHand; rw [if_neg (by omega)]; exact ed)⟩
  · have h8 : ¬ M 124 14 ≠ 0 := h8
    refine p_aload_n 12 dX12_bestHand_11 rfl rfl (by decide) ?_
    refine p_iconst 13 dX12_bestHand_12 ?_
    refine p_callV1i 124 16 dX12_bestHand_13 s_no lk_X12_168 mX12_no rfl rfl (by decide) (Nat.le_of_ble_eq_true rfl) ?_
    rintro _ _ ⟨rfl, rfl⟩
    refine p_iret dX12_bestHand_16 rfl ?_
    exact ⟨_, rfl, MQq.of hid_no hW (by unfold pa_bestHand; (repeat' split) <;> first | rfl | (exfalso; omega)) (by unfold pa_bestHand; (repeat' split) <;> first | rfl | (exfalso; omega))⟩
