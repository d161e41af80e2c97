/-! WINTERS -/
def q_draw (v : Nat) : Nat → Nat
  | 0 => v
  | k + 1 => (75 * q_draw v k + 74) % 65537
def q_days (ρ : Nat → Int) (v k : Nat) : Nat := q_cntp (fun i => decide (q_draw v (i + 1) % 100 < q_n ρ 1)) k
def q_hdy (ρ τ : Nat → Int) (v k : Nat) : Nat := if 0 < τ 16 then 0 else q_days ρ v k
def q_tst (ρ : Nat → Int) : Nat := q_set (fun s => decide (q_te ρ s ≠ 0)) (q_n ρ 2)
def q_bs (τ : Nat → Int) : Nat := q_sum (fun s => (τ s).toNat) 7
def q_eh (ρ : Nat → Int) : Nat := q_harms (q_n ρ) (q_tst ρ)
def q_abv (ρ τ : Nat → Int) (v : Nat) (m : Int) : Nat → Int
  | 0 => 0
  | k + 1 => if q_abv ρ τ v m k = 0 ∧ m < ((q_bs τ + q_hdy ρ τ v (k + 1) * q_eh ρ : Nat) : Int) then (k : Int) + 1 else q_abv ρ τ v m k
theorem q_draw_le {v : Nat} (hv : v ≤ 65536) : ∀ k, q_draw v k ≤ 65536 := by
  intro k
  cases k with
  | zero => exact hv
  | succ k =>
    have : (75 * q_draw v k + 74) % 65537 < 65537 := Nat.mod_lt _ (by decide)
    show (75 * q_draw v k + 74) % 65537 ≤ 65536
    omega
theorem q_days_step (ρ : Nat → Int) (v k : Nat) : q_days ρ v (k + 1) = q_days ρ v k + (if q_draw v (k + 1) % 100 < q_n ρ 1 then 1 else 0) := by
  show q_cntp _ k + (if decide (q_draw v (k + 1) % 100 < q_n ρ 1) = true then 1 else 0) = _
  by_cases h : q_draw v (k + 1) % 100 < q_n ρ 1
  · rw [if_pos (decide_eq_true h), if_pos h]
    rfl
  · rw [if_neg (by rw [decide_eq_false h]; decide), if_neg h]
    rfl
theorem q_hdy_snow {ρ τ : Nat → Int} {v k : Nat} (h : q_draw v (k + 1) % 100 < q_n ρ 1) (hw : ¬ 0 < τ 16) : q_hdy ρ τ v (k + 1) = q_hdy ρ τ v k + 1 := by
  unfold q_hdy
  rw [if_neg hw, if_neg hw, q_days_step, if_pos h]
theorem q_hdy_dry {ρ τ : Nat → Int} {v k : Nat} (h : ¬ q_draw v (k + 1) % 100 < q_n ρ 1) : q_hdy ρ τ v (k + 1) = q_hdy ρ τ v k := by
  unfold q_hdy
  rw [q_days_step, if_neg h]
  rfl
theorem q_hdy_awake {ρ τ : Nat → Int} {v k : Nat} (hw : 0 < τ 16) : q_hdy ρ τ v k = 0 := by
  unfold q_hdy
  rw [if_pos hw]
theorem q_hdy_le (ρ τ : Nat → Int) (v k : Nat) : q_hdy ρ τ v k ≤ k := by
  unfold q_hdy
  split
  · exact Nat.zero_le _
  · exact q_cntp_le _ _
theorem q_eh_le {ρ : Nat → Int} (hR : wfR ρ) : q_eh ρ ≤ 280 := by
  have e2 : ρ 2 = (q_n ρ 2 : Int) := hR.n (by decide)
  have b2 := hR.2.1.2.2.1
  have h := q_sum_le' (q_harm (q_n ρ) (q_tst ρ)) 40 (q_n ρ 2) (fun i hi => q_harm_le hR (s := i) (by omega) (q_tst ρ))
  show q_sum (q_harm (q_n ρ) (q_tst ρ)) (q_n ρ 2) ≤ 280
  omega
theorem q_bs_le {ρ τ : Nat → Int} (hT : wfT ρ τ) : q_bs τ ≤ 279720 := by
  have h := q_sum_le' (fun s => (τ s).toNat) 39960 7 (fun i hi => by
    have h1 := (hT.2.1 i hi).1
    have h2 := hT.2.2.2.1
    show (τ i).toNat ≤ 39960
    omega)
  show q_sum _ 7 ≤ _
  omega
theorem q_tst_lt {ρ : Nat → Int} (hR : wfR ρ) : q_tst ρ < 128 := by
  have e2 : ρ 2 = (q_n ρ 2 : Int) := hR.n (by decide)
  have b2 := hR.2.1.2.2.1
  have h1 := q_set_lt (fun s => decide (q_te ρ s ≠ 0)) (q_n ρ 2)
  have h2 := p7 (n := q_n ρ 2) (by omega)
  unfold q_tst
  omega
theorem q_tst_bit {ρ : Nat → Int} {i : Nat} (hi : i < q_n ρ 2) : (q_tst ρ).testBit i = true ↔ 0 < ((q_te ρ i : Nat) : Int) := by
  unfold q_tst
  rw [q_set_bit, decide_eq_true hi, Bool.true_and, decide_eq_true_eq]
  omega
theorem q_abv_le (ρ τ : Nat → Int) (v : Nat) (m : Int) : ∀ k, 0 ≤ q_abv ρ τ v m k ∧ q_abv ρ τ v m k ≤ (k : Int) := by
  intro k
  induction k with
  | zero => exact ⟨Int.le_refl 0, Int.le_refl 0⟩
  | succ k ih =>
    have e : q_abv ρ τ v m (k + 1) = if q_abv ρ τ v m k = 0 ∧ m < ((q_bs τ + q_hdy ρ τ v (k + 1) * q_eh ρ : Nat) : Int) then (k : Int) + 1 else q_abv ρ τ v m k := rfl
    rw [e]
    split <;> omega
theorem q_abv_stay {ρ τ : Nat → Int} {v : Nat} {m : Int} {k n : Nat} (h : q_abv ρ τ v m k ≠ 0) (hn : k ≤ n) : q_abv ρ τ v m n = q_abv ρ τ v m k := by
  induction n with
  | zero => rw [show k = 0 by omega]
  | succ n ih =>
    by_cases e : k = n + 1
    · rw [e]
    · have hn2 := ih (by omega)
      show (if q_abv ρ τ v m n = 0 ∧ _ then _ else _) = _
      rw [if_neg (fun g => h (hn2 ▸ g.1))]
      exact hn2
theorem z_rem100 {x : Nat} (hx : x < 2147483648) : z_irem (x : Int) 100 = ((x % 100 : Nat) : Int) := z_irem_n x 100 hx (by decide)
def pa_winters (h : Int) (ρ τ : Nat → Int) (v n : Int) : Int × Int := if h = 0 then (-1, 1) else if 0 ≤ v ∧ v ≤ 65536 ∧ 0 ≤ n ∧ n ≤ 90 then (((q_hdy ρ τ v.toNat n.toNat * q_eh ρ : Nat) : Int), 0) else (-1, 2)
def pa_wintersOf (h : Int) (ρ τ : Nat → Int) (s v n : Int) : Int × Int := if h = 0 ∨ s < 0 ∨ ρ 2 ≤ s then (-1, 1) else if 0 ≤ v ∧ v ≤ 65536 ∧ 0 ≤ n ∧ n ≤ 90 then (τ s.toNat + ((q_hdy ρ τ v.toNat n.toNat * q_harm (q_n ρ) (q_tst ρ) s.toNat : Nat) : Int), 0) else (-1, 2)
def pa_above (h : Int) (ρ τ : Nat → Int) (m v n : Int) : Int × Int := if h = 0 then (-1, 1) else if (0 ≤ m ∧ m ≤ 9999) ∧ 0 ≤ v ∧ v ≤ 65536 ∧ 0 ≤ n ∧ n ≤ 90 then (q_abv ρ τ v.toNat m n.toNat, 0) else (-1, 2)
theorem l_harmfulDays {l : Launch} {X : ZX} {M : ZM} {c : Nat} (hc : isC c) {ρ : Nat → Int} {h : Int} (hW : zWc M) (hC : ICc ρ h c M) (hR : wfR ρ) (hco : M 0 5 = (c : Int)) {τ : Nat → Int} (hT : wfT ρ τ) {v n : Nat} (hv : v ≤ 65536) (hn : n ≤ 90) (hw : ¬ 0 < τ 16) : ∀ (j i : Nat), i + j = n → zP l X 1 tX11_harmfulDays 20 [some (zr 0), some (zi (v : Int)), some (zi (n : Int)), some (zi (q_hdy ρ τ v i : Int)), some (zi (q_draw v i : Int)), some (zi (i : Int))] [] M (fun r M' => ∃ a, r = some (zi a) ∧ (a = (q_hdy ρ τ v n : Int) ∧ M' = M)) := by
  have e1 : ρ 1 = (q_n ρ 1 : Int) := hR.n (by decide)
  have b1 := hR.2.1.2.1
  have hcl := hc.lt
  intro j
  induction j with
  | zero =>
    intro i hi
    refine p_iload 22 dX11_harmfulDays_20 rfl ?_
    refine p_iload_n 23 dX11_harmfulDays_22 rfl rfl ?_
    refine p_icmp_ge 57 26 dX11_harmfulDays_23 (by omega) (by omega) (by omega) (by omega) (fun h23 => ?_) (fun h23 => absurd (by omega) (fun h9 : False => h9))
    refine p_iload_n 58 dX11_harmfulDays_57 rfl rfl ?_
    refine p_iret dX11_harmfulDays_58 rfl ?_
    rw [Nat.add_zero] at hi
    subst hi
    exact ⟨_, rfl, rfl, rfl⟩
  | succ j ih =>
    intro i hi
    have hd0 := q_draw_le hv i
    have hd1 := q_draw_le hv (i + 1)
    have hm : q_draw v (i + 1) % 100 < 100 := Nat.mod_lt _ (by decide)
    refine p_iload 22 dX11_harmfulDays_20 rfl ?_
    refine p_iload_n 23 dX11_harmfulDays_22 rfl rfl ?_
    refine p_icmp_ge 57 26 dX11_harmfulDays_23 (by omega) (by omega) (by omega) (by omega) (fun h23 => absurd (by omega) (fun h9 : False => h9)) (fun h23 => ?_)
    refine p_iload 28 dX11_harmfulDays_26 rfl ?_
    refine p_callS1i 31 dX11_harmfulDays_28 (s_drawAfter (v := q_draw v i) (by omega)) lk_X11_323 mX11_drawAfter (by decide) (Nat.le_of_ble_eq_true rfl) ?_
    rintro _ _ ⟨rfl, e9⟩
    have e9 := e9.symm
    subst e9
    rw [show (75 * q_draw v i + 74) % 65537 = q_draw v (i + 1) from rfl]
    refine p_istore 33 dX11_harmfulDays_31 (Nat.le_of_ble_eq_true rfl) rfl rfl ?_
    dsimp only [List.set]
    refine p_iload 35 dX11_harmfulDays_33 rfl ?_
    refine p_bipush 37 dX11_harmfulDays_35 rfl ?_
    refine p_irem 38 dX11_harmfulDays_37 (by decide) ?_
    rw [z_rem100 (by omega)]
    refine p_aload_n 39 dX11_harmfulDays_38 rfl rfl (by decide) ?_
    refine p_getR 0 42 dX11_harmfulDays_39 fX11_16 rfl hco ?_
    refine p_getI (c) 45 dX11_harmfulDays_42 fX11_326 hc.tt2.1 ?_
    rw [hC.1.2.2.1]
    refine p_icmp_ge 51 48 dX11_harmfulDays_45 (by omega) (by omega) (by omega) (by omega) (fun h45 => ?_) (fun h45 => ?_)
    · refine p_iinc 54 dX11_harmfulDays_51 rfl rfl rfl ?_
      dsimp only [List.set]
      refine p_goto 20 dX11_harmfulDays_54 ?_
      have e := ih (i + 1) (by omega)
      first
        | (rw [q_hdy_dry (show ¬ q_draw v (i + 1) % 100 < q_n ρ 1 by omega)] at e; exact e)
        | (rw [q_hdy_snow (show q_draw v (i + 1) % 100 < q_n ρ 1 by omega) hw] at e; exact e)
    · refine p_iinc 51 dX11_harmfulDays_48 rfl rfl rfl ?_
      dsimp only [List.set]
      refine p_iinc 54 dX11_harmfulDays_51 rfl rfl rfl ?_
      dsimp only [List.set]
      refine p_goto 20 dX11_harmfulDays_54 ?_
      have e := ih (i + 1) (by omega)
      first
        | (rw [q_hdy_dry (show ¬ q_draw v (i + 1) % 100 < q_n ρ 1 by omega)] at e; exact e)
        | (rw [q_hdy_snow (show q_draw v (i + 1) % 100 < q_n ρ 1 by omega) hw] at e; exact e)
theorem s_harmfulDays {l : Launch} {X : ZX} {M : ZM} {c : Nat} (hc : isC c) {ρ : Nat → Int} {h : Int} (hW : zWc M) (hC : ICc ρ h c M) (hR : wfR ρ) (hco : M 0 5 = (c : Int)) {τ : Nat → Int} (hT : wfT ρ τ) (hN : M 49 3 = τ 16) {v n : Nat} (hv : v ≤ 65536) (hn : n ≤ 90) : zCi l X 1 yX11_harmfulDays tX11_harmfulDays [zr 0, zi (v : Int), zi (n : Int)] M (fun a M' => a = (q_hdy ρ τ v n : Int) ∧ M' = M) := by
  have e1 : ρ 1 = (q_n ρ 1 : Int) := hR.n (by decide)
  have b1 := hR.2.1.2.1
  have hcl := hc.lt
  have t160 := hT.1 16 (by decide)
  have t161 := hT.2.2.2.2.1
  refine zC.of [some (zr 0), some (zi (v : Int)), some (zi (n : Int)), none, none, none] (by decide +kernel) rfl rfl (Nat.le_of_ble_eq_true rfl) rfl ?_
  refine p_aload_n 1 dX11_harmfulDays_0 rfl rfl (by decide) ?_
  refine p_getR 0 4 dX11_harmfulDays_1 fX11_33 rfl (hW (0, 8, 49) (by decide)) ?_
  refine p_getI 49 7 dX11_harmfulDays_4 fX11_170 rfl ?_
  rw [hN]
  refine p_if_eq 12 10 dX11_harmfulDays_7 (by omega) (by omega) (fun h7 => ?_) (fun h7 => ?_)
  · refine p_iconst 13 dX11_harmfulDays_12 ?_
    refine p_istore_n 14 dX11_harmfulDays_13 rfl (Nat.le_of_ble_eq_true rfl) rfl rfl ?_
    dsimp only [List.set]
    refine p_iload_n 15 dX11_harmfulDays_14 rfl rfl ?_
    refine p_istore 17 dX11_harmfulDays_15 (Nat.le_of_ble_eq_true rfl) rfl rfl ?_
    dsimp only [List.set]
    refine p_iconst 18 dX11_harmfulDays_17 ?_
    refine p_istore 20 dX11_harmfulDays_18 (Nat.le_of_ble_eq_true rfl) rfl rfl ?_
    dsimp only [List.set]
    have e := l_harmfulDays (l := l) (X := X) hc hW hC hR hco hT hv hn (by omega) n 0 (Nat.zero_add _)
    rw [show q_hdy ρ τ v 0 = 0 by have := q_hdy_le ρ τ v 0; omega] at e
    exact e
  · refine p_iconst 11 dX11_harmfulDays_10 ?_
    refine p_iret dX11_harmfulDays_11 rfl ?_
    refine ⟨_, rfl, ?_, rfl⟩
    rw [q_hdy_awake (by omega)]
    rfl
theorem c_winters {l : Launch} {X : ZX} {M : ZM} (hI : IC M M) (hF : WF M) {v : Int} (hv1 : -2147483648 ≤ v) (hv2 : v < 2147483648) {n : Int} (hn1 : -2147483648 ≤ n) (hn2 : n < 2147483648) : zCi l X 6 yX11_winters tX11_winters [zr 0, zi v, zi n] M (CQ M (pa_winters (M 124 14) (M 127) (M 129) v n)) := by
  obtain ⟨hW, ⟨c, c', hcc, hco, hsp, hC⟩, ⟨j1, j2, j3, j4, j5⟩, hN, hpast, hten, ⟨hz0, hsea⟩, hfit⟩ := id hI
  have hR := hF.r
  have hT := hF.t
  have hh := hF.h
  have e0 : M 127 0 = (q_n (M 127) 0 : Int) := hR.n (by decide)
  have e2 : M 127 2 = (q_n (M 127) 2 : Int) := hR.n (by decide)
  have e3 : M 127 3 = (q_n (M 127) 3 : Int) := hR.n (by decide)
  have e4 : M 127 4 = (q_n (M 127) 4 : Int) := hR.n (by decide)
  have bR := hR.2.1
  have h20 : M 124 14 = 0 → M 127 2 = 0 := fun h => hF.r0 h 2 (by decide)
  have h30 : M 124 14 = 0 → M 127 3 = 0 := fun h => hF.r0 h 3 (by decide)
  have h40 : M 124 14 = 0 → M 127 4 = 0 := fun h => hF.r0 h 4 (by decide)
  have hwo : M 49 3 = M 129 16 := hN.2.2.2.1
  have t160 := hT.1 16 (by decide)
  have t161 := hT.2.2.2.2.1
  refine zC.of [some (zr 0), some (zi v), some (zi n)] (by decide +kernel) rfl rfl (Nat.le_of_ble_eq_true rfl) rfl ?_
  rcases hcc with ⟨rfl, rfl⟩ | ⟨rfl, rfl⟩
  · have hto : M 2 0 = M 124 14 := hC.1.1
    have hla : M 2 1 = M 127 0 := hC.1.2.1
    have hsn : M 2 2 = M 127 1 := hC.1.2.2.1
    have hcs : M 3 0 = M 127 2 := hC.1.2.2.2.1
    have hca : M 8 0 = M 127 3 := hC.1.2.2.2.2.1
    have hcw : M 13 0 = M 127 4 := hC.1.2.2.2.2.2.1
    have hcb : M 13 1 = M 127 5 := hC.1.2.2.2.2.2.2.1
    have hcor : M 19 0 = M 127 6 := hC.1.2.2.2.2.2.2.2.1
    have hcn : M 19 4 = M 127 7 := hC.1.2.2.2.2.2.2.2.2
    have b2 := bR.2.2.1
    have b3 := bR.2.2.2.1
    have hTl := q_T_le hR (n := q_n (M 127) 3) (by omega)
    change q_T (M 127) ≤ 365 at hTl
    have hAl := q_all_le_T (M 127)
    have htl := q_tst_lt hR
    have hel := q_eh_le hR
    refine p_aload_n 1 dX11_winters_0 rfl rfl (by decide) ?_
    refine p_getR 0 4 dX11_winters_1 fX11_16 rfl hco ?_
    refine p_getI 2 7 dX11_winters_4 fX11_114 rfl ?_
    rw [hto]
    refine p_if_ne 16 10 dX11_winters_7 (by omega) (by omega) (fun h7 => ?_) (fun h7 => ?_)
    · have h1 : M 124 14 = 1 := by omega
      have hR1 := hF.r1 h1
      refine p_iload_n 17 dX11_winters_16 rfl rfl ?_
      refine p_iload_n 18 dX11_winters_17 rfl rfl ?_
      refine p_callS2i 21 dX11_winters_18 (s_isWinter (by omega) (by omega) (by omega) (by omega)) lk_X11_316 mX11_isWinter (by decide) (Nat.le_of_ble_eq_true rfl) ?_
      rintro _ _ ⟨rfl, e9⟩
      have e9 := e9.symm
      subst e9
      refine p_if_ne 30 24 dX11_winters_21 (by split <;> omega) (by split <;> omega) (fun h21 => ?_) (fun h21 => ?_)
      · have h21 := if_ne0 h21
        obtain ⟨vn, rfl⟩ : ∃ k : Nat, v = (k : Int) := ⟨v.toNat, by omega⟩
        obtain ⟨nn, rfl⟩ : ∃ k : Nat, n = (k : Int) := ⟨n.toNat, by omega⟩
        have hhl := q_hdy_le (M 127) (M 129) vn nn
        refine p_aload_n 31 dX11_winters_30 rfl rfl (by decide) ?_
        refine p_getR 0 34 dX11_winters_31 fX11_47 rfl (hW (0, 10, 112) (by decide)) ?_
        refine p_aload_n 35 dX11_winters_34 rfl rfl (by decide) ?_
        refine p_getR 0 38 dX11_winters_35 fX11_16 rfl hco ?_
        refine p_callV1v 112 41 dX11_winters_38 (s_learnT (Or.inl rfl : isC 2) hW hC hR hten) lk_X11_187 mX9_learn rfl rfl (by decide) (Nat.le_of_ble_eq_true rfl) ?_
        intro M9 h9
        obtain ⟨g1, g2, g3, g4⟩ := h9
        have hI9 : IC M M9 := hI.learnT hF g1 g2 g3 g4
        have hk9 : ∀ k, 124 ≤ k → M9 k = M k := fun k hk => g1 k (by omega)
        have hW := hI9.1
        have hC : ICc (M 127) (M 124 14) 2 M9 := hC.congr (fun a _ _ => g1 a (by omega))
        have hcs : M9 3 0 = M 127 2 := hC.1.2.2.2.1
        have hca : M9 8 0 = M 127 3 := hC.1.2.2.2.2.1
        have hsn : M9 2 2 = M 127 1 := hC.1.2.2.1
        have hco : M9 0 5 = 2 := (congrFun (g1 0 (by omega)) 5).trans hco
        have hN : ICn (M 129) (M 124 14) 49 M9 := hN.congr (g1 _ (by omega)) (g1 _ (by omega)) (g1 _ (by omega))
        have hwo : M9 49 3 = M 129 16 := hN.2.2.2.1
        refine p_aload_n 42 dX11_winters_41 rfl rfl (by decide) ?_
        refine p_aload_n 43 dX11_winters_42 rfl rfl (by decide) ?_
        refine p_iload_n 44 dX11_winters_43 rfl rfl ?_
        refine p_iload_n 45 dX11_winters_44 rfl rfl ?_
        refine p_callV2i 0 48 dX11_winters_45 (s_harmfulDays (Or.inl rfl : isC 2) hW hC hR hco hT hwo (v := vn) (n := nn) (by omega) (by omega)) lk_X11_320 mX11_harmfulDays rfl rfl (by decide) (Nat.le_of_ble_eq_true rfl) ?_
        rintro _ _ ⟨rfl, e9⟩
        have e9 := e9.symm
        subst e9
        refine p_aload_n 49 dX11_winters_48 rfl rfl (by decide) ?_
        refine p_getR 0 52 dX11_winters_49 fX11_16 rfl hco ?_
        refine p_aload_n 53 dX11_winters_52 rfl rfl (by decide) ?_
        refine p_getR 0 56 dX11_winters_53 fX11_47 rfl (hW (0, 10, 112) (by decide)) ?_
        refine p_getI 112 59 dX11_winters_56 fX11_201 rfl ?_
        rw [show M9 112 2 = (q_tst (M 127) : Int) from g4.2.1]
        refine p_callV1i 2 62 dX11_winters_59 (s_dayHarmOfAll_2 hW hC hR (S := q_tst (M 127)) (by omega)) lk_X11_181 mX0_dayHarmOfAll rfl rfl (by decide) (Nat.le_of_ble_eq_true rfl) ?_
        rintro _ _ ⟨rfl, e9⟩
        have e9 := e9.symm
        subst e9
        refine p_imul 63 dX11_winters_62 ?_
        refine p_callV1i 0 66 dX11_winters_63 s_grant lk_X11_108 mX11_grant rfl rfl (by decide) (Nat.le_of_ble_eq_true rfl) ?_
        rintro _ _ ⟨rfl, rfl⟩
        refine p_iret dX11_winters_66 rfl ?_
        exact ⟨_, rfl, CQ.of hI9 hF hk9 (by unfold pa_winters; rw [if_neg (by omega), if_pos (by omega), Int.toNat_natCast, Int.toNat_natCast]; rfl) (by unfold pa_winters; rw [if_neg (by omega), if_pos (by omega)]) (by decide)⟩
      · have h21 := if_nne0 h21
        refine p_aload_n 25 dX11_winters_24 rfl rfl (by decide) ?_
        refine p_iconst 26 dX11_winters_25 ?_
        refine p_callV1i 0 29 dX11_winters_26 s_refuse lk_X11_73 mX11_refuse rfl rfl (by decide) (Nat.le_of_ble_eq_true rfl) ?_
        rintro _ _ ⟨rfl, rfl⟩
        refine p_iret dX11_winters_29 rfl ?_
        exact ⟨_, rfl, CQ.of hI hF (fun k _ => rfl) (by unfold pa_winters; (repeat' split) <;> first | rfl | (exfalso; omega)) (by unfold pa_winters; (repeat' split) <;> first | rfl | (exfalso; omega)) (by decide)⟩
    · refine p_aload_n 11 dX11_winters_10 rfl rfl (by decide) ?_
      refine p_iconst 12 dX11_winters_11 ?_
      refine p_callV1i 0 15 dX11_winters_12 s_refuse lk_X11_73 mX11_refuse rfl rfl (by decide) (Nat.le_of_ble_eq_true rfl) ?_
      rintro _ _ ⟨rfl, rfl⟩
      refine p_iret dX11_winters_15 rfl ?_
      exact ⟨_, rfl, CQ.of hI hF (fun k _ => rfl) (by unfold pa_winters; (repeat' split) <;> first | rfl | (exfalso; omega)) (by unfold pa_winters; (repeat' split) <;> first | rfl | (exfalso; omega)) (by decide)⟩
  · have hto : M 25 0 = M 124 14 := hC.1.1
    have hla : M 25 1 = M 127 0 := hC.1.2.1
    have hsn : M 25 2 = M 127 1 := hC.1.2.2.1
    have hcs : M 26 0 = M 127 2 := hC.1.2.2.2.1
    have hca : M 31 0 = M 127 3 := hC.1.2.2.2.2.1
    have hcw : M 36 0 = M 127 4 := hC.1.2.2.2.2.2.1
    have hcb : M 36 1 = M 127 5 := hC.1.2.2.2.2.2.2.1
    have hcor : M 42 0 = M 127 6 := hC.1.2.2.2.2.2.2.2.1
    have hcn : M 42 4 = M 127 7 := hC.1.2.2.2.2.2.2.2.2
    have b2 := bR.2.2.1
    have b3 := bR.2.2.2.1
    have hTl := q_T_le hR (n := q_n (M 127) 3) (by omega)
    change q_T (M 127) ≤ 365 at hTl
    have hAl := q_all_le_T (M 127)
    have htl := q_tst_lt hR
    have hel := q_eh_le hR
    refine p_aload_n 1 dX11_winters_0 rfl rfl (by decide) ?_
    refine p_getR 0 4 dX11_winters_1 fX11_16 rfl hco ?_
    refine p_getI 25 7 dX11_winters_4 fX11_114 rfl ?_
    rw [hto]
    refine p_if_ne 16 10 dX11_winters_7 (by omega) (by omega) (fun h7 => ?_) (fun h7 => ?_)
    · have h1 : M 124 14 = 1 := by omega
      have hR1 := hF.r1 h1
      refine p_iload_n 17 dX11_winters_16 rfl rfl ?_
      refine p_iload_n 18 dX11_winters_17 rfl rfl ?_
      refine p_callS2i 21 dX11_winters_18 (s_isWinter (by omega) (by omega) (by omega) (by omega)) lk_X11_316 mX11_isWinter (by decide) (Nat.le_of_ble_eq_true rfl) ?_
      rintro _ _ ⟨rfl, e9⟩
      have e9 := e9.symm
      subst e9
      refine p_if_ne 30 24 dX11_winters_21 (by split <;> omega) (by split <;> omega) (fun h21 => ?_) (fun h21 => ?_)
      · have h21 := if_ne0 h21
        obtain ⟨vn, rfl⟩ : ∃ k : Nat, v = (k : Int) := ⟨v.toNat, by omega⟩
        obtain ⟨nn, rfl⟩ : ∃ k : Nat, n = (k : Int) := ⟨n.toNat, by omega⟩
        have hhl := q_hdy_le (M 127) (M 129) vn nn
        refine p_aload_n 31 dX11_winters_30 rfl rfl (by decide) ?_
        refine p_getR 0 34 dX11_winters_31 fX11_47 rfl (hW (0, 10, 112) (by decide)) ?_
        refine p_aload_n 35 dX11_winters_34 rfl rfl (by decide) ?_
        refine p_getR 0 38 dX11_winters_35 fX11_16 rfl hco ?_
        refine p_callV1v 112 41 dX11_winters_38 (s_learnT (Or.inr rfl : isC 25) hW hC hR hten) lk_X11_187 mX9_learn rfl rfl (by decide) (Nat.le_of_ble_eq_true rfl) ?_
        intro M9 h9
        obtain ⟨g1, g2, g3, g4⟩ := h9
        have hI9 : IC M M9 := hI.learnT hF g1 g2 g3 g4
        have hk9 : ∀ k, 124 ≤ k → M9 k = M k := fun k hk => g1 k (by omega)
        have hW := hI9.1
        have hC : ICc (M 127) (M 124 14) 25 M9 := hC.congr (fun a _ _ => g1 a (by omega))
        have hcs : M9 26 0 = M 127 2 := hC.1.2.2.2.1
        have hca : M9 31 0 = M 127 3 := hC.1.2.2.2.2.1
        have hsn : M9 25 2 = M 127 1 := hC.1.2.2.1
        have hco : M9 0 5 = 25 := (congrFun (g1 0 (by omega)) 5).trans hco
        have hN : ICn (M 129) (M 124 14) 49 M9 := hN.congr (g1 _ (by omega)) (g1 _ (by omega)) (g1 _ (by omega))
        have hwo : M9 49 3 = M 129 16 := hN.2.2.2.1
        refine p_aload_n 42 dX11_winters_41 rfl rfl (by decide) ?_
        refine p_aload_n 43 dX11_winters_42 rfl rfl (by decide) ?_
        refine p_iload_n 44 dX11_winters_43 rfl rfl ?_
        refine p_iload_n 45 dX11_winters_44 rfl rfl ?_
        refine p_callV2i 0 48 dX11_winters_45 (s_harmfulDays (Or.inr rfl : isC 25) hW hC hR hco hT hwo (v := vn) (n := nn) (by omega) (by omega)) lk_X11_320 mX11_harmfulDays rfl rfl (by decide) (Nat.le_of_ble_eq_true rfl) ?_
        rintro _ _ ⟨rfl, e9⟩
        have e9 := e9.symm
        subst e9
        refine p_aload_n 49 dX11_winters_48 rfl rfl (by decide) ?_
        refine p_getR 0 52 dX11_winters_49 fX11_16 rfl hco ?_
        refine p_aload_n 53 dX11_winters_52 rfl rfl (by decide) ?_
        refine p_getR 0 56 dX11_winters_53 fX11_47 rfl (hW (0, 10, 112) (by decide)) ?_
        refine p_getI 112 59 dX11_winters_56 fX11_201 rfl ?_
        rw [show M9 112 2 = (q_tst (M 127) : Int) from g4.2.1]
        refine p_callV1i 25 62 dX11_winters_59 (s_dayHarmOfAll_25 hW hC hR (S := q_tst (M 127)) (by omega)) lk_X11_181 mX0_dayHarmOfAll rfl rfl (by decide) (Nat.le_of_ble_eq_true rfl) ?_
        rintro _ _ ⟨rfl, e9⟩
        have e9 := e9.symm
        subst e9
        refine p_imul 63 dX11_winters_62 ?_
        refine p_callV1i 0 66 dX11_winters_63 s_grant lk_X11_108 mX11_grant rfl rfl (by decide) (Nat.le_of_ble_eq_true rfl) ?_
        rintro _ _ ⟨rfl, rfl⟩
        refine p_iret dX11_winters_66 rfl ?_
        exact ⟨_, rfl, CQ.of hI9 hF hk9 (by unfold pa_winters; rw [if_neg (by omega), if_pos (by omega), Int.toNat_natCast, Int.toNat_natCast]; rfl) (by unfold pa_winters; rw [if_neg (by omega), if_pos (by omega)]) (by decide)⟩
      · have h21 := if_nne0 h21
        refine p_aload_n 25 dX11_winters_24 rfl rfl (by decide) ?_
        refine p_iconst 26 dX11_winters_25 ?_
        refine p_callV1i 0 29 dX11_winters_26 s_refuse lk_X11_73 mX11_refuse rfl rfl (by decide) (Nat.le_of_ble_eq_true rfl) ?_
        rintro _ _ ⟨rfl, rfl⟩
        refine p_iret dX11_winters_29 rfl ?_
        exact ⟨_, rfl, CQ.of hI hF (fun k _ => rfl) (by unfold pa_winters; (repeat' split) <;> first | rfl | (exfalso; omega)) (by unfold pa_winters; (repeat' split) <;> first | rfl | (exfalso; omega)) (by decide)⟩
    · refine p_aload_n 11 dX11_winters_10 rfl rfl (by decide) ?_
      refine p_iconst 12 dX11_winters_11 ?_
      refine p_callV1i 0 15 dX11_winters_12 s_refuse lk_X11_73 mX11_refuse rfl rfl (by decide) (Nat.le_of_ble_eq_true rfl) ?_
      rintro _ _ ⟨rfl, rfl⟩
      refine p_iret dX11_winters_15 rfl ?_
      exact ⟨_, rfl, CQ.of hI hF (fun k _ => rfl) (by unfold pa_winters; (repeat' split) <;> first | rfl | (exfalso; omega)) (by unfold pa_winters; (repeat' split) <;> first | rfl | (exfalso; omega)) (by decide)⟩
theorem c_wintersOf {l : Launch} {X : ZX} {M : ZM} (hI : IC M M) (hF : WF M) {s : Int} (hs1 : -2147483648 ≤ s) (hs2 : s < 2147483648) {v : Int} (hv1 : -2147483648 ≤ v) (hv2 : v < 2147483648) {n : Int} (hn1 : -2147483648 ≤ n) (hn2 : n < 2147483648) : zCi l X 6 yX11_wintersOf tX11_wintersOf [zr 0, zi s, zi v, zi n] M (CQ M (pa_wintersOf (M 124 14) (M 127) (M 129) s v n)) := by
  obtain ⟨hW, ⟨c, c', hcc, hco, hsp, hC⟩, ⟨j1, j2, j3, j4, j5⟩, hN, hpast, hten, ⟨hz0, hsea⟩, hfit⟩ := id hI
  have hR := hF.r
  have hT := hF.t
  have hh := hF.h
  have e0 : M 127 0 = (q_n (M 127) 0 : Int) := hR.n (by decide)
  have e2 : M 127 2 = (q_n (M 127) 2 : Int) := hR.n (by decide)
  have e3 : M 127 3 = (q_n (M 127) 3 : Int) := hR.n (by decide)
  have e4 : M 127 4 = (q_n (M 127) 4 : Int) := hR.n (by decide)
  have bR := hR.2.1
  have h20 : M 124 14 = 0 → M 127 2 = 0 := fun h => hF.r0 h 2 (by decide)
  have h30 : M 124 14 = 0 → M 127 3 = 0 := fun h => hF.r0 h 3 (by decide)
  have h40 : M 124 14 = 0 → M 127 4 = 0 := fun h => hF.r0 h 4 (by decide)
  have hwo : M 49 3 = M 129 16 := hN.2.2.2.1
  have t160 := hT.1 16 (by decide)
  have t161 := hT.2.2.2.2.1
  refine zC.of [some (zr 0), some (zi s), some (zi v), some (zi n)] (by decide +kernel) rfl rfl (Nat.le_of_ble_eq_true rfl) rfl ?_
  rcases hcc with ⟨rfl, rfl⟩ | ⟨rfl, rfl⟩
  · have hto : M 2 0 = M 124 14 := hC.1.1
    have hla : M 2 1 = M 127 0 := hC.1.2.1
    have hsn : M 2 2 = M 127 1 := hC.1.2.2.1
    have hcs : M 3 0 = M 127 2 := hC.1.2.2.2.1
    have hca : M 8 0 = M 127 3 := hC.1.2.2.2.2.1
    have hcw : M 13 0 = M 127 4 := hC.1.2.2.2.2.2.1
    have hcb : M 13 1 = M 127 5 := hC.1.2.2.2.2.2.2.1
    have hcor : M 19 0 = M 127 6 := hC.1.2.2.2.2.2.2.2.1
    have hcn : M 19 4 = M 127 7 := hC.1.2.2.2.2.2.2.2.2
    have b2 := bR.2.2.1
    have b3 := bR.2.2.2.1
    have hTl := q_T_le hR (n := q_n (M 127) 3) (by omega)
    change q_T (M 127) ≤ 365 at hTl
    have hAl := q_all_le_T (M 127)
    have htl := q_tst_lt hR
    have hel := q_eh_le hR
    refine p_aload_n 1 dX11_wintersOf_0 rfl rfl (by decide) ?_
    refine p_iload_n 2 dX11_wintersOf_1 rfl rfl ?_
    refine p_callV1i 0 5 dX11_wintersOf_2 (s_isSleeper_2 hW hC hR hco (by omega) (by omega)) lk_X11_125 mX11_isSleeper rfl rfl (by decide) (Nat.le_of_ble_eq_true rfl) ?_
    rintro _ _ ⟨rfl, e9⟩
    have e9 := e9.symm
    subst e9
    refine p_if_ne 14 8 dX11_wintersOf_5 (by split <;> omega) (by split <;> omega) (fun h5 => ?_) (fun h5 => ?_)
    · have h5 := if_ne0 h5
      obtain ⟨sn, rfl⟩ : ∃ k : Nat, s = (k : Int) := ⟨s.toNat, by omega⟩
      have h1 : M 124 14 = 1 := by omega
      have hR1 := hF.r1 h1
      refine p_iload_n 15 dX11_wintersOf_14 rfl rfl ?_
      refine p_iload_n 16 dX11_wintersOf_15 rfl rfl ?_
      refine p_callS2i 19 dX11_wintersOf_16 (s_isWinter (by omega) (by omega) (by omega) (by omega)) lk_X11_316 mX11_isWinter (by decide) (Nat.le_of_ble_eq_true rfl) ?_
      rintro _ _ ⟨rfl, e9⟩
      have e9 := e9.symm
      subst e9
      refine p_if_ne 28 22 dX11_wintersOf_19 (by split <;> omega) (by split <;> omega) (fun h19 => ?_) (fun h19 => ?_)
      · have h19 := if_ne0 h19
        obtain ⟨vn, rfl⟩ : ∃ k : Nat, v = (k : Int) := ⟨v.toNat, by omega⟩
        obtain ⟨nn, rfl⟩ : ∃ k : Nat, n = (k : Int) := ⟨n.toNat, by omega⟩
        have hhl := q_hdy_le (M 127) (M 129) vn nn
        refine p_aload_n 29 dX11_wintersOf_28 rfl rfl (by decide) ?_
        refine p_getR 0 32 dX11_wintersOf_29 fX11_47 rfl (hW (0, 10, 112) (by decide)) ?_
        refine p_aload_n 33 dX11_wintersOf_32 rfl rfl (by decide) ?_
        refine p_getR 0 36 dX11_wintersOf_33 fX11_16 rfl hco ?_
        refine p_callV1v 112 39 dX11_wintersOf_36 (s_learnT (Or.inl rfl : isC 2) hW hC hR hten) lk_X11_187 mX9_learn rfl rfl (by decide) (Nat.le_of_ble_eq_true rfl) ?_
        intro M9 h9
        obtain ⟨g1, g2, g3, g4⟩ := h9
        have hI9 : IC M M9 := hI.learnT hF g1 g2 g3 g4
        have hk9 : ∀ k, 124 ≤ k → M9 k = M k := fun k hk => g1 k (by omega)
        have hW := hI9.1
        have hC : ICc (M 127) (M 124 14) 2 M9 := hC.congr (fun a _ _ => g1 a (by omega))
        have hcs : M9 3 0 = M 127 2 := hC.1.2.2.2.1
        have hca : M9 8 0 = M 127 3 := hC.1.2.2.2.2.1
        have hsn : M9 2 2 = M 127 1 := hC.1.2.2.1
        have hco : M9 0 5 = 2 := (congrFun (g1 0 (by omega)) 5).trans hco
        have hN : ICn (M 129) (M 124 14) 49 M9 := hN.congr (g1 _ (by omega)) (g1 _ (by omega)) (g1 _ (by omega))
        have hwo : M9 49 3 = M 129 16 := hN.2.2.2.1
        refine p_aload_n 40 dX11_wintersOf_39 rfl rfl (by decide) ?_
        refine p_aload_n 41 dX11_wintersOf_40 rfl rfl (by decide) ?_
        refine p_getR 0 44 dX11_wintersOf_41 fX11_33 rfl (hW (0, 8, 49) (by decide)) ?_
        refine p_getR 49 47 dX11_wintersOf_44 fX11_139 rfl (hW (49, 4, 50) (by decide)) ?_
        refine p_iload_n 48 dX11_wintersOf_47 rfl rfl ?_
        refine p_ialdn 50 49 (sn) dX11_wintersOf_48 rfl (by omega) (by omega) ?_
        rw [hN.2.2.2.2.1 sn (by omega)]
        refine p_aload_n 50 dX11_wintersOf_49 rfl rfl (by decide) ?_
        refine p_iload_n 51 dX11_wintersOf_50 rfl rfl ?_
        refine p_iload_n 52 dX11_wintersOf_51 rfl rfl ?_
        refine p_callV2i 0 55 dX11_wintersOf_52 (s_harmfulDays (Or.inl rfl : isC 2) hW hC hR hco hT hwo (v := vn) (n := nn) (by omega) (by omega)) lk_X11_320 mX11_harmfulDays rfl rfl (by decide) (Nat.le_of_ble_eq_true rfl) ?_
        rintro _ _ ⟨rfl, e9⟩
        have e9 := e9.symm
        subst e9
        refine p_aload_n 56 dX11_wintersOf_55 rfl rfl (by decide) ?_
        refine p_getR 0 59 dX11_wintersOf_56 fX11_16 rfl hco ?_
        refine p_iload_n 60 dX11_wintersOf_59 rfl rfl ?_
        refine p_aload_n 61 dX11_wintersOf_60 rfl rfl (by decide) ?_
        refine p_getR 0 64 dX11_wintersOf_61 fX11_47 rfl (hW (0, 10, 112) (by decide)) ?_
        refine p_getI 112 67 dX11_wintersOf_64 fX11_201 rfl ?_
        rw [show M9 112 2 = (q_tst (M 127) : Int) from g4.2.1]
        refine p_callV2i 2 70 dX11_wintersOf_67 (s_dayHarm_2 hW hC hR (s := sn) (S := q_tst (M 127)) (by omega) (by omega)) lk_X11_177 mX0_dayHarm rfl rfl (by decide) (Nat.le_of_ble_eq_true rfl) ?_
        rintro _ _ ⟨rfl, e9⟩
        have e9 := e9.symm
        subst e9
        refine p_imul 71 dX11_wintersOf_70 ?_
        refine p_iadd 72 dX11_wintersOf_71 ?_
        refine p_callV1i 0 75 dX11_wintersOf_72 s_grant lk_X11_108 mX11_grant rfl rfl (by decide) (Nat.le_of_ble_eq_true rfl) ?_
        rintro _ _ ⟨rfl, rfl⟩
        refine p_iret dX11_wintersOf_75 rfl ?_
        exact ⟨_, rfl, CQ.of hI9 hF hk9 (by unfold pa_wintersOf; rw [if_neg (by omega), if_pos (by omega), Int.toNat_natCast, Int.toNat_natCast, Int.toNat_natCast]; rfl) (by unfold pa_wintersOf; rw [if_neg (by omega), if_pos (by omega)]) (by decide)⟩
      · have h19 := if_nne0 h19
        refine p_aload_n 23 dX11_wintersOf_22 rfl rfl (by decide) ?_
        refine p_iconst 24 dX11_wintersOf_23 ?_
        refine p_callV1i 0 27 dX11_wintersOf_24 s_refuse lk_X11_73 mX11_refuse rfl rfl (by decide) (Nat.le_of_ble_eq_true rfl) ?_
        rintro _ _ ⟨rfl, rfl⟩
        refine p_iret dX11_wintersOf_27 rfl ?_
        exact ⟨_, rfl, CQ.of hI hF (fun k _ => rfl) (by unfold pa_wintersOf; (repeat' split) <;> first | rfl | (exfalso; omega)) (by unfold pa_wintersOf; (repeat' split) <;> first | rfl | (exfalso; omega)) (by decide)⟩
    · have h5 := if_nne0 h5
      refine p_aload_n 9 dX11_wintersOf_8 rfl rfl (by decide) ?_
      refine p_iconst 10 dX11_wintersOf_9 ?_
      refine p_callV1i 0 13 dX11_wintersOf_10 s_refuse lk_X11_73 mX11_refuse rfl rfl (by decide) (Nat.le_of_ble_eq_true rfl) ?_
      rintro _ _ ⟨rfl, rfl⟩
      refine p_iret dX11_wintersOf_13 rfl ?_
      exact ⟨_, rfl, CQ.of hI hF (fun k _ => rfl) (by unfold pa_wintersOf; (repeat' split) <;> first | rfl | (exfalso; omega)) (by unfold pa_wintersOf; (repeat' split) <;> first | rfl | (exfalso; omega)) (by decide)⟩
  · have hto : M 25 0 = M 124 14 := hC.1.1
    have hla : M 25 1 = M 127 0 := hC.1.2.1
    have hsn : M 25 2 = M 127 1 := hC.1.2.2.1
    have hcs : M 26 0 = M 127 2 := hC.1.2.2.2.1
    have hca : M 31 0 = M 127 3 := hC.1.2.2.2.2.1
    have hcw : M 36 0 = M 127 4 := hC.1.2.2.2.2.2.1
    have hcb : M 36 1 = M 127 5 := hC.1.2.2.2.2.2.2.1
    have hcor : M 42 0 = M 127 6 := hC.1.2.2.2.2.2.2.2.1
    have hcn : M 42 4 = M 127 7 := hC.1.2.2.2.2.2.2.2.2
    have b2 := bR.2.2.1
    have b3 := bR.2.2.2.1
    have hTl := q_T_le hR (n := q_n (M 127) 3) (by omega)
    change q_T (M 127) ≤ 365 at hTl
    have hAl := q_all_le_T (M 127)
    have htl := q_tst_lt hR
    have hel := q_eh_le hR
    refine p_aload_n 1 dX11_wintersOf_0 rfl rfl (by decide) ?_
    refine p_iload_n 2 dX11_wintersOf_1 rfl rfl ?_
    refine p_callV1i 0 5 dX11_wintersOf_2 (s_isSleeper_25 hW hC hR hco (by omega) (by omega)) lk_X11_125 mX11_isSleeper rfl rfl (by decide) (Nat.le_of_ble_eq_true rfl) ?_
    rintro _ _ ⟨rfl, e9⟩
    have e9 := e9.symm
    subst e9
    refine p_if_ne 14 8 dX11_wintersOf_5 (by split <;> omega) (by split <;> omega) (fun h5 => ?_) (fun h5 => ?_)
    · have h5 := if_ne0 h5
      obtain ⟨sn, rfl⟩ : ∃ k : Nat, s = (k : Int) := ⟨s.toNat, by omega⟩
      have h1 : M 124 14 = 1 := by omega
      have hR1 := hF.r1 h1
      refine p_iload_n 15 dX11_wintersOf_14 rfl rfl ?_
      refine p_iload_n 16 dX11_wintersOf_15 rfl rfl ?_
      refine p_callS2i 19 dX11_wintersOf_16 (s_isWinter (by omega) (by omega) (by omega) (by omega)) lk_X11_316 mX11_isWinter (by decide) (Nat.le_of_ble_eq_true rfl) ?_
      rintro _ _ ⟨rfl, e9⟩
      have e9 := e9.symm
      subst e9
      refine p_if_ne 28 22 dX11_wintersOf_19 (by split <;> omega) (by split <;> omega) (fun h19 => ?_) (fun h19 => ?_)
      · have h19 := if_ne0 h19
        obtain ⟨vn, rfl⟩ : ∃ k : Nat, v = (k : Int) := ⟨v.toNat, by omega⟩
        obtain ⟨nn, rfl⟩ : ∃ k : Nat, n = (k : Int) := ⟨n.toNat, by omega⟩
        have hhl := q_hdy_le (M 127) (M 129) vn nn
        refine p_aload_n 29 dX11_wintersOf_28 rfl rfl (by decide) ?_
        refine p_getR 0 32 dX11_wintersOf_29 fX11_47 rfl (hW (0, 10, 112) (by decide)) ?_
        refine p_aload_n 33 dX11_wintersOf_32 rfl rfl (by decide) ?_
        refine p_getR 0 36 dX11_wintersOf_33 fX11_16 rfl hco ?_
        refine p_callV1v 112 39 dX11_wintersOf_36 (s_learnT (Or.inr rfl : isC 25) hW hC hR hten) lk_X11_187 mX9_learn rfl rfl (by decide) (Nat.le_of_ble_eq_true rfl) ?_
        intro M9 h9
        obtain ⟨g1, g2, g3, g4⟩ := h9
        have hI9 : IC M M9 := hI.learnT hF g1 g2 g3 g4
        have hk9 : ∀ k, 124 ≤ k → M9 k = M k := fun k hk => g1 k (by omega)
        have hW := hI9.1
        have hC : ICc (M 127) (M 124 14) 25 M9 := hC.congr (fun a _ _ => g1 a (by omega))
        have hcs : M9 26 0 = M 127 2 := hC.1.2.2.2.1
        have hca : M9 31 0 = M 127 3 := hC.1.2.2.2.2.1
        have hsn : M9 25 2 = M 127 1 := hC.1.2.2.1
        have hco : M9 0 5 = 25 := (congrFun (g1 0 (by omega)) 5).trans hco
        have hN : ICn (M 129) (M 124 14) 49 M9 := hN.congr (g1 _ (by omega)) (g1 _ (by omega)) (g1 _ (by omega))
        have hwo : M9 49 3 = M 129 16 := hN.2.2.2.1
        refine p_aload_n 40 dX11_wintersOf_39 rfl rfl (by decide) ?_
        refine p_aload_n 41 dX11_wintersOf_40 rfl rfl (by decide) ?_
        refine p_getR 0 44 dX11_wintersOf_41 fX11_33 rfl (hW (0, 8, 49) (by decide)) ?_
        refine p_getR 49 47 dX11_wintersOf_44 fX11_139 rfl (hW (49, 4, 50) (by decide)) ?_
        refine p_iload_n 48 dX11_wintersOf_47 rfl rfl ?_
        refine p_ialdn 50 49 (sn) dX11_wintersOf_48 rfl (by omega) (by omega) ?_
        rw [hN.2.2.2.2.1 sn (by omega)]
        refine p_aload_n 50 dX11_wintersOf_49 rfl rfl (by decide) ?_
        refine p_iload_n 51 dX11_wintersOf_50 rfl rfl ?_
        refine p_iload_n 52 dX11_wintersOf_51 rfl rfl ?_
        refine p_callV2i 0 55 dX11_wintersOf_52 (s_harmfulDays (Or.inr rfl : isC 25) hW hC hR hco hT hwo (v := vn) (n := nn) (by omega) (by omega)) lk_X11_320 mX11_harmfulDays rfl rfl (by decide) (Nat.le_of_ble_eq_true rfl) ?_
        rintro _ _ ⟨rfl, e9⟩
        have e9 := e9.symm
        subst e9
        refine p_aload_n 56 dX11_wintersOf_55 rfl rfl (by decide) ?_
        refine p_getR 0 59 dX11_wintersOf_56 fX11_16 rfl hco ?_
        refine p_iload_n 60 dX11_wintersOf_59 rfl rfl ?_
        refine p_aload_n 61 dX11_wintersOf_60 rfl rfl (by decide) ?_
        refine p_getR 0 64 dX11_wintersOf_61 fX11_47 rfl (hW (0, 10, 112) (by decide)) ?_
        refine p_getI 112 67 dX11_wintersOf_64 fX11_201 rfl ?_
        rw [show M9 112 2 = (q_tst (M 127) : Int) from g4.2.1]
        refine p_callV2i 25 70 dX11_wintersOf_67 (s_dayHarm_25 hW hC hR (s := sn) (S := q_tst (M 127)) (by omega) (by omega)) lk_X11_177 mX0_dayHarm rfl rfl (by decide) (Nat.le_of_ble_eq_true rfl) ?_
        rintro _ _ ⟨rfl, e9⟩
        have e9 := e9.symm
        subst e9
        refine p_imul 71 dX11_wintersOf_70 ?_
        refine p_iadd 72 dX11_wintersOf_71 ?_
        refine p_callV1i 0 75 dX11_wintersOf_72 s_grant lk_X11_108 mX11_grant rfl rfl (by decide) (Nat.le_of_ble_eq_true rfl) ?_
        rintro _ _ ⟨rfl, rfl⟩
        refine p_iret dX11_wintersOf_75 rfl ?_
        exact ⟨_, rfl, CQ.of hI9 hF hk9 (by unfold pa_wintersOf; rw [if_neg (by omega), if_pos (by omega), Int.toNat_natCast, Int.toNat_natCast, Int.toNat_natCast]; rfl) (by unfold pa_wintersOf; rw [if_neg (by omega), if_pos (by omega)]) (by decide)⟩
      · have h19 := if_nne0 h19
        refine p_aload_n 23 dX11_wintersOf_22 rfl rfl (by decide) ?_
        refine p_iconst 24 dX11_wintersOf_23 ?_
        refine p_callV1i 0 27 dX11_wintersOf_24 s_refuse lk_X11_73 mX11_refuse rfl rfl (by decide) (Nat.le_of_ble_eq_true rfl) ?_
        rintro _ _ ⟨rfl, rfl⟩
        refine p_iret dX11_wintersOf_27 rfl ?_
        exact ⟨_, rfl, CQ.of hI hF (fun k _ => rfl) (by unfold pa_wintersOf; (repeat' split) <;> first | rfl | (exfalso; omega)) (by unfold pa_wintersOf; (repeat' split) <;> first | rfl | (exfalso; omega)) (by decide)⟩
    · have h5 := if_nne0 h5
      refine p_aload_n 9 dX11_wintersOf_8 rfl rfl (by decide) ?_
      refine p_iconst 10 dX11_wintersOf_9 ?_
      refine p_callV1i 0 13 dX11_wintersOf_10 s_refuse lk_X11_73 mX11_refuse rfl rfl (by decide) (Nat.le_of_ble_eq_true rfl) ?_
      rintro _ _ ⟨rfl, rfl⟩
      refine p_iret dX11_wintersOf_13 rfl ?_
      exact ⟨_, rfl, CQ.of hI hF (fun k _ => rfl) (by unfold pa_wintersOf; (repeat' split) <;> first | rfl | (exfalso; omega)) (by unfold pa_wintersOf; (repeat' split) <;> first | rfl | (exfalso; omega)) (by decide)⟩
theorem l_above {l : Launch} {X : ZX} {M : ZM} {c : Nat} (hc : isC c) {ρ : Nat → Int} {h : Int} (hW : zWc M) (hC : ICc ρ h c M) (hR : wfR ρ) (hco : M 0 5 = (c : Int)) {τ : Nat → Int} (hT : wfT ρ τ) {v n : Nat} {m : Int} (hv : v ≤ 65536) (hn : n ≤ 90) (hm0 : 0 ≤ m) (hm1 : m ≤ 9999) {ea : Nat} (hea : ea = if 0 < τ 16 then 0 else q_eh ρ) : ∀ (j i : Nat), i + j = n → q_abv ρ τ v m i = 0 → zP l X 6 tX11_above 97 [some (zr 0), some (zi m), some (zi (v : Int)), some (zi (n : Int)), some (zi (ea : Int)), some (zi ((q_bs τ + q_hdy ρ τ v i * q_eh ρ : Nat) : Int)), some (zi (q_draw v i : Int)), some (zi ((i : Int) + 1))] [] M (fun r M' => ∃ a, r = some (zi a) ∧ a = q_abv ρ τ v m n ∧ M' = zset M 0 2 0) := by
  have e1 : ρ 1 = (q_n ρ 1 : Int) := hR.n (by decide)
  have b1 := hR.2.1.2.1
  have hcl := hc.lt
  have hel := q_eh_le hR
  have hbl := q_bs_le hT
  have hea2 : ea ≤ 280 := by rw [hea]; split <;> omega
  intro j
  induction j with
  | zero =>
    intro i hi h0
    refine p_iload 99 dX11_above_97 rfl ?_
    refine p_iload_n 100 dX11_above_99 rfl rfl ?_
    refine p_icmp_gt 151 103 dX11_above_100 (by omega) (by omega) (by omega) (by omega) (fun h100 => ?_) (fun h100 => absurd (by omega) (fun h9 : False => h9))
    refine p_aload_n 152 dX11_above_151 rfl rfl (by decide) ?_
    refine p_iconst 153 dX11_above_152 ?_
    refine p_callV1i 0 156 dX11_above_153 s_grant lk_X11_108 mX11_grant rfl rfl (by decide) (Nat.le_of_ble_eq_true rfl) ?_
    rintro _ _ ⟨rfl, rfl⟩
    refine p_iret dX11_above_156 rfl ?_
    rw [Nat.add_zero] at hi
    subst hi
    exact ⟨_, rfl, h0.symm, rfl⟩
  | succ j ih =>
    intro i hi h0
    have hd0 := q_draw_le hv i
    have hd1 := q_draw_le hv (i + 1)
    have hm : q_draw v (i + 1) % 100 < 100 := Nat.mod_lt _ (by decide)
    have hhl := q_hdy_le ρ τ v i
    have hpl : q_hdy ρ τ v i * q_eh ρ ≤ 90 * 280 := Nat.mul_le_mul (by omega) hel
    refine p_iload 99 dX11_above_97 rfl ?_
    refine p_iload_n 100 dX11_above_99 rfl rfl ?_
    refine p_icmp_gt 151 103 dX11_above_100 (by omega) (by omega) (by omega) (by omega) (fun h100 => absurd (by omega) (fun h9 : False => h9)) (fun h100 => ?_)
    refine p_iload 105 dX11_above_103 rfl ?_
    refine p_callS1i 108 dX11_above_105 (s_drawAfter (v := q_draw v i) (by omega)) lk_X11_323 mX11_drawAfter (by decide) (Nat.le_of_ble_eq_true rfl) ?_
    rintro _ _ ⟨rfl, e9⟩
    have e9 := e9.symm
    subst e9
    rw [show (75 * q_draw v i + 74) % 65537 = q_draw v (i + 1) from rfl]
    refine p_istore 110 dX11_above_108 (Nat.le_of_ble_eq_true rfl) rfl rfl ?_
    dsimp only [List.set]
    refine p_iload 112 dX11_above_110 rfl ?_
    refine p_bipush 114 dX11_above_112 rfl ?_
    refine p_irem 115 dX11_above_114 (by decide) ?_
    rw [z_rem100 (by omega)]
    refine p_aload_n 116 dX11_above_115 rfl rfl (by decide) ?_
    refine p_getR 0 119 dX11_above_116 fX11_16 rfl hco ?_
    refine p_getI (c) 122 dX11_above_119 fX11_326 hc.tt2.1 ?_
    rw [hC.1.2.2.1]
    refine p_icmp_ge 132 125 dX11_above_122 (by omega) (by omega) (by omega) (by omega) (fun h122 => ?_) (fun h122 => ?_)
    · have hs1 : q_hdy ρ τ v (i + 1) * q_eh ρ = q_hdy ρ τ v i * q_eh ρ := by rw [q_hdy_dry (by omega)]
      
      refine p_iload 134 dX11_above_132 rfl ?_
      refine p_iload_n 135 dX11_above_134 rfl rfl ?_
      refine p_icmp_le 145 138 dX11_above_135 (by omega) (by omega) (by omega) (by omega) (fun h135 => ?_) (fun h135 => ?_)
      · refine p_iinc 148 dX11_above_145 rfl rfl rfl ?_
        dsimp only [List.set]
        refine p_goto 97 dX11_above_148 ?_
        have ev : q_abv ρ τ v m (i + 1) = 0 := by
          show (if _ then _ else _) = _
          rw [if_neg (fun g => by have := g.2; rw [hs1] at this; omega)]
          exact h0
        have e := ih (i + 1) (by omega) ev
        rw [hs1] at e
        first | exact e | (rw [← Nat.add_assoc] at e; exact e)
      · refine p_aload_n 139 dX11_above_138 rfl rfl (by decide) ?_
        refine p_iload 141 dX11_above_139 rfl ?_
        refine p_callV1i 0 144 dX11_above_141 s_grant lk_X11_108 mX11_grant rfl rfl (by decide) (Nat.le_of_ble_eq_true rfl) ?_
        rintro _ _ ⟨rfl, rfl⟩
        refine p_iret dX11_above_144 rfl ?_
        have ev : q_abv ρ τ v m (i + 1) = (i : Int) + 1 := by
          show (if _ then _ else _) = _
          rw [if_pos ⟨h0, by rw [hs1]; omega⟩]
        refine ⟨_, rfl, ?_, rfl⟩
        rw [q_abv_stay (k := i + 1) (by omega) (by omega), ev]
    · have hs1 : q_hdy ρ τ v (i + 1) * q_eh ρ = q_hdy ρ τ v i * q_eh ρ + ea := by
        by_cases hw : 0 < τ 16
        · rw [q_hdy_awake hw, q_hdy_awake hw, hea, if_pos hw]
          exact (Nat.add_zero _).symm
        · rw [q_hdy_snow (by omega) hw, hea, if_neg hw, Nat.add_mul, Nat.one_mul]
      refine p_iload 127 dX11_above_125 rfl ?_
      refine p_iload 129 dX11_above_127 rfl ?_
      refine p_iadd 130 dX11_above_129 ?_
      refine p_istore 132 dX11_above_130 (Nat.le_of_ble_eq_true rfl) rfl rfl ?_
      dsimp only [List.set]
      
      refine p_iload 134 dX11_above_132 rfl ?_
      refine p_iload_n 135 dX11_above_134 rfl rfl ?_
      refine p_icmp_le 145 138 dX11_above_135 (by omega) (by omega) (by omega) (by omega) (fun h135 => ?_) (fun h135 => ?_)
      · refine p_iinc 148 dX11_above_145 rfl rfl rfl ?_
        dsimp only [List.set]
        refine p_goto 97 dX11_above_148 ?_
        have ev : q_abv ρ τ v m (i + 1) = 0 := by
          show (if _ then _ else _) = _
          rw [if_neg (fun g => by have := g.2; rw [hs1] at this; omega)]
          exact h0
        have e := ih (i + 1) (by omega) ev
        rw [hs1] at e
        first | exact e | (rw [← Nat.add_assoc] at e; exact e)
      · refine p_aload_n 139 dX11_above_138 rfl rfl (by decide) ?_
        refine p_iload 141 dX11_above_139 rfl ?_
        refine p_callV1i 0 144 dX11_above_141 s_grant lk_X11_108 mX11_grant rfl rfl (by decide) (Nat.le_of_ble_eq_true rfl) ?_
        rintro _ _ ⟨rfl, rfl⟩
        refine p_iret dX11_above_144 rfl ?_
        have ev : q_abv ρ τ v m (i + 1) = (i : Int) + 1 := by
          show (if _ then _ else _) = _
          rw [if_pos ⟨h0, by rw [hs1]; omega⟩]
        refine ⟨_, rfl, ?_, rfl⟩
        rw [q_abv_stay (k := i + 1) (by omega) (by omega), ev]
theorem c_above {l : Launch} {X : ZX} {M : ZM} (hI : IC M M) (hF : WF M) {m : Int} (hm1 : -2147483648 ≤ m) (hm2 : m < 2147483648) {v : Int} (hv1 : -2147483648 ≤ v) (hv2 : v < 2147483648) {n : Int} (hn1 : -2147483648 ≤ n) (hn2 : n < 2147483648) : zCi l X 6 yX11_above tX11_above [zr 0, zi m, zi v, zi n] M (CQ M (pa_above (M 124 14) (M 127) (M 129) m v n)) := by
  obtain ⟨hW, ⟨c, c', hcc, hco, hsp, hC⟩, ⟨j1, j2, j3, j4, j5⟩, hN, hpast, hten, ⟨hz0, hsea⟩, hfit⟩ := id hI
  have hR := hF.r
  have hT := hF.t
  have hh := hF.h
  have e0 : M 127 0 = (q_n (M 127) 0 : Int) := hR.n (by decide)
  have e2 : M 127 2 = (q_n (M 127) 2 : Int) := hR.n (by decide)
  have e3 : M 127 3 = (q_n (M 127) 3 : Int) := hR.n (by decide)
  have e4 : M 127 4 = (q_n (M 127) 4 : Int) := hR.n (by decide)
  have bR := hR.2.1
  have h20 : M 124 14 = 0 → M 127 2 = 0 := fun h => hF.r0 h 2 (by decide)
  have h30 : M 124 14 = 0 → M 127 3 = 0 := fun h => hF.r0 h 3 (by decide)
  have h40 : M 124 14 = 0 → M 127 4 = 0 := fun h => hF.r0 h 4 (by decide)
  have hwo : M 49 3 = M 129 16 := hN.2.2.2.1
  have t160 := hT.1 16 (by decide)
  have t161 := hT.2.2.2.2.1
  refine zC.of [some (zr 0), some (zi m), some (zi v), some (zi n), none, none, none, none] (by decide +kernel) rfl rfl (Nat.le_of_ble_eq_true rfl) rfl ?_
  rcases hcc with ⟨rfl, rfl⟩ | ⟨rfl, rfl⟩
  · have hto : M 2 0 = M 124 14 := hC.1.1
    have hla : M 2 1 = M 127 0 := hC.1.2.1
    have hsn : M 2 2 = M 127 1 := hC.1.2.2.1
    have hcs : M 3 0 = M 127 2 := hC.1.2.2.2.1
    have hca : M 8 0 = M 127 3 := hC.1.2.2.2.2.1
    have hcw : M 13 0 = M 127 4 := hC.1.2.2.2.2.2.1
    have hcb : M 13 1 = M 127 5 := hC.1.2.2.2.2.2.2.1
    have hcor : M 19 0 = M 127 6 := hC.1.2.2.2.2.2.2.2.1
    have hcn : M 19 4 = M 127 7 := hC.1.2.2.2.2.2.2.2.2
    have b2 := bR.2.2.1
    have b3 := bR.2.2.2.1
    have hTl := q_T_le hR (n := q_n (M 127) 3) (by omega)
    change q_T (M 127) ≤ 365 at hTl
    have hAl := q_all_le_T (M 127)
    have htl := q_tst_lt hR
    have hel := q_eh_le hR
    refine p_aload_n 1 dX11_above_0 rfl rfl (by decide) ?_
    refine p_getR 0 4 dX11_above_1 fX11_16 rfl hco ?_
    refine p_getI 2 7 dX11_above_4 fX11_114 rfl ?_
    rw [hto]
    refine p_if_ne 16 10 dX11_above_7 (by omega) (by omega) (fun h7 => ?_) (fun h7 => ?_)
    · have h1 : M 124 14 = 1 := by omega
      have hR1 := hF.r1 h1
      refine p_iload_n 17 dX11_above_16 rfl rfl ?_
      refine p_if_lt 35 20 dX11_above_17 (by omega) (by omega) (fun h17 => ?_) (fun h17 => ?_)
      · refine p_aload_n 36 dX11_above_35 rfl rfl (by decide) ?_
        refine p_iconst 37 dX11_above_36 ?_
        refine p_callV1i 0 40 dX11_above_37 s_refuse lk_X11_73 mX11_refuse rfl rfl (by decide) (Nat.le_of_ble_eq_true rfl) ?_
        rintro _ _ ⟨rfl, rfl⟩
        refine p_iret dX11_above_40 rfl ?_
        exact ⟨_, rfl, CQ.of hI hF (fun k _ => rfl) (by unfold pa_above; (repeat' split) <;> first | rfl | (exfalso; omega)) (by unfold pa_above; (repeat' split) <;> first | rfl | (exfalso; omega)) (by decide)⟩
      · refine p_iload_n 21 dX11_above_20 rfl rfl ?_
        refine p_sipush 24 dX11_above_21 rfl ?_
        refine p_icmp_gt 35 27 dX11_above_24 (by omega) (by omega) (by omega) (by omega) (fun h24 => ?_) (fun h24 => ?_)
        · refine p_aload_n 36 dX11_above_35 rfl rfl (by decide) ?_
          refine p_iconst 37 dX11_above_36 ?_
          refine p_callV1i 0 40 dX11_above_37 s_refuse lk_X11_73 mX11_refuse rfl rfl (by decide) (Nat.le_of_ble_eq_true rfl) ?_
          rintro _ _ ⟨rfl, rfl⟩
          refine p_iret dX11_above_40 rfl ?_
          exact ⟨_, rfl, CQ.of hI hF (fun k _ => rfl) (by unfold pa_above; (repeat' split) <;> first | rfl | (exfalso; omega)) (by unfold pa_above; (repeat' split) <;> first | rfl | (exfalso; omega)) (by decide)⟩
        · refine p_iload_n 28 dX11_above_27 rfl rfl ?_
          refine p_iload_n 29 dX11_above_28 rfl rfl ?_
          refine p_callS2i 32 dX11_above_29 (s_isWinter (by omega) (by omega) (by omega) (by omega)) lk_X11_316 mX11_isWinter (by decide) (Nat.le_of_ble_eq_true rfl) ?_
          rintro _ _ ⟨rfl, e9⟩
          have e9 := e9.symm
          subst e9
          refine p_if_ne 41 35 dX11_above_32 (by split <;> omega) (by split <;> omega) (fun h32 => ?_) (fun h32 => ?_)
          · have h32 := if_ne0 h32
            obtain ⟨vn, rfl⟩ : ∃ k : Nat, v = (k : Int) := ⟨v.toNat, by omega⟩
            obtain ⟨nn, rfl⟩ : ∃ k : Nat, n = (k : Int) := ⟨n.toNat, by omega⟩
            have hhl := q_hdy_le (M 127) (M 129) vn nn
            refine p_aload_n 42 dX11_above_41 rfl rfl (by decide) ?_
            refine p_getR 0 45 dX11_above_42 fX11_47 rfl (hW (0, 10, 112) (by decide)) ?_
            refine p_aload_n 46 dX11_above_45 rfl rfl (by decide) ?_
            refine p_getR 0 49 dX11_above_46 fX11_16 rfl hco ?_
            refine p_callV1v 112 52 dX11_above_49 (s_learnT (Or.inl rfl : isC 2) hW hC hR hten) lk_X11_187 mX9_learn rfl rfl (by decide) (Nat.le_of_ble_eq_true rfl) ?_
            intro M9 h9
            obtain ⟨g1, g2, g3, g4⟩ := h9
            have hI9 : IC M M9 := hI.learnT hF g1 g2 g3 g4
            have hk9 : ∀ k, 124 ≤ k → M9 k = M k := fun k hk => g1 k (by omega)
            have hW := hI9.1
            have hC : ICc (M 127) (M 124 14) 2 M9 := hC.congr (fun a _ _ => g1 a (by omega))
            have hcs : M9 3 0 = M 127 2 := hC.1.2.2.2.1
            have hca : M9 8 0 = M 127 3 := hC.1.2.2.2.2.1
            have hsn : M9 2 2 = M 127 1 := hC.1.2.2.1
            have hco : M9 0 5 = 2 := (congrFun (g1 0 (by omega)) 5).trans hco
            have hN : ICn (M 129) (M 124 14) 49 M9 := hN.congr (g1 _ (by omega)) (g1 _ (by omega)) (g1 _ (by omega))
            have hwo : M9 49 3 = M 129 16 := hN.2.2.2.1
            refine p_aload_n 53 dX11_above_52 rfl rfl (by decide) ?_
            refine p_getR 0 56 dX11_above_53 fX11_33 rfl (hW (0, 8, 49) (by decide)) ?_
            refine p_getI 49 59 dX11_above_56 fX11_170 rfl ?_
            rw [hwo]
            refine p_if_eq 66 62 dX11_above_59 (by omega) (by omega) (fun h59 => ?_) (fun h59 => ?_)
            · refine p_aload_n 67 dX11_above_66 rfl rfl (by decide) ?_
              refine p_getR 0 70 dX11_above_67 fX11_16 rfl hco ?_
              refine p_aload_n 71 dX11_above_70 rfl rfl (by decide) ?_
              refine p_getR 0 74 dX11_above_71 fX11_47 rfl (hW (0, 10, 112) (by decide)) ?_
              refine p_getI 112 77 dX11_above_74 fX11_201 rfl ?_
              rw [show M9 112 2 = (q_tst (M 127) : Int) from g4.2.1]
              refine p_callV1i 2 80 dX11_above_77 (s_dayHarmOfAll_2 hW hC hR (S := q_tst (M 127)) (by omega)) lk_X11_181 mX0_dayHarmOfAll rfl rfl (by decide) (Nat.le_of_ble_eq_true rfl) ?_
              rintro _ _ ⟨rfl, e9⟩
              have e9 := e9.symm
              subst e9
              refine p_istore 82 dX11_above_80 (Nat.le_of_ble_eq_true rfl) rfl rfl ?_
              dsimp only [List.set]
              refine p_aload_n 83 dX11_above_82 rfl rfl (by decide) ?_
              refine p_getR 0 86 dX11_above_83 fX11_33 rfl (hW (0, 8, 49) (by decide)) ?_
              refine p_callV0i 49 89 dX11_above_86 (s_allHarm hW (τ := M 129) (by rw [← h1]; exact hN) hT hR) lk_X11_184 mX3_allHarm rfl rfl (by decide) (Nat.le_of_ble_eq_true rfl) ?_
              rintro _ _ ⟨rfl, e9⟩
              have e9 := e9.symm
              subst e9
              refine p_istore 91 dX11_above_89 (Nat.le_of_ble_eq_true rfl) rfl rfl ?_
              dsimp only [List.set]
              refine p_iload_n 92 dX11_above_91 rfl rfl ?_
              refine p_istore 94 dX11_above_92 (Nat.le_of_ble_eq_true rfl) rfl rfl ?_
              dsimp only [List.set]
              refine p_iconst 95 dX11_above_94 ?_
              refine p_istore 97 dX11_above_95 (Nat.le_of_ble_eq_true rfl) rfl rfl ?_
              dsimp only [List.set]
              have e := l_above (l := l) (X := X) (M := M9) (Or.inl rfl : isC 2) hW hC hR hco hT (v := vn) (n := nn) (m := m) (by omega) (by omega) (by omega) (by omega) (ea := q_eh (M 127)) (by first | (rw [if_pos (by omega)]; done) | (rw [if_neg (by omega)]; done)) nn 0 (Nat.zero_add _) rfl
              rw [show q_hdy (M 127) (M 129) vn 0 = 0 by have := q_hdy_le (M 127) (M 129) vn 0; omega, Nat.zero_mul, Nat.add_zero] at e
              refine e.mono (fun r M8 h8 => ?_)
              obtain ⟨a9, ea, eb, ec⟩ := h8
              subst ec
              exact ⟨a9, ea, CQ.of hI9 hF hk9 (eb.trans (by unfold pa_above; rw [if_neg (by omega), if_pos (by omega), Int.toNat_natCast, Int.toNat_natCast])) (by unfold pa_above; rw [if_neg (by omega), if_pos (by omega)]) (by decide)⟩
            · refine p_iconst 63 dX11_above_62 ?_
              refine p_goto 80 dX11_above_63 ?_
              refine p_istore 82 dX11_above_80 (Nat.le_of_ble_eq_true rfl) rfl rfl ?_
              dsimp only [List.set]
              refine p_aload_n 83 dX11_above_82 rfl rfl (by decide) ?_
              refine p_getR 0 86 dX11_above_83 fX11_33 rfl (hW (0, 8, 49) (by decide)) ?_
              refine p_callV0i 49 89 dX11_above_86 (s_allHarm hW (τ := M 129) (by rw [← h1]; exact hN) hT hR) lk_X11_184 mX3_allHarm rfl rfl (by decide) (Nat.le_of_ble_eq_true rfl) ?_
              rintro _ _ ⟨rfl, e9⟩
              have e9 := e9.symm
              subst e9
              refine p_istore 91 dX11_above_89 (Nat.le_of_ble_eq_true rfl) rfl rfl ?_
              dsimp only [List.set]
              refine p_iload_n 92 dX11_above_91 rfl rfl ?_
              refine p_istore 94 dX11_above_92 (Nat.le_of_ble_eq_true rfl) rfl rfl ?_
              dsimp only [List.set]
              refine p_iconst 95 dX11_above_94 ?_
              refine p_istore 97 dX11_above_95 (Nat.le_of_ble_eq_true rfl) rfl rfl ?_
              dsimp only [List.set]
              have e := l_above (l := l) (X := X) (M := M9) (Or.inl rfl : isC 2) hW hC hR hco hT (v := vn) (n := nn) (m := m) (by omega) (by omega) (by omega) (by omega) (ea := 0) (by first | (rw [if_pos (by omega)]; done) | (rw [if_neg (by omega)]; done)) nn 0 (Nat.zero_add _) rfl
              rw [show q_hdy (M 127) (M 129) vn 0 = 0 by have := q_hdy_le (M 127) (M 129) vn 0; omega, Nat.zero_mul, Nat.add_zero] at e
              refine e.mono (fun r M8 h8 => ?_)
              obtain ⟨a9, ea, eb, ec⟩ := h8
              subst ec
              exact ⟨a9, ea, CQ.of hI9 hF hk9 (eb.trans (by unfold pa_above; rw [if_neg (by omega), if_pos (by omega), Int.toNat_natCast, Int.toNat_natCast])) (by unfold pa_above; rw [if_neg (by omega), if_pos (by omega)]) (by decide)⟩
          · have h32 := if_nne0 h32
            refine p_aload_n 36 dX11_above_35 rfl rfl (by decide) ?_
            refine p_iconst 37 dX11_above_36 ?_
            refine p_callV1i 0 40 dX11_above_37 s_refuse lk_X11_73 mX11_refuse rfl rfl (by decide) (Nat.le_of_ble_eq_true rfl) ?_
            rintro _ _ ⟨rfl, rfl⟩
            refine p_iret dX11_above_40 rfl ?_
            exact ⟨_, rfl, CQ.of hI hF (fun k _ => rfl) (by unfold pa_above; (repeat' split) <;> first | rfl | (exfalso; omega)) (by unfold pa_above; (repeat' split) <;> first | rfl | (exfalso; omega)) (by decide)⟩
    · refine p_aload_n 11 dX11_above_10 rfl rfl (by decide) ?_
      refine p_iconst 12 dX11_above_11 ?_
      refine p_callV1i 0 15 dX11_above_12 s_refuse lk_X11_73 mX11_refuse rfl rfl (by decide) (Nat.le_of_ble_eq_true rfl) ?_
      rintro _ _ ⟨rfl, rfl⟩
      refine p_iret dX11_above_15 rfl ?_
      exact ⟨_, rfl, CQ.of hI hF (fun k _ => rfl) (by unfold pa_above; (repeat' split) <;> first | rfl | (exfalso; omega)) (by unfold pa_above; (repeat' split) <;> first | rfl | (exfalso; omega)) (by decide)⟩
  · have hto : M 25 0 = M 124 14 := hC.1.1
    have hla : M 25 1 = M 127 0 := hC.1.2.1
    have hsn : M 25 2 = M 127 1 := hC.1.2.2.1
    have hcs : M 26 0 = M 127 2 := hC.1.2.2.2.1
    have hca : M 31 0 = M 127 3 := hC.1.2.2.2.2.1
    have hcw : M 36 0 = M 127 4 := hC.1.2.2.2.2.2.1
    have hcb : M 36 1 = M 127 5 := hC.1.2.2.2.2.2.2.1
    have hcor : M 42 0 = M 127 6 := hC.1.2.2.2.2.2.2.2.1
    have hcn : M 42 4 = M 127 7 := hC.1.2.2.2.2.2.2.2.2
    have b2 := bR.2.2.1
    have b3 := bR.2.2.2.1
    have hTl := q_T_le hR (n := q_n (M 127) 3) (by omega)
    change q_T (M 127) ≤ 365 at hTl
    have hAl := q_all_le_T (M 127)
    have htl := q_tst_lt hR
    have hel := q_eh_le hR
    refine p_aload_n 1 dX11_above_0 rfl rfl (by decide) ?_
    refine p_getR 0 4 dX11_above_1 fX11_16 rfl hco ?_
    refine p_getI 25 7 dX11_above_4 fX11_114 rfl ?_
    rw [hto]
    refine p_if_ne 16 10 dX11_above_7 (by omega) (by omega) (fun h7 => ?_) (fun h7 => ?_)
    · have h1 : M 124 14 = 1 := by omega
      have hR1 := hF.r1 h1
      refine p_iload_n 17 dX11_above_16 rfl rfl ?_
      refine p_if_lt 35 20 dX11_above_17 (by omega) (by omega) (fun h17 => ?_) (fun h17 => ?_)
      · refine p_aload_n 36 dX11_above_35 rfl rfl (by decide) ?_
        refine p_iconst 37 dX11_above_36 ?_
        refine p_callV1i 0 40 dX11_above_37 s_refuse lk_X11_73 mX11_refuse rfl rfl (by decide) (Nat.le_of_ble_eq_true rfl) ?_
        rintro _ _ ⟨rfl, rfl⟩
        refine p_iret dX11_above_40 rfl ?_
        exact ⟨_, rfl, CQ.of hI hF (fun k _ => rfl) (by unfold pa_above; (repeat' split) <;> first | rfl | (exfalso; omega)) (by unfold pa_above; (repeat' split) <;> first | rfl | (exfalso; omega)) (by decide)⟩
      · refine p_iload_n 21 dX11_above_20 rfl rfl ?_
        refine p_sipush 24 dX11_above_21 rfl ?_
        refine p_icmp_gt 35 27 dX11_above_24 (by omega) (by omega) (by omega) (by omega) (fun h24 => ?_) (fun h24 => ?_)
        · refine p_aload_n 36 dX11_above_35 rfl rfl (by decide) ?_
          refine p_iconst 37 dX11_above_36 ?_
          refine p_callV1i 0 40 dX11_above_37 s_refuse lk_X11_73 mX11_refuse rfl rfl (by decide) (Nat.le_of_ble_eq_true rfl) ?_
          rintro _ _ ⟨rfl, rfl⟩
          refine p_iret dX11_above_40 rfl ?_
          exact ⟨_, rfl, CQ.of hI hF (fun k _ => rfl) (by unfold pa_above; (repeat' split) <;> first | rfl | (exfalso; omega)) (by unfold pa_above; (repeat' split) <;> first | rfl | (exfalso; omega)) (by decide)⟩
        · refine p_iload_n 28 dX11_above_27 rfl rfl ?_
          refine p_iload_n 29 dX11_above_28 rfl rfl ?_
          refine p_callS2i 32 dX11_above_29 (s_isWinter (by omega) (by omega) (by omega) (by omega)) lk_X11_316 mX11_isWinter (by decide) (Nat.le_of_ble_eq_true rfl) ?_
          rintro _ _ ⟨rfl, e9⟩
          have e9 := e9.symm
          subst e9
          refine p_if_ne 41 35 dX11_above_32 (by split <;> omega) (by split <;> omega) (fun h32 => ?_) (fun h32 => ?_)
          · have h32 := if_ne0 h32
            obtain ⟨vn, rfl⟩ : ∃ k : Nat, v = (k : Int) := ⟨v.toNat, by omega⟩
            obtain ⟨nn, rfl⟩ : ∃ k : Nat, n = (k : Int) := ⟨n.toNat, by omega⟩
            have hhl := q_hdy_le (M 127) (M 129) vn nn
            refine p_aload_n 42 dX11_above_41 rfl rfl (by decide) ?_
            refine p_getR 0 45 dX11_above_42 fX11_47 rfl (hW (0, 10, 112) (by decide)) ?_
            refine p_aload_n 46 dX11_above_45 rfl rfl (by decide) ?_
            refine p_getR 0 49 dX11_above_46 fX11_16 rfl hco ?_
            refine p_callV1v 112 52 dX11_above_49 (s_learnT (Or.inr rfl : isC 25) hW hC hR hten) lk_X11_187 mX9_learn rfl rfl (by decide) (Nat.le_of_ble_eq_true rfl) ?_
            intro M9 h9
            obtain ⟨g1, g2, g3, g4⟩ := h9
            have hI9 : IC M M9 := hI.learnT hF g1 g2 g3 g4
            have hk9 : ∀ k, 124 ≤ k → M9 k = M k := fun k hk => g1 k (by omega)
            have hW := hI9.1
            have hC : ICc (M 127) (M 124 14) 25 M9 := hC.congr (fun a _ _ => g1 a (by omega))
            have hcs : M9 26 0 = M 127 2 := hC.1.2.2.2.1
            have hca : M9 31 0 = M 127 3 := hC.1.2.2.2.2.1
            have hsn : M9 25 2 = M 127 1 := hC.1.2.2.1
            have hco : M9 0 5 = 25 := (congrFun (g1 0 (by omega)) 5).trans hco
            have hN : ICn (M 129) (M 124 14) 49 M9 := hN.congr (g1 _ (by omega)) (g1 _ (by omega)) (g1 _ (by omega))
            have hwo : M9 49 3 = M 129 16 := hN.2.2.2.1
            refine p_aload_n 53 dX11_above_52 rfl rfl (by decide) ?_
            refine p_getR 0 56 dX11_above_53 fX11_33 rfl (hW (0, 8, 49) (by decide)) ?_
            refine p_getI 49 59 dX11_above_56 fX11_170 rfl ?_
            rw [hwo]
            refine p_if_eq 66 62 dX11_above_59 (by omega) (by omega) (fun h59 => ?_) (fun h59 => ?_)
            · refine p_aload_n 67 dX11_above_66 rfl rfl (by decide) ?_
              refine p_getR 0 70 dX11_above_67 fX11_16 rfl hco ?_
              refine p_aload_n 71 dX11_above_70 rfl rfl (by decide) ?_
              refine p_getR 0 74 dX11_above_71 fX11_47 rfl (hW (0, 10, 112) (by decide)) ?_
              refine p_getI 112 77 dX11_above_74 fX11_201 rfl ?_
              rw [show M9 112 2 = (q_tst (M 127) : Int) from g4.2.1]
              refine p_callV1i 25 80 dX11_above_77 (s_dayHarmOfAll_25 hW hC hR (S := q_tst (M 127)) (by omega)) lk_X11_181 mX0_dayHarmOfAll rfl rfl (by decide) (Nat.le_of_ble_eq_true rfl) ?_
              rintro _ _ ⟨rfl, e9⟩
              have e9 := e9.symm
              subst e9
              refine p_istore 82 dX11_above_80 (Nat.le_of_ble_eq_true rfl) rfl rfl ?_
              dsimp only [List.set]
              refine p_aload_n 83 dX11_above_82 rfl rfl (by decide) ?_
              refine p_getR 0 86 dX11_above_83 fX11_33 rfl (hW (0, 8, 49) (by decide)) ?_
              refine p_callV0i 49 89 dX11_above_86 (s_allHarm hW (τ := M 129) (by rw [← h1]; exact hN) hT hR) lk_X11_184 mX3_allHarm rfl rfl (by decide) (Nat.le_of_ble_eq_true rfl) ?_
              rintro _ _ ⟨rfl, e9⟩
              have e9 := e9.symm
              subst e9
              refine p_istore 91 dX11_above_89 (Nat.le_of_ble_eq_true rfl) rfl rfl ?_
              dsimp only [List.set]
              refine p_iload_n 92 dX11_above_91 rfl rfl ?_
              refine p_istore 94 dX11_above_92 (Nat.le_of_ble_eq_true rfl) rfl rfl ?_
              dsimp only [List.set]
              refine p_iconst 95 dX11_above_94 ?_
              refine p_istore 97 dX11_above_95 (Nat.le_of_ble_eq_true rfl) rfl rfl ?_
              dsimp only [List.set]
              have e := l_above (l := l) (X := X) (M := M9) (Or.inr rfl : isC 25) hW hC hR hco hT (v := vn) (n := nn) (m := m) (by omega) (by omega) (by omega) (by omega) (ea := q_eh (M 127)) (by first | (rw [if_pos (by omega)]; done) | (rw [if_neg (by omega)]; done)) nn 0 (Nat.zero_add _) rfl
              rw [show q_hdy (M 127) (M 129) vn 0 = 0 by have := q_hdy_le (M 127) (M 129) vn 0; omega, Nat.zero_mul, Nat.add_zero] at e
              refine e.mono (fun r M8 h8 => ?_)
              obtain ⟨a9, ea, eb, ec⟩ := h8
              subst ec
              exact ⟨a9, ea, CQ.of hI9 hF hk9 (eb.trans (by unfold pa_above; rw [if_neg (by omega), if_pos (by omega), Int.toNat_natCast, Int.toNat_natCast])) (by unfold pa_above; rw [if_neg (by omega), if_pos (by omega)]) (by decide)⟩
            · refine p_iconst 63 dX11_above_62 ?_
              refine p_goto 80 dX11_above_63 ?_
              refine p_istore 82 dX11_above_80 (Nat.le_of_ble_eq_true rfl) rfl rfl ?_
              dsimp only [List.set]
              refine p_aload_n 83 dX11_above_82 rfl rfl (by decide) ?_
              refine p_getR 0 86 dX11_above_83 fX11_33 rfl (hW (0, 8, 49) (by decide)) ?_
              refine p_callV0i 49 89 dX11_above_86 (s_allHarm hW (τ := M 129) (by rw [← h1]; exact hN) hT hR) lk_X11_184 mX3_allHarm rfl rfl (by decide) (Nat.le_of_ble_eq_true rfl) ?_
              rintro _ _ ⟨rfl, e9⟩
              have e9 := e9.symm
              subst e9
              refine p_istore 91 dX11_above_89 (Nat.le_of_ble_eq_true rfl) rfl rfl ?_
              dsimp only [List.set]
              refine p_iload_n 92 dX11_above_91 rfl rfl ?_
              refine p_istore 94 dX11_above_92 (Nat.le_of_ble_eq_true rfl) rfl rfl ?_
              dsimp only [List.set]
              refine p_iconst 95 dX11_above_94 ?_
              refine p_istore 97 dX11_above_95 (Nat.le_of_ble_eq_true rfl) rfl rfl ?_
              dsimp only [List.set]
              have e := l_above (l := l) (X := X) (M := M9) (Or.inr rfl : isC 25) hW hC hR hco hT (v := vn) (n := nn) (m := m) (by omega) (by omega) (by omega) (by omega) (ea := 0) (by first | (rw [if_pos (by omega)]; done) | (rw [if_neg (by omega)]; done)) nn 0 (Nat.zero_add _) rfl
              rw [show q_hdy (M 127) (M 129) vn 0 = 0 by have := q_hdy_le (M 127) (M 129) vn 0; omega, Nat.zero_mul, Nat.add_zero] at e
              refine e.mono (fun r M8 h8 => ?_)
              obtain ⟨a9, ea, eb, ec⟩ := h8
              subst ec
              exact ⟨a9, ea, CQ.of hI9 hF hk9 (eb.trans (by unfold pa_above; rw [if_neg (by omega), if_pos (by omega), Int.toNat_natCast, Int.toNat_natCast])) (by unfold pa_above; rw [if_neg (by omega), if_pos (by omega)]) (by decide)⟩
          · have h32 := if_nne0 h32
            refine p_aload_n 36 dX11_above_35 rfl rfl (by decide) ?_
            refine p_iconst 37 dX11_above_36 ?_
            refine p_callV1i 0 40 dX11_above_37 s_refuse lk_X11_73 mX11_refuse rfl rfl (by decide) (Nat.le_of_ble_eq_true rfl) ?_
            rintro _ _ ⟨rfl, rfl⟩
            refine p_iret dX11_above_40 rfl ?_
            exact ⟨_, rfl, CQ.of hI hF (fun k _ => rfl) (by unfold pa_above; (repeat' split) <;> first | rfl | (exfalso; omega)) (by unfold pa_above; (repeat' split) <;> first | rfl | (exfalso; omega)) (by decide)⟩
    · refine p_aload_n 11 dX11_above_10 rfl rfl (by decide) ?_
      refine p_iconst 12 dX11_above_11 ?_
      refine p_callV1i 0 15 dX11_above_12 s_refuse lk_X11_73 mX11_refuse rfl rfl (by decide) (Nat.le_of_ble_eq_true rfl) ?_
      rintro _ _ ⟨rfl, rfl⟩
      refine p_iret dX11_above_15 rfl ?_
      exact ⟨_, rfl, CQ.of hI hF (fun k _ => rfl) (by unfold pa_above; (repeat' split) <;> first | rfl | (exfalso; omega)) (by unfold pa_above; (repeat' split) <;> first | rfl | (exfalso; omega)) (by decide)⟩
