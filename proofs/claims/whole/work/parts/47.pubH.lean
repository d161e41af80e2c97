/-- the words that may still be said -/
def q_ts (ρ τ : Nat → Int) : Nat := if 0 < τ 16 then 0 else q_un (q_n ρ 4) (τ 14).toNat
theorem q_ts_eq (ρ τ : Nat → Int) : (if 0 < τ 16 then (0 : Int) else (q_un (q_n ρ 4) (τ 14).toNat : Int)) = (q_ts ρ τ : Int) := by
  unfold q_ts
  split <;> rfl
theorem q_ts_lt (ρ τ : Nat → Int) : q_ts ρ τ < 2 ^ q_n ρ 4 := by
  unfold q_ts
  split
  · exact Nat.two_pow_pos _
  · exact q_un_lt _ _
theorem q_ts_un {ρ τ : Nat → Int} (h : ¬ 0 < τ 16) : q_un (q_n ρ 4) (τ 14).toNat = q_ts ρ τ := by
  unfold q_ts
  rw [if_neg h]
theorem q_ts_w {ρ τ : Nat → Int} (h : 0 < τ 16) : q_ts ρ τ = 0 := by
  unfold q_ts
  rw [if_pos h]
theorem q_c8 {S : Nat} (h : S < 128) : q_cntp (fun k => S.testBit k) 8 = q_c7 S := by
  show q_cntp (fun k => S.testBit k) 7 + (if S.testBit 7 = true then 1 else 0) = _
  rw [Nat.testBit_lt_two_pow (show S < 2 ^ 7 from h), if_neg (by decide)]
  rfl
theorem q_odds_pos {ρ : Nat → Int} (hR : wfR ρ) (hR1 : wfR1 ρ) {S : Nat} (h0 : S ≠ 0) (hS : S < 2 ^ q_n ρ 4) : 0 < q_odds (q_n ρ) S := by
  have e4 : ρ 4 = (q_n ρ 4 : Int) := hR.n (by decide)
  have b4 := hR.2.1.2.2.2.2.1
  have hp7 := p7 (n := q_n ρ 4) (by omega)
  have hb := q_ntz_bit S (by omega) h0
  have hw : q_ntz S < q_n ρ 4 := testBit_lt hS hb
  have h1 := (hR1.2.2.2.2.1 (q_ntz S) (by omega)).1
  rw [q_odds_del (by omega) hw hb]
  have e : ρ (38 + 3 * q_ntz S) = (q_n ρ (38 + 3 * q_ntz S) : Int) := hR.n (by omega)
  omega
theorem IC.learn {s M M' : ZM} (h : IC s M) (hF : WF s) (h1 : ∀ a, a < 115 ∨ 120 < a → M' a = M a) (h2 : ∀ k, k ≠ 0 → M' 115 k = M 115 k) (h3 : M' 115 0 = 1) (h4 : ICs (s 127) M') : IC s M' := by
  obtain ⟨i1, ⟨c, c', hcc, hc1, hc2, hc3⟩, ⟨j1, j2, j3, j4, j5⟩, i4, ⟨p1, p2, top, ht, p3, p4, p5⟩, i6, ⟨iz, i7⟩, i8⟩ := id h
  have h0 := h4 0 (Nat.two_pow_pos _)
  have hm3 := hF.m
  refine ⟨?_, ⟨c, c', hcc, ?_, ?_, hc3.congr (fun a g1 g2 => h1 a (by omega))⟩, ⟨?_, fun i hi => ?_, ?_, ?_, fun h9 => ?_⟩, i4.congr (h1 _ (by omega)) (h1 _ (by omega)) (h1 _ (by omega)), ⟨?_, ?_, top, ht, ?_, fun j hj => ?_, fun j hj => ?_⟩, ?_, ⟨⟨?_, ?_, ?_, ?_⟩, Or.inr ⟨h3, h4⟩⟩, ?_⟩
  · refine i1.fr (fun q hq => ?_)
    have hr : ∀ q ∈ zwC, q.1 < 116 ∨ 120 < q.1 := by decide +kernel
    have hr2 : ∀ q ∈ zwC, q.1 = 115 → q.2.1 ≠ 0 := by decide +kernel
    have g := hr q hq
    by_cases e : q.1 = 115
    · rw [e]
      exact h2 _ (hr2 q hq e)
    · rw [h1 _ (by omega)]
  · rw [h1 0 (by omega)]; exact hc1
  · rw [h1 0 (by omega)]; exact hc2
  · rw [h1 0 (by omega)]; exact j1
  · rw [h1 1 (by omega)]; exact j2 i hi
  · rw [h1 0 (by omega)]; exact j3
  · rw [h1 0 (by omega)]; exact j4
  · rw [h1 0 (by omega)]; exact j5 h9
  · rw [h1 52 (by omega)]; exact p1
  · rw [h1 52 (by omega)]; exact p2
  · rw [h1 52 (by omega)]; exact p3
  · have hm : (top + 16 - (s 124 20).toNat + j) % 16 < 16 := Nat.mod_lt _ (by decide)
    exact (p4 j hj).congr (h1 _ (by omega)) (h1 _ (by omega)) (h1 _ (by omega))
  · exact (p5 j hj).congr (h1 _ (by omega)) (h1 _ (by omega)) (h1 _ (by omega))
  · rw [h1 112 (by omega)]
    exact i6.imp id (fun g => ⟨g.1, g.2.congr (h1 _ (by omega)) (h1 _ (by omega)) (h1 _ (by omega))⟩)
  · rw [h0.1]
    unfold q_odds
    rw [q_sum0 (fun i => by rw [Nat.zero_testBit]; rfl)]
    rfl
  · rw [h0.2.1]
    unfold q_mins
    rw [q_sum0 (fun i => by rw [Nat.zero_testBit]; rfl)]
    rfl
  · rw [h0.2.2.1, q_needs_congr (S := 0) (T := 0) (fun _ _ => rfl)]
    have hn : ∀ n, q_needs (q_n (s 127)) 0 n = 0 := by
      intro n
      induction n with
      | zero => rfl
      | succ n ih =>
        show (if (0 : Nat).testBit n = true then _ else _) = 0
        rw [Nat.zero_testBit, if_neg (by decide), ih]
    rw [hn]
    rfl
  · rw [h0.2.2.2.1]
    rfl
  · rw [h1 121 (by omega)]
    exact i8.imp id (fun g => ⟨g.1, g.2.congr (h1 _ (by omega))⟩)
def pa_chance (h : Int) (ρ τ : Nat → Int) (w b : Int) : Int × Int := if h = 0 ∨ w < 0 ∨ ρ 4 ≤ w then (-1, 1) else if (q_ts ρ τ).testBit w.toNat = true then (q_low (q_n ρ (38 + 3 * w.toNat)) (q_odds (q_n ρ) (q_ts ρ τ)) b, 0) else (q_low 0 1 b, 0)
def pa_mean (h : Int) (ρ τ : Nat → Int) (b : Int) : Int × Int := if h = 0 then (-1, 1) else if q_ts ρ τ = 0 then (q_low 0 1 b, 0) else (q_low (q_cost (q_n ρ) 7 (q_ts ρ τ)) (q_odds (q_n ρ) (q_ts ρ τ)) b, 0)
def pa_searchAt (h : Int) (ρ τ : Nat → Int) (i : Int) : Int × Int := if h = 0 ∨ i < 0 ∨ (q_c7 (q_ts ρ τ) : Int) ≤ i then (-1, 1) else ((q_seq (q_n ρ) (q_ts ρ τ) i.toNat : Int), 0)
def pa_meanFirst (h : Int) (ρ τ : Nat → Int) (w b : Int) : Int × Int := if h = 0 ∨ w < 0 ∨ ρ 4 ≤ w then (-1, 1) else if q_say ρ τ w.toNat = true then (q_low (q_cf (q_n ρ) (q_ts ρ τ) w.toNat) (q_odds (q_n ρ) (q_ts ρ τ)) b, 0) else (-1, 5)
def pa_within (h : Int) (ρ τ : Nat → Int) (m b : Int) : Int × Int := if h = 0 then (-1, 1) else if m < 0 ∨ 300 < m then (-1, 2) else if q_ts ρ τ = 0 then (q_low 0 1 b, 0) else (q_low (q_odds (q_n ρ) (q_lk ρ (q_ts ρ τ) m (q_ts ρ τ + 1))) (q_odds (q_n ρ) (q_ts ρ τ)) b, 0)
def pa_withinWords (h : Int) (ρ τ : Nat → Int) (m : Int) : Int × Int := if h = 0 then (-1, 1) else if m < 0 ∨ 300 < m then (-1, 2) else ((q_lk ρ (q_ts ρ τ) m (q_ts ρ τ + 1) : Int), 0)
def pa_rows (h : Int) (ρ τ : Nat → Int) : Int × Int := if h = 0 then (-1, 1) else ((q_rows (q_n ρ) 7 (q_un (q_n ρ 4) (τ 14).toNat) : Int), 0)
theorem c_chance {l : Launch} {X : ZX} {M : ZM} (hI : IC M M) (hF : WF M) {w b : Int} (hw1 : -2147483648 ≤ w) (hw2 : w < 2147483648) (hb : b = 0 ∨ b = 1) : zCl l X 4 yX11_chance tX11_chance [zr 0, zi w, zi b] M (CQ M (pa_chance (M 124 14) (M 127) (M 129) w b)) := by
  obtain ⟨hW, ⟨c, c', hcc, hco, hsp, hC⟩, ⟨j1, j2, j3, j4, j5⟩, hN, hpast, hten, ⟨hz0, hsea⟩, hfit⟩ := id hI
  have hR := hF.r
  have hT := hF.t
  have hh := hF.h
  have e0 : M 127 0 = (q_n (M 127) 0 : Int) := hR.n (by decide)
  have e2 : M 127 2 = (q_n (M 127) 2 : Int) := hR.n (by decide)
  have e3 : M 127 3 = (q_n (M 127) 3 : Int) := hR.n (by decide)
  have e4 : M 127 4 = (q_n (M 127) 4 : Int) := hR.n (by decide)
  have bR := hR.2.1
  have h20 : M 124 14 = 0 → M 127 2 = 0 := fun h => hF.r0 h 2 (by decide)
  have h30 : M 124 14 = 0 → M 127 3 = 0 := fun h => hF.r0 h 3 (by decide)
  have h40 : M 124 14 = 0 → M 127 4 = 0 := fun h => hF.r0 h 4 (by decide)
  have hwo : M 49 3 = M 129 16 := hN.2.2.2.1
  have t160 := hT.1 16 (by decide)
  have t161 := hT.2.2.2.2.1
  refine zC.of [some (zr 0), some (zi w), some (zi b)] (by decide +kernel) rfl rfl (Nat.le_of_ble_eq_true rfl) rfl ?_
  rcases hcc with ⟨rfl, rfl⟩ | ⟨rfl, rfl⟩
  · have hto : M 2 0 = M 124 14 := hC.1.1
    have hla : M 2 1 = M 127 0 := hC.1.2.1
    have hsn : M 2 2 = M 127 1 := hC.1.2.2.1
    have hcs : M 3 0 = M 127 2 := hC.1.2.2.2.1
    have hca : M 8 0 = M 127 3 := hC.1.2.2.2.2.1
    have hcw : M 13 0 = M 127 4 := hC.1.2.2.2.2.2.1
    have hcb : M 13 1 = M 127 5 := hC.1.2.2.2.2.2.2.1
    have hcor : M 19 0 = M 127 6 := hC.1.2.2.2.2.2.2.2.1
    have hcn : M 19 4 = M 127 7 := hC.1.2.2.2.2.2.2.2.2
    have b4 := bR.2.2.2.2.1
    have hp7 := p7 (n := q_n (M 127) 4) (by omega)
    have htl := q_ts_lt (M 127) (M 129)
    have hto7 : q_ts (M 127) (M 129) < 128 := by omega
    have hol := q_odds_le hR (q_ts (M 127) (M 129))
    have hkl := q_cost_le hR 7 (q_ts (M 127) (M 129))
    refine p_aload_n 1 dX11_chance_0 rfl rfl (by decide) ?_
    refine p_iload_n 2 dX11_chance_1 rfl rfl ?_
    refine p_callV1i 0 5 dX11_chance_2 (s_isWord_2 hW hC hR hco (by omega) (by omega)) lk_X11_208 mX11_isWord rfl rfl (by decide) (Nat.le_of_ble_eq_true rfl) ?_
    rintro _ _ ⟨rfl, e9⟩
    have e9 := e9.symm
    subst e9
    refine p_if_ne 15 8 dX11_chance_5 (by split <;> omega) (by split <;> omega) (fun h5 => ?_) (fun h5 => ?_)
    · have h5 := if_ne0 h5
      obtain ⟨n, rfl⟩ : ∃ k : Nat, w = (k : Int) := ⟨w.toNat, by omega⟩
      have h1 : M 124 14 = 1 := by omega
      have hR1 := hF.r1 h1
      have zb := z_bit0 (a := (q_ts (M 127) (M 129))) (i := n) (by omega) (by omega)
      have eo : M 127 (38 + 3 * n) = (q_n (M 127) (38 + 3 * n) : Int) := hR.n (by omega)
      have hbo := (hR.2.2.2.2.1 n (by omega)).1
      refine p_aload_n 16 dX11_chance_15 rfl rfl (by decide) ?_
      refine p_callV0i 0 19 dX11_chance_16 (s_toSay_2 hW hC hR hco hN hT) lk_X11_232 mX11_toSay rfl rfl (by decide) (Nat.le_of_ble_eq_true rfl) ?_
      rintro _ _ ⟨rfl, e9⟩
      have e9 := e9.symm
      subst e9
      rw [q_ts_eq]
      refine p_iload_n 20 dX11_chance_19 rfl rfl ?_
      refine p_callS1i 23 dX11_chance_20 (s_bit (i := n) (by omega)) lk_X11_226 mX11_bit (by decide) (Nat.le_of_ble_eq_true rfl) ?_
      rintro _ _ ⟨rfl, e9⟩
      have e9 := e9.symm
      subst e9
      refine p_iand 24 dX11_chance_23 ?_
      refine p_if_ne 35 27 dX11_chance_24 (by omega) (by omega) (fun h24 => ?_) (fun h24 => ?_)
      · have hbt : (q_ts (M 127) (M 129)).testBit n = true := by
          cases g : (q_ts (M 127) (M 129)).testBit n with
          | false => exact absurd (zb.1.mpr g) h24
          | true => rfl
        have hne : (q_ts (M 127) (M 129)) ≠ 0 := fun e => by rw [e, Nat.zero_testBit] at hbt; cases hbt
        have hop := q_odds_pos hR hR1 hne htl
        refine p_aload_n 36 dX11_chance_35 rfl rfl (by decide) ?_
        refine p_getR 0 39 dX11_chance_36 fX11_54 rfl (hW (0, 11, 115) (by decide)) ?_
        refine p_aload_n 40 dX11_chance_39 rfl rfl (by decide) ?_
        refine p_getR 0 43 dX11_chance_40 fX11_16 rfl hco ?_
        refine p_getR 2 46 dX11_chance_43 fX11_211 rfl (hW (2, 5, 13) (by decide)) ?_
        refine p_callV1v 115 49 dX11_chance_46 (s_learnS (Or.inl rfl : isC 2) hW hC hR hR1.ex hz0 hsea) lk_X11_239 mX7_learn rfl rfl (by decide) (Nat.le_of_ble_eq_true rfl) ?_
        intro M9 h9
        obtain ⟨g1, g2, g3, g4⟩ := h9
        have hI9 : IC M M9 := hI.learn hF g1 g2 g3 g4
        have hk9 : ∀ k, 124 ≤ k → M9 k = M k := fun k hk => g1 k (by omega)
        have hW := hI9.1
        have hC : ICc (M 127) (M 124 14) 2 M9 := hC.congr (fun a _ _ => g1 a (by omega))
        have hco : M9 0 5 = 2 := (congrFun (g1 0 (by omega)) 5).trans hco
        have hN : ICn (M 129) (M 124 14) 49 M9 := hN.congr (g1 _ (by omega)) (g1 _ (by omega)) (g1 _ (by omega))
        refine p_aload_n 50 dX11_chance_49 rfl rfl (by decide) ?_
        refine p_aload_n 51 dX11_chance_50 rfl rfl (by decide) ?_
        refine p_getR 0 54 dX11_chance_51 fX11_16 rfl hco ?_
        refine p_getR 2 57 dX11_chance_54 fX11_211 rfl (hW (2, 5, 13) (by decide)) ?_
        refine p_getR 13 60 dX11_chance_57 fX11_215 rfl (hW (13, 3, 15) (by decide)) ?_
        refine p_iload_n 61 dX11_chance_60 rfl rfl ?_
        refine p_ialdn 15 62 (n) dX11_chance_61 rfl (by omega) (by omega) ?_
        rw [(hC.2.2.2.1 n (by omega)).1, eo]
        refine p_aload_n 63 dX11_chance_62 rfl rfl (by decide) ?_
        refine p_getR 0 66 dX11_chance_63 fX11_54 rfl (hW (0, 11, 115) (by decide)) ?_
        refine p_aload_n 67 dX11_chance_66 rfl rfl (by decide) ?_
        refine p_callV0i 0 70 dX11_chance_67 (s_toSay_2 hW hC hR hco hN hT) lk_X11_232 mX11_toSay rfl rfl (by decide) (Nat.le_of_ble_eq_true rfl) ?_
        rintro _ _ ⟨rfl, e9⟩
        have e9 := e9.symm
        subst e9
        rw [q_ts_eq]
        refine p_callV1i 115 73 dX11_chance_70 (s_oddsOfS hW hR g4 htl) lk_X11_242 mX7_oddsOf rfl rfl (by decide) (Nat.le_of_ble_eq_true rfl) ?_
        rintro _ _ ⟨rfl, e9⟩
        have e9 := e9.symm
        subst e9
        refine p_iload_n 74 dX11_chance_73 rfl rfl ?_
        refine p_callV3l 0 77 dX11_chance_74 (s_grantPart (u := q_n (M 127) (38 + 3 * n)) (v := (q_odds (q_n (M 127)) (q_ts (M 127) (M 129)))) hb (by omega) (by omega) (by omega)) lk_X11_235 mX11_grantPart rfl rfl (by decide) (Nat.le_of_ble_eq_true rfl) ?_
        rintro _ _ ⟨rfl, e9⟩
        have e9 := e9.symm
        subst e9
        refine p_lret dX11_chance_77 rfl ?_
        exact ⟨_, rfl, CQ.of hI9 hF hk9 (by unfold pa_chance; rw [if_neg (by omega), Int.toNat_natCast, if_pos hbt]) (by unfold pa_chance; rw [if_neg (by omega), Int.toNat_natCast, if_pos hbt]) (by decide)⟩
      · have hbt : (q_ts (M 127) (M 129)).testBit n = false := zb.1.mp (by omega)
        refine p_aload_n 28 dX11_chance_27 rfl rfl (by decide) ?_
        refine p_iconst 29 dX11_chance_28 ?_
        refine p_iconst 30 dX11_chance_29 ?_
        refine p_iload_n 31 dX11_chance_30 rfl rfl ?_
        refine p_callV3l 0 34 dX11_chance_31 (s_grantPart (u := 0) (v := 1) hb (by omega) (by omega) (by omega)) lk_X11_235 mX11_grantPart rfl rfl (by decide) (Nat.le_of_ble_eq_true rfl) ?_
        rintro _ _ ⟨rfl, e9⟩
        have e9 := e9.symm
        subst e9
        refine p_lret dX11_chance_34 rfl ?_
        exact ⟨_, rfl, CQ.of hI hF (fun k _ => rfl) (by unfold pa_chance; rw [if_neg (by omega), Int.toNat_natCast, hbt, if_neg (by decide)]) (by unfold pa_chance; rw [if_neg (by omega), Int.toNat_natCast, hbt, if_neg (by decide)]) (by decide)⟩
    · have h5 := if_nne0 h5
      refine p_aload_n 9 dX11_chance_8 rfl rfl (by decide) ?_
      refine p_iconst 10 dX11_chance_9 ?_
      refine p_callV1i 0 13 dX11_chance_10 s_refuse lk_X11_73 mX11_refuse rfl rfl (by decide) (Nat.le_of_ble_eq_true rfl) ?_
      rintro _ _ ⟨rfl, rfl⟩
      refine p_i2l 14 dX11_chance_13 ?_
      refine p_lret dX11_chance_14 rfl ?_
      exact ⟨_, rfl, CQ.of hI hF (fun k _ => rfl) (by unfold pa_chance; (repeat' split) <;> first | rfl | (exfalso; omega)) (by unfold pa_chance; (repeat' split) <;> first | rfl | (exfalso; omega)) (by decide)⟩
  · have hto : M 25 0 = M 124 14 := hC.1.1
    have hla : M 25 1 = M 127 0 := hC.1.2.1
    have hsn : M 25 2 = M 127 1 := hC.1.2.2.1
    have hcs : M 26 0 = M 127 2 := hC.1.2.2.2.1
    have hca : M 31 0 = M 127 3 := hC.1.2.2.2.2.1
    have hcw : M 36 0 = M 127 4 := hC.1.2.2.2.2.2.1
    have hcb : M 36 1 = M 127 5 := hC.1.2.2.2.2.2.2.1
    have hcor : M 42 0 = M 127 6 := hC.1.2.2.2.2.2.2.2.1
    have hcn : M 42 4 = M 127 7 := hC.1.2.2.2.2.2.2.2.2
    have b4 := bR.2.2.2.2.1
    have hp7 := p7 (n := q_n (M 127) 4) (by omega)
    have htl := q_ts_lt (M 127) (M 129)
    have hto7 : q_ts (M 127) (M 129) < 128 := by omega
    have hol := q_odds_le hR (q_ts (M 127) (M 129))
    have hkl := q_cost_le hR 7 (q_ts (M 127) (M 129))
    refine p_aload_n 1 dX11_chance_0 rfl rfl (by decide) ?_
    refine p_iload_n 2 dX11_chance_1 rfl rfl ?_
    refine p_callV1i 0 5 dX11_chance_2 (s_isWord_25 hW hC hR hco (by omega) (by omega)) lk_X11_208 mX11_isWord rfl rfl (by decide) (Nat.le_of_ble_eq_true rfl) ?_
    rintro _ _ ⟨rfl, e9⟩
    have e9 := e9.symm
    subst e9
    refine p_if_ne 15 8 dX11_chance_5 (by split <;> omega) (by split <;> omega) (fun h5 => ?_) (fun h5 => ?_)
    · have h5 := if_ne0 h5
      obtain ⟨n, rfl⟩ : ∃ k : Nat, w = (k : Int) := ⟨w.toNat, by omega⟩
      have h1 : M 124 14 = 1 := by omega
      have hR1 := hF.r1 h1
      have zb := z_bit0 (a := (q_ts (M 127) (M 129))) (i := n) (by omega) (by omega)
      have eo : M 127 (38 + 3 * n) = (q_n (M 127) (38 + 3 * n) : Int) := hR.n (by omega)
      have hbo := (hR.2.2.2.2.1 n (by omega)).1
      refine p_aload_n 16 dX11_chance_15 rfl rfl (by decide) ?_
      refine p_callV0i 0 19 dX11_chance_16 (s_toSay_25 hW hC hR hco hN hT) lk_X11_232 mX11_toSay rfl rfl (by decide) (Nat.le_of_ble_eq_true rfl) ?_
      rintro _ _ ⟨rfl, e9⟩
      have e9 := e9.symm
      subst e9
      rw [q_ts_eq]
      refine p_iload_n 20 dX11_chance_19 rfl rfl ?_
      refine p_callS1i 23 dX11_chance_20 (s_bit (i := n) (by omega)) lk_X11_226 mX11_bit (by decide) (Nat.le_of_ble_eq_true rfl) ?_
      rintro _ _ ⟨rfl, e9⟩
      have e9 := e9.symm
      subst e9
      refine p_iand 24 dX11_chance_23 ?_
      refine p_if_ne 35 27 dX11_chance_24 (by omega) (by omega) (fun h24 => ?_) (fun h24 => ?_)
      · have hbt : (q_ts (M 127) (M 129)).testBit n = true := by
          cases g : (q_ts (M 127) (M 129)).testBit n with
          | false => exact absurd (zb.1.mpr g) h24
          | true => rfl
        have hne : (q_ts (M 127) (M 129)) ≠ 0 := fun e => by rw [e, Nat.zero_testBit] at hbt; cases hbt
        have hop := q_odds_pos hR hR1 hne htl
        refine p_aload_n 36 dX11_chance_35 rfl rfl (by decide) ?_
        refine p_getR 0 39 dX11_chance_36 fX11_54 rfl (hW (0, 11, 115) (by decide)) ?_
        refine p_aload_n 40 dX11_chance_39 rfl rfl (by decide) ?_
        refine p_getR 0 43 dX11_chance_40 fX11_16 rfl hco ?_
        refine p_getR 25 46 dX11_chance_43 fX11_211 rfl (hW (25, 5, 36) (by decide)) ?_
        refine p_callV1v 115 49 dX11_chance_46 (s_learnS (Or.inr rfl : isC 25) hW hC hR hR1.ex hz0 hsea) lk_X11_239 mX7_learn rfl rfl (by decide) (Nat.le_of_ble_eq_true rfl) ?_
        intro M9 h9
        obtain ⟨g1, g2, g3, g4⟩ := h9
        have hI9 : IC M M9 := hI.learn hF g1 g2 g3 g4
        have hk9 : ∀ k, 124 ≤ k → M9 k = M k := fun k hk => g1 k (by omega)
        have hW := hI9.1
        have hC : ICc (M 127) (M 124 14) 25 M9 := hC.congr (fun a _ _ => g1 a (by omega))
        have hco : M9 0 5 = 25 := (congrFun (g1 0 (by omega)) 5).trans hco
        have hN : ICn (M 129) (M 124 14) 49 M9 := hN.congr (g1 _ (by omega)) (g1 _ (by omega)) (g1 _ (by omega))
        refine p_aload_n 50 dX11_chance_49 rfl rfl (by decide) ?_
        refine p_aload_n 51 dX11_chance_50 rfl rfl (by decide) ?_
        refine p_getR 0 54 dX11_chance_51 fX11_16 rfl hco ?_
        refine p_getR 25 57 dX11_chance_54 fX11_211 rfl (hW (25, 5, 36) (by decide)) ?_
        refine p_getR 36 60 dX11_chance_57 fX11_215 rfl (hW (36, 3, 38) (by decide)) ?_
        refine p_iload_n 61 dX11_chance_60 rfl rfl ?_
        refine p_ialdn 38 62 (n) dX11_chance_61 rfl (by omega) (by omega) ?_
        rw [(hC.2.2.2.1 n (by omega)).1, eo]
        refine p_aload_n 63 dX11_chance_62 rfl rfl (by decide) ?_
        refine p_getR 0 66 dX11_chance_63 fX11_54 rfl (hW (0, 11, 115) (by decide)) ?_
        refine p_aload_n 67 dX11_chance_66 rfl rfl (by decide) ?_
        refine p_callV0i 0 70 dX11_chance_67 (s_toSay_25 hW hC hR hco hN hT) lk_X11_232 mX11_toSay rfl rfl (by decide) (Nat.le_of_ble_eq_true rfl) ?_
        rintro _ _ ⟨rfl, e9⟩
        have e9 := e9.symm
        subst e9
        rw [q_ts_eq]
        refine p_callV1i 115 73 dX11_chance_70 (s_oddsOfS hW hR g4 htl) lk_X11_242 mX7_oddsOf rfl rfl (by decide) (Nat.le_of_ble_eq_true rfl) ?_
        rintro _ _ ⟨rfl, e9⟩
        have e9 := e9.symm
        subst e9
        refine p_iload_n 74 dX11_chance_73 rfl rfl ?_
        refine p_callV3l 0 77 dX11_chance_74 (s_grantPart (u := q_n (M 127) (38 + 3 * n)) (v := (q_odds (q_n (M 127)) (q_ts (M 127) (M 129)))) hb (by omega) (by omega) (by omega)) lk_X11_235 mX11_grantPart rfl rfl (by decide) (Nat.le_of_ble_eq_true rfl) ?_
        rintro _ _ ⟨rfl, e9⟩
        have e9 := e9.symm
        subst e9
        refine p_lret dX11_chance_77 rfl ?_
        exact ⟨_, rfl, CQ.of hI9 hF hk9 (by unfold pa_chance; rw [if_neg (by omega), Int.toNat_natCast, if_pos hbt]) (by unfold pa_chance; rw [if_neg (by omega), Int.toNat_natCast, if_pos hbt]) (by decide)⟩
      · have hbt : (q_ts (M 127) (M 129)).testBit n = false := zb.1.mp (by omega)
        refine p_aload_n 28 dX11_chance_27 rfl rfl (by decide) ?_
        refine p_iconst 29 dX11_chance_28 ?_
        refine p_iconst 30 dX11_chance_29 ?_
        refine p_iload_n 31 dX11_chance_30 rfl rfl ?_
        refine p_callV3l 0 34 dX11_chance_31 (s_grantPart (u := 0) (v := 1) hb (by omega) (by omega) (by omega)) lk_X11_235 mX11_grantPart rfl rfl (by decide) (Nat.le_of_ble_eq_true rfl) ?_
        rintro _ _ ⟨rfl, e9⟩
        have e9 := e9.symm
        subst e9
        refine p_lret dX11_chance_34 rfl ?_
        exact ⟨_, rfl, CQ.of hI hF (fun k _ => rfl) (by unfold pa_chance; rw [if_neg (by omega), Int.toNat_natCast, hbt, if_neg (by decide)]) (by unfold pa_chance; rw [if_neg (by omega), Int.toNat_natCast, hbt, if_neg (by decide)]) (by decide)⟩
    · have h5 := if_nne0 h5
      refine p_aload_n 9 dX11_chance_8 rfl rfl (by decide) ?_
      refine p_iconst 10 dX11_chance_9 ?_
      refine p_callV1i 0 13 dX11_chance_10 s_refuse lk_X11_73 mX11_refuse rfl rfl (by decide) (Nat.le_of_ble_eq_true rfl) ?_
      rintro _ _ ⟨rfl, rfl⟩
      refine p_i2l 14 dX11_chance_13 ?_
      refine p_lret dX11_chance_14 rfl ?_
      exact ⟨_, rfl, CQ.of hI hF (fun k _ => rfl) (by unfold pa_chance; (repeat' split) <;> first | rfl | (exfalso; omega)) (by unfold pa_chance; (repeat' split) <;> first | rfl | (exfalso; omega)) (by decide)⟩
theorem c_mean {l : Launch} {X : ZX} {M : ZM} (hI : IC M M) (hF : WF M) {b : Int} (hb : b = 0 ∨ b = 1) : zCl l X 4 yX11_mean tX11_mean [zr 0, zi b] M (CQ M (pa_mean (M 124 14) (M 127) (M 129) b)) := by
  obtain ⟨hW, ⟨c, c', hcc, hco, hsp, hC⟩, ⟨j1, j2, j3, j4, j5⟩, hN, hpast, hten, ⟨hz0, hsea⟩, hfit⟩ := id hI
  have hR := hF.r
  have hT := hF.t
  have hh := hF.h
  have e0 : M 127 0 = (q_n (M 127) 0 : Int) := hR.n (by decide)
  have e2 : M 127 2 = (q_n (M 127) 2 : Int) := hR.n (by decide)
  have e3 : M 127 3 = (q_n (M 127) 3 : Int) := hR.n (by decide)
  have e4 : M 127 4 = (q_n (M 127) 4 : Int) := hR.n (by decide)
  have bR := hR.2.1
  have h20 : M 124 14 = 0 → M 127 2 = 0 := fun h => hF.r0 h 2 (by decide)
  have h30 : M 124 14 = 0 → M 127 3 = 0 := fun h => hF.r0 h 3 (by decide)
  have h40 : M 124 14 = 0 → M 127 4 = 0 := fun h => hF.r0 h 4 (by decide)
  have hwo : M 49 3 = M 129 16 := hN.2.2.2.1
  have t160 := hT.1 16 (by decide)
  have t161 := hT.2.2.2.2.1
  refine zC.of [some (zr 0), some (zi b)] (by decide +kernel) rfl rfl (Nat.le_of_ble_eq_true rfl) rfl ?_
  rcases hcc with ⟨rfl, rfl⟩ | ⟨rfl, rfl⟩
  · have hto : M 2 0 = M 124 14 := hC.1.1
    have hla : M 2 1 = M 127 0 := hC.1.2.1
    have hsn : M 2 2 = M 127 1 := hC.1.2.2.1
    have hcs : M 3 0 = M 127 2 := hC.1.2.2.2.1
    have hca : M 8 0 = M 127 3 := hC.1.2.2.2.2.1
    have hcw : M 13 0 = M 127 4 := hC.1.2.2.2.2.2.1
    have hcb : M 13 1 = M 127 5 := hC.1.2.2.2.2.2.2.1
    have hcor : M 19 0 = M 127 6 := hC.1.2.2.2.2.2.2.2.1
    have hcn : M 19 4 = M 127 7 := hC.1.2.2.2.2.2.2.2.2
    have b4 := bR.2.2.2.2.1
    have hp7 := p7 (n := q_n (M 127) 4) (by omega)
    have htl := q_ts_lt (M 127) (M 129)
    have hto7 : q_ts (M 127) (M 129) < 128 := by omega
    have hol := q_odds_le hR (q_ts (M 127) (M 129))
    have hkl := q_cost_le hR 7 (q_ts (M 127) (M 129))
    refine p_aload_n 1 dX11_mean_0 rfl rfl (by decide) ?_
    refine p_getR 0 4 dX11_mean_1 fX11_16 rfl hco ?_
    refine p_getI 2 7 dX11_mean_4 fX11_114 rfl ?_
    rw [hto]
    refine p_if_ne 17 10 dX11_mean_7 (by omega) (by omega) (fun h7 => ?_) (fun h7 => ?_)
    · have h1 : M 124 14 = 1 := by omega
      have hR1 := hF.r1 h1
      refine p_aload_n 18 dX11_mean_17 rfl rfl (by decide) ?_
      refine p_callV0i 0 21 dX11_mean_18 (s_toSay_2 hW hC hR hco hN hT) lk_X11_232 mX11_toSay rfl rfl (by decide) (Nat.le_of_ble_eq_true rfl) ?_
      rintro _ _ ⟨rfl, e9⟩
      have e9 := e9.symm
      subst e9
      rw [q_ts_eq]
      refine p_if_ne 32 24 dX11_mean_21 (by omega) (by omega) (fun h21 => ?_) (fun h21 => ?_)
      · have hop := q_odds_pos hR hR1 (show (q_ts (M 127) (M 129)) ≠ 0 by omega) htl
        refine p_aload_n 33 dX11_mean_32 rfl rfl (by decide) ?_
        refine p_getR 0 36 dX11_mean_33 fX11_54 rfl (hW (0, 11, 115) (by decide)) ?_
        refine p_aload_n 37 dX11_mean_36 rfl rfl (by decide) ?_
        refine p_getR 0 40 dX11_mean_37 fX11_16 rfl hco ?_
        refine p_getR 2 43 dX11_mean_40 fX11_211 rfl (hW (2, 5, 13) (by decide)) ?_
        refine p_callV1v 115 46 dX11_mean_43 (s_learnS (Or.inl rfl : isC 2) hW hC hR hR1.ex hz0 hsea) lk_X11_239 mX7_learn rfl rfl (by decide) (Nat.le_of_ble_eq_true rfl) ?_
        intro M9 h9
        obtain ⟨g1, g2, g3, g4⟩ := h9
        have hI9 : IC M M9 := hI.learn hF g1 g2 g3 g4
        have hk9 : ∀ k, 124 ≤ k → M9 k = M k := fun k hk => g1 k (by omega)
        have hW := hI9.1
        have hC : ICc (M 127) (M 124 14) 2 M9 := hC.congr (fun a _ _ => g1 a (by omega))
        have hco : M9 0 5 = 2 := (congrFun (g1 0 (by omega)) 5).trans hco
        have hN : ICn (M 129) (M 124 14) 49 M9 := hN.congr (g1 _ (by omega)) (g1 _ (by omega)) (g1 _ (by omega))
        refine p_aload_n 47 dX11_mean_46 rfl rfl (by decide) ?_
        refine p_aload_n 48 dX11_mean_47 rfl rfl (by decide) ?_
        refine p_getR 0 51 dX11_mean_48 fX11_54 rfl (hW (0, 11, 115) (by decide)) ?_
        refine p_aload_n 52 dX11_mean_51 rfl rfl (by decide) ?_
        refine p_callV0i 0 55 dX11_mean_52 (s_toSay_2 hW hC hR hco hN hT) lk_X11_232 mX11_toSay rfl rfl (by decide) (Nat.le_of_ble_eq_true rfl) ?_
        rintro _ _ ⟨rfl, e9⟩
        have e9 := e9.symm
        subst e9
        rw [q_ts_eq]
        refine p_callV1i 115 58 dX11_mean_55 (s_leastCostS hW hR g4 htl) lk_X11_245 mX7_leastCost rfl rfl (by decide) (Nat.le_of_ble_eq_true rfl) ?_
        rintro _ _ ⟨rfl, e9⟩
        have e9 := e9.symm
        subst e9
        refine p_aload_n 59 dX11_mean_58 rfl rfl (by decide) ?_
        refine p_getR 0 62 dX11_mean_59 fX11_54 rfl (hW (0, 11, 115) (by decide)) ?_
        refine p_aload_n 63 dX11_mean_62 rfl rfl (by decide) ?_
        refine p_callV0i 0 66 dX11_mean_63 (s_toSay_2 hW hC hR hco hN hT) lk_X11_232 mX11_toSay rfl rfl (by decide) (Nat.le_of_ble_eq_true rfl) ?_
        rintro _ _ ⟨rfl, e9⟩
        have e9 := e9.symm
        subst e9
        rw [q_ts_eq]
        refine p_callV1i 115 69 dX11_mean_66 (s_oddsOfS hW hR g4 htl) lk_X11_242 mX7_oddsOf rfl rfl (by decide) (Nat.le_of_ble_eq_true rfl) ?_
        rintro _ _ ⟨rfl, e9⟩
        have e9 := e9.symm
        subst e9
        refine p_iload_n 70 dX11_mean_69 rfl rfl ?_
        refine p_callV3l 0 73 dX11_mean_70 (s_grantPart (u := q_cost (q_n (M 127)) 7 (q_ts (M 127) (M 129))) (v := (q_odds (q_n (M 127)) (q_ts (M 127) (M 129)))) hb (by omega) (by omega) (by omega)) lk_X11_235 mX11_grantPart rfl rfl (by decide) (Nat.le_of_ble_eq_true rfl) ?_
        rintro _ _ ⟨rfl, e9⟩
        have e9 := e9.symm
        subst e9
        refine p_lret dX11_mean_73 rfl ?_
        exact ⟨_, rfl, CQ.of hI9 hF hk9 (by unfold pa_mean; (repeat' split) <;> first | rfl | (exfalso; omega)) (by unfold pa_mean; (repeat' split) <;> first | rfl | (exfalso; omega)) (by decide)⟩
      · refine p_aload_n 25 dX11_mean_24 rfl rfl (by decide) ?_
        refine p_iconst 26 dX11_mean_25 ?_
        refine p_iconst 27 dX11_mean_26 ?_
        refine p_iload_n 28 dX11_mean_27 rfl rfl ?_
        refine p_callV3l 0 31 dX11_mean_28 (s_grantPart (u := 0) (v := 1) hb (by omega) (by omega) (by omega)) lk_X11_235 mX11_grantPart rfl rfl (by decide) (Nat.le_of_ble_eq_true rfl) ?_
        rintro _ _ ⟨rfl, e9⟩
        have e9 := e9.symm
        subst e9
        refine p_lret dX11_mean_31 rfl ?_
        exact ⟨_, rfl, CQ.of hI hF (fun k _ => rfl) (by unfold pa_mean; (repeat' split) <;> first | rfl | (exfalso; omega)) (by unfold pa_mean; (repeat' split) <;> first | rfl | (exfalso; omega)) (by decide)⟩
    · refine p_aload_n 11 dX11_mean_10 rfl rfl (by decide) ?_
      refine p_iconst 12 dX11_mean_11 ?_
      refine p_callV1i 0 15 dX11_mean_12 s_refuse lk_X11_73 mX11_refuse rfl rfl (by decide) (Nat.le_of_ble_eq_true rfl) ?_
      rintro _ _ ⟨rfl, rfl⟩
      refine p_i2l 16 dX11_mean_15 ?_
      refine p_lret dX11_mean_16 rfl ?_
      exact ⟨_, rfl, CQ.of hI hF (fun k _ => rfl) (by unfold pa_mean; (repeat' split) <;> first | rfl | (exfalso; omega)) (by unfold pa_mean; (repeat' split) <;> first | rfl | (exfalso; omega)) (by decide)⟩
  · have hto : M 25 0 = M 124 14 := hC.1.1
    have hla : M 25 1 = M 127 0 := hC.1.2.1
    have hsn : M 25 2 = M 127 1 := hC.1.2.2.1
    have hcs : M 26 0 = M 127 2 := hC.1.2.2.2.1
    have hca : M 31 0 = M 127 3 := hC.1.2.2.2.2.1
    have hcw : M 36 0 = M 127 4 := hC.1.2.2.2.2.2.1
    have hcb : M 36 1 = M 127 5 := hC.1.2.2.2.2.2.2.1
    have hcor : M 42 0 = M 127 6 := hC.1.2.2.2.2.2.2.2.1
    have hcn : M 42 4 = M 127 7 := hC.1.2.2.2.2.2.2.2.2
    have b4 := bR.2.2.2.2.1
    have hp7 := p7 (n := q_n (M 127) 4) (by omega)
    have htl := q_ts_lt (M 127) (M 129)
    have hto7 : q_ts (M 127) (M 129) < 128 := by omega
    have hol := q_odds_le hR (q_ts (M 127) (M 129))
    have hkl := q_cost_le hR 7 (q_ts (M 127) (M 129))
    refine p_aload_n 1 dX11_mean_0 rfl rfl (by decide) ?_
    refine p_getR 0 4 dX11_mean_1 fX11_16 rfl hco ?_
    refine p_getI 25 7 dX11_mean_4 fX11_114 rfl ?_
    rw [hto]
    refine p_if_ne 17 10 dX11_mean_7 (by omega) (by omega) (fun h7 => ?_) (fun h7 => ?_)
    · have h1 : M 124 14 = 1 := by omega
      have hR1 := hF.r1 h1
      refine p_aload_n 18 dX11_mean_17 rfl rfl (by decide) ?_
      refine p_callV0i 0 21 dX11_mean_18 (s_toSay_25 hW hC hR hco hN hT) lk_X11_232 mX11_toSay rfl rfl (by decide) (Nat.le_of_ble_eq_true rfl) ?_
      rintro _ _ ⟨rfl, e9⟩
      have e9 := e9.symm
      subst e9
      rw [q_ts_eq]
      refine p_if_ne 32 24 dX11_mean_21 (by omega) (by omega) (fun h21 => ?_) (fun h21 => ?_)
      · have hop := q_odds_pos hR hR1 (show (q_ts (M 127) (M 129)) ≠ 0 by omega) htl
        refine p_aload_n 33 dX11_mean_32 rfl rfl (by decide) ?_
        refine p_getR 0 36 dX11_mean_33 fX11_54 rfl (hW (0, 11, 115) (by decide)) ?_
        refine p_aload_n 37 dX11_mean_36 rfl rfl (by decide) ?_
        refine p_getR 0 40 dX11_mean_37 fX11_16 rfl hco ?_
        refine p_getR 25 43 dX11_mean_40 fX11_211 rfl (hW (25, 5, 36) (by decide)) ?_
        refine p_callV1v 115 46 dX11_mean_43 (s_learnS (Or.inr rfl : isC 25) hW hC hR hR1.ex hz0 hsea) lk_X11_239 mX7_learn rfl rfl (by decide) (Nat.le_of_ble_eq_true rfl) ?_
        intro M9 h9
        obtain ⟨g1, g2, g3, g4⟩ := h9
        have hI9 : IC M M9 := hI.learn hF g1 g2 g3 g4
        have hk9 : ∀ k, 124 ≤ k → M9 k = M k := fun k hk => g1 k (by omega)
        have hW := hI9.1
        have hC : ICc (M 127) (M 124 14) 25 M9 := hC.congr (fun a _ _ => g1 a (by omega))
        have hco : M9 0 5 = 25 := (congrFun (g1 0 (by omega)) 5).trans hco
        have hN : ICn (M 129) (M 124 14) 49 M9 := hN.congr (g1 _ (by omega)) (g1 _ (by omega)) (g1 _ (by omega))
        refine p_aload_n 47 dX11_mean_46 rfl rfl (by decide) ?_
        refine p_aload_n 48 dX11_mean_47 rfl rfl (by decide) ?_
        refine p_getR 0 51 dX11_mean_48 fX11_54 rfl (hW (0, 11, 115) (by decide)) ?_
        refine p_aload_n 52 dX11_mean_51 rfl rfl (by decide) ?_
        refine p_callV0i 0 55 dX11_mean_52 (s_toSay_25 hW hC hR hco hN hT) lk_X11_232 mX11_toSay rfl rfl (by decide) (Nat.le_of_ble_eq_true rfl) ?_
        rintro _ _ ⟨rfl, e9⟩
        have e9 := e9.symm
        subst e9
        rw [q_ts_eq]
        refine p_callV1i 115 58 dX11_mean_55 (s_leastCostS hW hR g4 htl) lk_X11_245 mX7_leastCost rfl rfl (by decide) (Nat.le_of_ble_eq_true rfl) ?_
        rintro _ _ ⟨rfl, e9⟩
        have e9 := e9.symm
        subst e9
        refine p_aload_n 59 dX11_mean_58 rfl rfl (by decide) ?_
        refine p_getR 0 62 dX11_mean_59 fX11_54 rfl (hW (0, 11, 115) (by decide)) ?_
        refine p_aload_n 63 dX11_mean_62 rfl rfl (by decide) ?_
        refine p_callV0i 0 66 dX11_mean_63 (s_toSay_25 hW hC hR hco hN hT) lk_X11_232 mX11_toSay rfl rfl (by decide) (Nat.le_of_ble_eq_true rfl) ?_
        rintro _ _ ⟨rfl, e9⟩
        have e9 := e9.symm
        subst e9
        rw [q_ts_eq]
        refine p_callV1i 115 69 dX11_mean_66 (s_oddsOfS hW hR g4 htl) lk_X11_242 mX7_oddsOf rfl rfl (by decide) (Nat.le_of_ble_eq_true rfl) ?_
        rintro _ _ ⟨rfl, e9⟩
        have e9 := e9.symm
        subst e9
        refine p_iload_n 70 dX11_mean_69 rfl rfl ?_
        refine p_callV3l 0 73 dX11_mean_70 (s_grantPart (u := q_cost (q_n (M 127)) 7 (q_ts (M 127) (M 129))) (v := (q_odds (q_n (M 127)) (q_ts (M 127) (M 129)))) hb (by omega) (by omega) (by omega)) lk_X11_235 mX11_grantPart rfl rfl (by decide) (Nat.le_of_ble_eq_true rfl) ?_
        rintro _ _ ⟨rfl, e9⟩
        have e9 := e9.symm
        subst e9
        refine p_lret dX11_mean_73 rfl ?_
        exact ⟨_, rfl, CQ.of hI9 hF hk9 (by unfold pa_mean; (repeat' split) <;> first | rfl | (exfalso; omega)) (by unfold pa_mean; (repeat' split) <;> first | rfl | (exfalso; omega)) (by decide)⟩
      · refine p_aload_n 25 dX11_mean_24 rfl rfl (by decide) ?_
        refine p_iconst 26 dX11_mean_25 ?_
        refine p_iconst 27 dX11_mean_26 ?_
        refine p_iload_n 28 dX11_mean_27 rfl rfl ?_
        refine p_callV3l 0 31 dX11_mean_28 (s_grantPart (u := 0) (v := 1) hb (by omega) (by omega) (by omega)) lk_X11_235 mX11_grantPart rfl rfl (by decide) (Nat.le_of_ble_eq_true rfl) ?_
        rintro _ _ ⟨rfl, e9⟩
        have e9 := e9.symm
        subst e9
        refine p_lret dX11_mean_31 rfl ?_
        exact ⟨_, rfl, CQ.of hI hF (fun k _ => rfl) (by unfold pa_mean; (repeat' split) <;> first | rfl | (exfalso; omega)) (by unfold pa_mean; (repeat' split) <;> first | rfl | (exfalso; omega)) (by decide)⟩
    · refine p_aload_n 11 dX11_mean_10 rfl rfl (by decide) ?_
      refine p_iconst 12 dX11_mean_11 ?_
      refine p_callV1i 0 15 dX11_mean_12 s_refuse lk_X11_73 mX11_refuse rfl rfl (by decide) (Nat.le_of_ble_eq_true rfl) ?_
      rintro _ _ ⟨rfl, rfl⟩
      refine p_i2l 16 dX11_mean_15 ?_
      refine p_lret dX11_mean_16 rfl ?_
      exact ⟨_, rfl, CQ.of hI hF (fun k _ => rfl) (by unfold pa_mean; (repeat' split) <;> first | rfl | (exfalso; omega)) (by unfold pa_mean; (repeat' split) <;> first | rfl | (exfalso; omega)) (by decide)⟩
theorem c_searchAt {l : Launch} {X : ZX} {M : ZM} (hI : IC M M) (hF : WF M) {v : Int} (hv1 : -2147483648 ≤ v) (hv2 : v < 2147483648) : zCi l X 4 yX11_searchAt tX11_searchAt [zr 0, zi v] M (CQ M (pa_searchAt (M 124 14) (M 127) (M 129) v)) := by
  obtain ⟨hW, ⟨c, c', hcc, hco, hsp, hC⟩, ⟨j1, j2, j3, j4, j5⟩, hN, hpast, hten, ⟨hz0, hsea⟩, hfit⟩ := id hI
  have hR := hF.r
  have hT := hF.t
  have hh := hF.h
  have e0 : M 127 0 = (q_n (M 127) 0 : Int) := hR.n (by decide)
  have e2 : M 127 2 = (q_n (M 127) 2 : Int) := hR.n (by decide)
  have e3 : M 127 3 = (q_n (M 127) 3 : Int) := hR.n (by decide)
  have e4 : M 127 4 = (q_n (M 127) 4 : Int) := hR.n (by decide)
  have bR := hR.2.1
  have h20 : M 124 14 = 0 → M 127 2 = 0 := fun h => hF.r0 h 2 (by decide)
  have h30 : M 124 14 = 0 → M 127 3 = 0 := fun h => hF.r0 h 3 (by decide)
  have h40 : M 124 14 = 0 → M 127 4 = 0 := fun h => hF.r0 h 4 (by decide)
  have hwo : M 49 3 = M 129 16 := hN.2.2.2.1
  have t160 := hT.1 16 (by decide)
  have t161 := hT.2.2.2.2.1
  refine zC.of [some (zr 0), some (zi v)] (by decide +kernel) rfl rfl (Nat.le_of_ble_eq_true rfl) rfl ?_
  rcases hcc with ⟨rfl, rfl⟩ | ⟨rfl, rfl⟩
  · have hto : M 2 0 = M 124 14 := hC.1.1
    have hla : M 2 1 = M 127 0 := hC.1.2.1
    have hsn : M 2 2 = M 127 1 := hC.1.2.2.1
    have hcs : M 3 0 = M 127 2 := hC.1.2.2.2.1
    have hca : M 8 0 = M 127 3 := hC.1.2.2.2.2.1
    have hcw : M 13 0 = M 127 4 := hC.1.2.2.2.2.2.1
    have hcb : M 13 1 = M 127 5 := hC.1.2.2.2.2.2.2.1
    have hcor : M 19 0 = M 127 6 := hC.1.2.2.2.2.2.2.2.1
    have hcn : M 19 4 = M 127 7 := hC.1.2.2.2.2.2.2.2.2
    have b4 := bR.2.2.2.2.1
    have hp7 := p7 (n := q_n (M 127) 4) (by omega)
    have htl := q_ts_lt (M 127) (M 129)
    have hto7 : q_ts (M 127) (M 129) < 128 := by omega
    have hol := q_odds_le hR (q_ts (M 127) (M 129))
    have hkl := q_cost_le hR 7 (q_ts (M 127) (M 129))
    have hc7 := q_c7_le (q_ts (M 127) (M 129))
    refine p_aload_n 1 dX11_searchAt_0 rfl rfl (by decide) ?_
    refine p_getR 0 4 dX11_searchAt_1 fX11_16 rfl hco ?_
    refine p_getI 2 7 dX11_searchAt_4 fX11_114 rfl ?_
    rw [hto]
    refine p_if_eq 25 10 dX11_searchAt_7 (by omega) (by omega) (fun h7 => ?_) (fun h7 => ?_)
    · refine p_aload_n 26 dX11_searchAt_25 rfl rfl (by decide) ?_
      refine p_iconst 27 dX11_searchAt_26 ?_
      refine p_callV1i 0 30 dX11_searchAt_27 s_refuse lk_X11_73 mX11_refuse rfl rfl (by decide) (Nat.le_of_ble_eq_true rfl) ?_
      rintro _ _ ⟨rfl, rfl⟩
      refine p_iret dX11_searchAt_30 rfl ?_
      exact ⟨_, rfl, CQ.of hI hF (fun k _ => rfl) (by unfold pa_searchAt; (repeat' split) <;> first | rfl | (exfalso; omega)) (by unfold pa_searchAt; (repeat' split) <;> first | rfl | (exfalso; omega)) (by decide)⟩
    · refine p_iload_n 11 dX11_searchAt_10 rfl rfl ?_
      refine p_if_lt 25 14 dX11_searchAt_11 (by omega) (by omega) (fun h11 => ?_) (fun h11 => ?_)
      · refine p_aload_n 26 dX11_searchAt_25 rfl rfl (by decide) ?_
        refine p_iconst 27 dX11_searchAt_26 ?_
        refine p_callV1i 0 30 dX11_searchAt_27 s_refuse lk_X11_73 mX11_refuse rfl rfl (by decide) (Nat.le_of_ble_eq_true rfl) ?_
        rintro _ _ ⟨rfl, rfl⟩
        refine p_iret dX11_searchAt_30 rfl ?_
        exact ⟨_, rfl, CQ.of hI hF (fun k _ => rfl) (by unfold pa_searchAt; (repeat' split) <;> first | rfl | (exfalso; omega)) (by unfold pa_searchAt; (repeat' split) <;> first | rfl | (exfalso; omega)) (by decide)⟩
      · refine p_iload_n 15 dX11_searchAt_14 rfl rfl ?_
        refine p_aload_n 16 dX11_searchAt_15 rfl rfl (by decide) ?_
        refine p_callV0i 0 19 dX11_searchAt_16 (s_toSay_2 hW hC hR hco hN hT) lk_X11_232 mX11_toSay rfl rfl (by decide) (Nat.le_of_ble_eq_true rfl) ?_
        rintro _ _ ⟨rfl, e9⟩
        have e9 := e9.symm
        subst e9
        rw [q_ts_eq]
        refine p_callS1i 22 dX11_searchAt_19 (s_bitCount hto7) lk_X11_248 mJ6_bitCount_0f7a4 (by decide) (Nat.le_of_ble_eq_true rfl) ?_
        rintro _ _ ⟨rfl, e9⟩
        have e9 := e9.symm
        subst e9
        rw [q_c8 hto7]
        refine p_icmp_lt 31 25 dX11_searchAt_22 (by omega) (by omega) (by omega) (by omega) (fun h22 => ?_) (fun h22 => ?_)
        · obtain ⟨n, rfl⟩ : ∃ k : Nat, v = (k : Int) := ⟨v.toNat, by omega⟩
          have h1 : M 124 14 = 1 := by omega
          have hR1 := hF.r1 h1
          refine p_aload_n 32 dX11_searchAt_31 rfl rfl (by decide) ?_
          refine p_getR 0 35 dX11_searchAt_32 fX11_54 rfl (hW (0, 11, 115) (by decide)) ?_
          refine p_aload_n 36 dX11_searchAt_35 rfl rfl (by decide) ?_
          refine p_getR 0 39 dX11_searchAt_36 fX11_16 rfl hco ?_
          refine p_getR 2 42 dX11_searchAt_39 fX11_211 rfl (hW (2, 5, 13) (by decide)) ?_
          refine p_callV1v 115 45 dX11_searchAt_42 (s_learnS (Or.inl rfl : isC 2) hW hC hR hR1.ex hz0 hsea) lk_X11_239 mX7_learn rfl rfl (by decide) (Nat.le_of_ble_eq_true rfl) ?_
          intro M9 h9
          obtain ⟨g1, g2, g3, g4⟩ := h9
          have hI9 : IC M M9 := hI.learn hF g1 g2 g3 g4
          have hk9 : ∀ k, 124 ≤ k → M9 k = M k := fun k hk => g1 k (by omega)
          have hW := hI9.1
          have hC : ICc (M 127) (M 124 14) 2 M9 := hC.congr (fun a _ _ => g1 a (by omega))
          have hco : M9 0 5 = 2 := (congrFun (g1 0 (by omega)) 5).trans hco
          have hN : ICn (M 129) (M 124 14) 49 M9 := hN.congr (g1 _ (by omega)) (g1 _ (by omega)) (g1 _ (by omega))
          refine p_aload_n 46 dX11_searchAt_45 rfl rfl (by decide) ?_
          refine p_aload_n 47 dX11_searchAt_46 rfl rfl (by decide) ?_
          refine p_getR 0 50 dX11_searchAt_47 fX11_54 rfl (hW (0, 11, 115) (by decide)) ?_
          refine p_aload_n 51 dX11_searchAt_50 rfl rfl (by decide) ?_
          refine p_getR 0 54 dX11_searchAt_51 fX11_16 rfl hco ?_
          refine p_getR 2 57 dX11_searchAt_54 fX11_211 rfl (hW (2, 5, 13) (by decide)) ?_
          refine p_aload_n 58 dX11_searchAt_57 rfl rfl (by decide) ?_
          refine p_callV0i 0 61 dX11_searchAt_58 (s_toSay_2 hW hC hR hco hN hT) lk_X11_232 mX11_toSay rfl rfl (by decide) (Nat.le_of_ble_eq_true rfl) ?_
          rintro _ _ ⟨rfl, e9⟩
          have e9 := e9.symm
          subst e9
          rw [q_ts_eq]
          refine p_iload_n 62 dX11_searchAt_61 rfl rfl ?_
          refine p_callV3i 115 65 dX11_searchAt_62 (s_rowAt (Or.inl rfl : isC 2) hW hC hR g4 hR1.ex (S := (q_ts (M 127) (M 129))) (m := n) htl (by omega)) lk_X11_253 mX7_rowAt rfl rfl (by decide) (Nat.le_of_ble_eq_true rfl) ?_
          rintro _ _ ⟨rfl, e9⟩
          have e9 := e9.symm
          subst e9
          refine p_callV1i 0 68 dX11_searchAt_65 s_grant lk_X11_108 mX11_grant rfl rfl (by decide) (Nat.le_of_ble_eq_true rfl) ?_
          rintro _ _ ⟨rfl, rfl⟩
          refine p_iret dX11_searchAt_68 rfl ?_
          exact ⟨_, rfl, CQ.of hI9 hF hk9 (by unfold pa_searchAt; (repeat' split) <;> first | rfl | (exfalso; omega)) (by unfold pa_searchAt; (repeat' split) <;> first | rfl | (exfalso; omega)) (by decide)⟩
        · refine p_aload_n 26 dX11_searchAt_25 rfl rfl (by decide) ?_
          refine p_iconst 27 dX11_searchAt_26 ?_
          refine p_callV1i 0 30 dX11_searchAt_27 s_refuse lk_X11_73 mX11_refuse rfl rfl (by decide) (Nat.le_of_ble_eq_true rfl) ?_
          rintro _ _ ⟨rfl, rfl⟩
          refine p_iret dX11_searchAt_30 rfl ?_
          exact ⟨_, rfl, CQ.of hI hF (fun k _ => rfl) (by unfold pa_searchAt; (repeat' split) <;> first | rfl | (exfalso; omega)) (by unfold pa_searchAt; (repeat' split) <;> first | rfl | (exfalso; omega)) (by decide)⟩
  · have hto : M 25 0 = M 124 14 := hC.1.1
    have hla : M 25 1 = M 127 0 := hC.1.2.1
    have hsn : M 25 2 = M 127 1 := hC.1.2.2.1
    have hcs : M 26 0 = M 127 2 := hC.1.2.2.2.1
    have hca : M 31 0 = M 127 3 := hC.1.2.2.2.2.1
    have hcw : M 36 0 = M 127 4 := hC.1.2.2.2.2.2.1
    have hcb : M 36 1 = M 127 5 := hC.1.2.2.2.2.2.2.1
    have hcor : M 42 0 = M 127 6 := hC.1.2.2.2.2.2.2.2.1
    have hcn : M 42 4 = M 127 7 := hC.1.2.2.2.2.2.2.2.2
    have b4 := bR.2.2.2.2.1
    have hp7 := p7 (n := q_n (M 127) 4) (by omega)
    have htl := q_ts_lt (M 127) (M 129)
    have hto7 : q_ts (M 127) (M 129) < 128 := by omega
    have hol := q_odds_le hR (q_ts (M 127) (M 129))
    have hkl := q_cost_le hR 7 (q_ts (M 127) (M 129))
    have hc7 := q_c7_le (q_ts (M 127) (M 129))
    refine p_aload_n 1 dX11_searchAt_0 rfl rfl (by decide) ?_
    refine p_getR 0 4 dX11_searchAt_1 fX11_16 rfl hco ?_
    refine p_getI 25 7 dX11_searchAt_4 fX11_114 rfl ?_
    rw [hto]
    refine p_if_eq 25 10 dX11_searchAt_7 (by omega) (by omega) (fun h7 => ?_) (fun h7 => ?_)
    · refine p_aload_n 26 dX11_searchAt_25 rfl rfl (by decide) ?_
      refine p_iconst 27 dX11_searchAt_26 ?_
      refine p_callV1i 0 30 dX11_searchAt_27 s_refuse lk_X11_73 mX11_refuse rfl rfl (by decide) (Nat.le_of_ble_eq_true rfl) ?_
      rintro _ _ ⟨rfl, rfl⟩
      refine p_iret dX11_searchAt_30 rfl ?_
      exact ⟨_, rfl, CQ.of hI hF (fun k _ => rfl) (by unfold pa_searchAt; (repeat' split) <;> first | rfl | (exfalso; omega)) (by unfold pa_searchAt; (repeat' split) <;> first | rfl | (exfalso; omega)) (by decide)⟩
    · refine p_iload_n 11 dX11_searchAt_10 rfl rfl ?_
      refine p_if_lt 25 14 dX11_searchAt_11 (by omega) (by omega) (fun h11 => ?_) (fun h11 => ?_)
      · refine p_aload_n 26 dX11_searchAt_25 rfl rfl (by decide) ?_
        refine p_iconst 27 dX11_searchAt_26 ?_
        refine p_callV1i 0 30 dX11_searchAt_27 s_refuse lk_X11_73 mX11_refuse rfl rfl (by decide) (Nat.le_of_ble_eq_true rfl) ?_
        rintro _ _ ⟨rfl, rfl⟩
        refine p_iret dX11_searchAt_30 rfl ?_
        exact ⟨_, rfl, CQ.of hI hF (fun k _ => rfl) (by unfold pa_searchAt; (repeat' split) <;> first | rfl | (exfalso; omega)) (by unfold pa_searchAt; (repeat' split) <;> first | rfl | (exfalso; omega)) (by decide)⟩
      · refine p_iload_n 15 dX11_searchAt_14 rfl rfl ?_
        refine p_aload_n 16 dX11_searchAt_15 rfl rfl (by decide) ?_
        refine p_callV0i 0 19 dX11_searchAt_16 (s_toSay_25 hW hC hR hco hN hT) lk_X11_232 mX11_toSay rfl rfl (by decide) (Nat.le_of_ble_eq_true rfl) ?_
        rintro _ _ ⟨rfl, e9⟩
        have e9 := e9.symm
        subst e9
        rw [q_ts_eq]
        refine p_callS1i 22 dX11_searchAt_19 (s_bitCount hto7) lk_X11_248 mJ6_bitCount_0f7a4 (by decide) (Nat.le_of_ble_eq_true rfl) ?_
        rintro _ _ ⟨rfl, e9⟩
        have e9 := e9.symm
        subst e9
        rw [q_c8 hto7]
        refine p_icmp_lt 31 25 dX11_searchAt_22 (by omega) (by omega) (by omega) (by omega) (fun h22 => ?_) (fun h22 => ?_)
        · obtain ⟨n, rfl⟩ : ∃ k : Nat, v = (k : Int) := ⟨v.toNat, by omega⟩
          have h1 : M 124 14 = 1 := by omega
          have hR1 := hF.r1 h1
          refine p_aload_n 32 dX11_searchAt_31 rfl rfl (by decide) ?_
          refine p_getR 0 35 dX11_searchAt_32 fX11_54 rfl (hW (0, 11, 115) (by decide)) ?_
          refine p_aload_n 36 dX11_searchAt_35 rfl rfl (by decide) ?_
          refine p_getR 0 39 dX11_searchAt_36 fX11_16 rfl hco ?_
          refine p_getR 25 42 dX11_searchAt_39 fX11_211 rfl (hW (25, 5, 36) (by decide)) ?_
          refine p_callV1v 115 45 dX11_searchAt_42 (s_learnS (Or.inr rfl : isC 25) hW hC hR hR1.ex hz0 hsea) lk_X11_239 mX7_learn rfl rfl (by decide) (Nat.le_of_ble_eq_true rfl) ?_
          intro M9 h9
          obtain ⟨g1, g2, g3, g4⟩ := h9
          have hI9 : IC M M9 := hI.learn hF g1 g2 g3 g4
          have hk9 : ∀ k, 124 ≤ k → M9 k = M k := fun k hk => g1 k (by omega)
          have hW := hI9.1
          have hC : ICc (M 127) (M 124 14) 25 M9 := hC.congr (fun a _ _ => g1 a (by omega))
          have hco : M9 0 5 = 25 := (congrFun (g1 0 (by omega)) 5).trans hco
          have hN : ICn (M 129) (M 124 14) 49 M9 := hN.congr (g1 _ (by omega)) (g1 _ (by omega)) (g1 _ (by omega))
          refine p_aload_n 46 dX11_searchAt_45 rfl rfl (by decide) ?_
          refine p_aload_n 47 dX11_searchAt_46 rfl rfl (by decide) ?_
          refine p_getR 0 50 dX11_searchAt_47 fX11_54 rfl (hW (0, 11, 115) (by decide)) ?_
          refine p_aload_n 51 dX11_searchAt_50 rfl rfl (by decide) ?_
          refine p_getR 0 54 dX11_searchAt_51 fX11_16 rfl hco ?_
          refine p_getR 25 57 dX11_searchAt_54 fX11_211 rfl (hW (25, 5, 36) (by decide)) ?_
          refine p_aload_n 58 dX11_searchAt_57 rfl rfl (by decide) ?_
          refine p_callV0i 0 61 dX11_searchAt_58 (s_toSay_25 hW hC hR hco hN hT) lk_X11_232 mX11_toSay rfl rfl (by decide) (Nat.le_of_ble_eq_true rfl) ?_
          rintro _ _ ⟨rfl, e9⟩
          have e9 := e9.symm
          subst e9
          rw [q_ts_eq]
          refine p_iload_n 62 dX11_searchAt_61 rfl rfl ?_
          refine p_callV3i 115 65 dX11_searchAt_62 (s_rowAt (Or.inr rfl : isC 25) hW hC hR g4 hR1.ex (S := (q_ts (M 127) (M 129))) (m := n) htl (by omega)) lk_X11_253 mX7_rowAt rfl rfl (by decide) (Nat.le_of_ble_eq_true rfl) ?_
          rintro _ _ ⟨rfl, e9⟩
          have e9 := e9.symm
          subst e9
          refine p_callV1i 0 68 dX11_searchAt_65 s_grant lk_X11_108 mX11_grant rfl rfl (by decide) (Nat.le_of_ble_eq_true rfl) ?_
          rintro _ _ ⟨rfl, rfl⟩
          refine p_iret dX11_searchAt_68 rfl ?_
          exact ⟨_, rfl, CQ.of hI9 hF hk9 (by unfold pa_searchAt; (repeat' split) <;> first | rfl | (exfalso; omega)) (by unfold pa_searchAt; (repeat' split) <;> first | rfl | (exfalso; omega)) (by decide)⟩
        · refine p_aload_n 26 dX11_searchAt_25 rfl rfl (by decide) ?_
          refine p_iconst 27 dX11_searchAt_26 ?_
          refine p_callV1i 0 30 dX11_searchAt_27 s_refuse lk_X11_73 mX11_refuse rfl rfl (by decide) (Nat.le_of_ble_eq_true rfl) ?_
          rintro _ _ ⟨rfl, rfl⟩
          refine p_iret dX11_searchAt_30 rfl ?_
          exact ⟨_, rfl, CQ.of hI hF (fun k _ => rfl) (by unfold pa_searchAt; (repeat' split) <;> first | rfl | (exfalso; omega)) (by unfold pa_searchAt; (repeat' split) <;> first | rfl | (exfalso; omega)) (by decide)⟩
theorem q_say_can {ρ τ : Nat → Int} (hR : wfR ρ) (hR1 : wfR1 ρ) {w : Nat} (hw : w < q_n ρ 4) : q_say ρ τ w = (decide (τ 16 = 0) && q_can (q_n ρ) (q_un (q_n ρ 4) (τ 14).toNat) w) := by
  have e4 : ρ 4 = (q_n ρ 4 : Int) := hR.n (by decide)
  have b4 := hR.2.1.2.2.2.2.1
  unfold q_say
  rw [q_can_un (by omega) hw (hR1.ab hR hw), Bool.and_assoc]
theorem q_say_ne {ρ τ : Nat → Int} (hR : wfR ρ) {w : Nat} (hw : w < q_n ρ 4) (h : q_say ρ τ w = true) : q_ts ρ τ ≠ 0 := by
  have e4 : ρ 4 = (q_n ρ 4 : Int) := hR.n (by decide)
  have b4 := hR.2.1.2.2.2.2.1
  unfold q_say at h
  rw [Bool.and_eq_true, Bool.and_eq_true, decide_eq_true_eq] at h
  unfold q_ts
  rw [if_neg (by omega)]
  intro e
  have hb : (q_un (q_n ρ 4) (τ 14).toNat).testBit w = true := by
    rw [q_unb (by omega), decide_eq_true hw, h.1.2]
    rfl
  rw [e, Nat.zero_testBit] at hb
  cases hb
theorem c_meanFirst {l : Launch} {X : ZX} {M : ZM} (hI : IC M M) (hF : WF M) {w b : Int} (hw1 : -2147483648 ≤ w) (hw2 : w < 2147483648) (hb : b = 0 ∨ b = 1) : zCl l X 4 yX11_meanFirst tX11_meanFirst [zr 0, zi w, zi b] M (CQ M (pa_meanFirst (M 124 14) (M 127) (M 129) w b)) := by
  obtain ⟨hW, ⟨c, c', hcc, hco, hsp, hC⟩, ⟨j1, j2, j3, j4, j5⟩, hN, hpast, hten, ⟨hz0, hsea⟩, hfit⟩ := id hI
  have hR := hF.r
  have hT := hF.t
  have hh := hF.h
  have e0 : M 127 0 = (q_n (M 127) 0 : Int) := hR.n (by decide)
  have e2 : M 127 2 = (q_n (M 127) 2 : Int) := hR.n (by decide)
  have e3 : M 127 3 = (q_n (M 127) 3 : Int) := hR.n (by decide)
  have e4 : M 127 4 = (q_n (M 127) 4 : Int) := hR.n (by decide)
  have bR := hR.2.1
  have h20 : M 124 14 = 0 → M 127 2 = 0 := fun h => hF.r0 h 2 (by decide)
  have h30 : M 124 14 = 0 → M 127 3 = 0 := fun h => hF.r0 h 3 (by decide)
  have h40 : M 124 14 = 0 → M 127 4 = 0 := fun h => hF.r0 h 4 (by decide)
  have hwo : M 49 3 = M 129 16 := hN.2.2.2.1
  have t160 := hT.1 16 (by decide)
  have t161 := hT.2.2.2.2.1
  refine zC.of [some (zr 0), some (zi w), some (zi b)] (by decide +kernel) rfl rfl (Nat.le_of_ble_eq_true rfl) rfl ?_
  rcases hcc with ⟨rfl, rfl⟩ | ⟨rfl, rfl⟩
  · have hto : M 2 0 = M 124 14 := hC.1.1
    have hla : M 2 1 = M 127 0 := hC.1.2.1
    have hsn : M 2 2 = M 127 1 := hC.1.2.2.1
    have hcs : M 3 0 = M 127 2 := hC.1.2.2.2.1
    have hca : M 8 0 = M 127 3 := hC.1.2.2.2.2.1
    have hcw : M 13 0 = M 127 4 := hC.1.2.2.2.2.2.1
    have hcb : M 13 1 = M 127 5 := hC.1.2.2.2.2.2.2.1
    have hcor : M 19 0 = M 127 6 := hC.1.2.2.2.2.2.2.2.1
    have hcn : M 19 4 = M 127 7 := hC.1.2.2.2.2.2.2.2.2
    have b4 := bR.2.2.2.2.1
    have hp7 := p7 (n := q_n (M 127) 4) (by omega)
    have htl := q_ts_lt (M 127) (M 129)
    have hto7 : q_ts (M 127) (M 129) < 128 := by omega
    have hol := q_odds_le hR (q_ts (M 127) (M 129))
    have hkl := q_cost_le hR 7 (q_ts (M 127) (M 129))
    refine p_aload_n 1 dX11_meanFirst_0 rfl rfl (by decide) ?_
    refine p_iload_n 2 dX11_meanFirst_1 rfl rfl ?_
    refine p_callV1i 0 5 dX11_meanFirst_2 (s_isWord_2 hW hC hR hco (by omega) (by omega)) lk_X11_208 mX11_isWord rfl rfl (by decide) (Nat.le_of_ble_eq_true rfl) ?_
    rintro _ _ ⟨rfl, e9⟩
    have e9 := e9.symm
    subst e9
    refine p_if_ne 15 8 dX11_meanFirst_5 (by split <;> omega) (by split <;> omega) (fun h5 => ?_) (fun h5 => ?_)
    · have h5 := if_ne0 h5
      obtain ⟨n, rfl⟩ : ∃ k : Nat, w = (k : Int) := ⟨w.toNat, by omega⟩
      have h1 : M 124 14 = 1 := by omega
      have hR1 := hF.r1 h1
      refine p_aload_n 16 dX11_meanFirst_15 rfl rfl (by decide) ?_
      refine p_iload_n 17 dX11_meanFirst_16 rfl rfl ?_
      refine p_callV1i 0 20 dX11_meanFirst_17 (s_canSay_2 hW hC hR hco hN hT (w := n) (by omega)) lk_X11_257 mX11_canSay rfl rfl (by decide) (Nat.le_of_ble_eq_true rfl) ?_
      rintro _ _ ⟨rfl, e9⟩
      have e9 := e9.symm
      subst e9
      refine p_if_ne 30 23 dX11_meanFirst_20 (by split <;> omega) (by split <;> omega) (fun h20 => ?_) (fun h20 => ?_)
      · have hsy : q_say (M 127) (M 129) n = true := if_ne0 h20
        have hne : (q_ts (M 127) (M 129)) ≠ 0 := q_say_ne hR (by omega) hsy
        have hop := q_odds_pos hR hR1 hne htl
        refine p_aload_n 31 dX11_meanFirst_30 rfl rfl (by decide) ?_
        refine p_getR 0 34 dX11_meanFirst_31 fX11_54 rfl (hW (0, 11, 115) (by decide)) ?_
        refine p_aload_n 35 dX11_meanFirst_34 rfl rfl (by decide) ?_
        refine p_getR 0 38 dX11_meanFirst_35 fX11_16 rfl hco ?_
        refine p_getR 2 41 dX11_meanFirst_38 fX11_211 rfl (hW (2, 5, 13) (by decide)) ?_
        refine p_callV1v 115 44 dX11_meanFirst_41 (s_learnS (Or.inl rfl : isC 2) hW hC hR hR1.ex hz0 hsea) lk_X11_239 mX7_learn rfl rfl (by decide) (Nat.le_of_ble_eq_true rfl) ?_
        intro M9 h9
        obtain ⟨g1, g2, g3, g4⟩ := h9
        have hI9 : IC M M9 := hI.learn hF g1 g2 g3 g4
        have hk9 : ∀ k, 124 ≤ k → M9 k = M k := fun k hk => g1 k (by omega)
        have hW := hI9.1
        have hC : ICc (M 127) (M 124 14) 2 M9 := hC.congr (fun a _ _ => g1 a (by omega))
        have hco : M9 0 5 = 2 := (congrFun (g1 0 (by omega)) 5).trans hco
        have hN : ICn (M 129) (M 124 14) 49 M9 := hN.congr (g1 _ (by omega)) (g1 _ (by omega)) (g1 _ (by omega))
        refine p_aload_n 45 dX11_meanFirst_44 rfl rfl (by decide) ?_
        refine p_aload_n 46 dX11_meanFirst_45 rfl rfl (by decide) ?_
        refine p_getR 0 49 dX11_meanFirst_46 fX11_54 rfl (hW (0, 11, 115) (by decide)) ?_
        refine p_aload_n 50 dX11_meanFirst_49 rfl rfl (by decide) ?_
        refine p_getR 0 53 dX11_meanFirst_50 fX11_16 rfl hco ?_
        refine p_getR 2 56 dX11_meanFirst_53 fX11_211 rfl (hW (2, 5, 13) (by decide)) ?_
        refine p_aload_n 57 dX11_meanFirst_56 rfl rfl (by decide) ?_
        refine p_callV0i 0 60 dX11_meanFirst_57 (s_toSay_2 hW hC hR hco hN hT) lk_X11_232 mX11_toSay rfl rfl (by decide) (Nat.le_of_ble_eq_true rfl) ?_
        rintro _ _ ⟨rfl, e9⟩
        have e9 := e9.symm
        subst e9
        rw [q_ts_eq]
        refine p_iload_n 61 dX11_meanFirst_60 rfl rfl ?_
        refine p_callV3i 115 64 dX11_meanFirst_61 (s_costFirst (Or.inl rfl : isC 2) hW hC hR (w := n) hto7 (by omega) (g4 _ htl).1 (g4 _ (Nat.lt_of_le_of_lt (q_del_le _ _) htl)).2.2.2.1) lk_X11_260 mX7_costFirst rfl rfl (by decide) (Nat.le_of_ble_eq_true rfl) ?_
        rintro _ _ ⟨rfl, e9⟩
        have e9 := e9.symm
        subst e9
        refine p_aload_n 65 dX11_meanFirst_64 rfl rfl (by decide) ?_
        refine p_getR 0 68 dX11_meanFirst_65 fX11_54 rfl (hW (0, 11, 115) (by decide)) ?_
        refine p_aload_n 69 dX11_meanFirst_68 rfl rfl (by decide) ?_
        refine p_callV0i 0 72 dX11_meanFirst_69 (s_toSay_2 hW hC hR hco hN hT) lk_X11_232 mX11_toSay rfl rfl (by decide) (Nat.le_of_ble_eq_true rfl) ?_
        rintro _ _ ⟨rfl, e9⟩
        have e9 := e9.symm
        subst e9
        rw [q_ts_eq]
        refine p_callV1i 115 75 dX11_meanFirst_72 (s_oddsOfS hW hR g4 htl) lk_X11_242 mX7_oddsOf rfl rfl (by decide) (Nat.le_of_ble_eq_true rfl) ?_
        rintro _ _ ⟨rfl, e9⟩
        have e9 := e9.symm
        subst e9
        refine p_iload_n 76 dX11_meanFirst_75 rfl rfl ?_
        refine p_callV3l 0 79 dX11_meanFirst_76 (s_grantPart (u := q_cf (q_n (M 127)) (q_ts (M 127) (M 129)) n) (v := (q_odds (q_n (M 127)) (q_ts (M 127) (M 129)))) hb (by have := q_cf_le hR (q_ts (M 127) (M 129)) (w := n) (by omega); omega) (by omega) (by omega)) lk_X11_235 mX11_grantPart rfl rfl (by decide) (Nat.le_of_ble_eq_true rfl) ?_
        rintro _ _ ⟨rfl, e9⟩
        have e9 := e9.symm
        subst e9
        refine p_lret dX11_meanFirst_79 rfl ?_
        exact ⟨_, rfl, CQ.of hI9 hF hk9 (by unfold pa_meanFirst; rw [if_neg (by omega), Int.toNat_natCast, if_pos hsy]) (by unfold pa_meanFirst; rw [if_neg (by omega), Int.toNat_natCast, if_pos hsy]) (by decide)⟩
      · have hsy : ¬ q_say (M 127) (M 129) n = true := if_nne0 h20
        refine p_aload_n 24 dX11_meanFirst_23 rfl rfl (by decide) ?_
        refine p_iconst 25 dX11_meanFirst_24 ?_
        refine p_callV1i 0 28 dX11_meanFirst_25 s_refuse lk_X11_73 mX11_refuse rfl rfl (by decide) (Nat.le_of_ble_eq_true rfl) ?_
        rintro _ _ ⟨rfl, rfl⟩
        refine p_i2l 29 dX11_meanFirst_28 ?_
        refine p_lret dX11_meanFirst_29 rfl ?_
        exact ⟨_, rfl, CQ.of hI hF (fun k _ => rfl) (by unfold pa_meanFirst; rw [if_neg (by omega), Int.toNat_natCast, if_neg hsy]; rfl) (by unfold pa_meanFirst; rw [if_neg (by omega), Int.toNat_natCast, if_neg hsy]) (by decide)⟩
    · have h5 := if_nne0 h5
      refine p_aload_n 9 dX11_meanFirst_8 rfl rfl (by decide) ?_
      refine p_iconst 10 dX11_meanFirst_9 ?_
      refine p_callV1i 0 13 dX11_meanFirst_10 s_refuse lk_X11_73 mX11_refuse rfl rfl (by decide) (Nat.le_of_ble_eq_true rfl) ?_
      rintro _ _ ⟨rfl, rfl⟩
      refine p_i2l 14 dX11_meanFirst_13 ?_
      refine p_lret dX11_meanFirst_14 rfl ?_
      exact ⟨_, rfl, CQ.of hI hF (fun k _ => rfl) (by unfold pa_meanFirst; (repeat' split) <;> first | rfl | (exfalso; omega)) (by unfold pa_meanFirst; (repeat' split) <;> first | rfl | (exfalso; omega)) (by decide)⟩
  · have hto : M 25 0 = M 124 14 := hC.1.1
    have hla : M 25 1 = M 127 0 := hC.1.2.1
    have hsn : M 25 2 = M 127 1 := hC.1.2.2.1
    have hcs : M 26 0 = M 127 2 := hC.1.2.2.2.1
    have hca : M 31 0 = M 127 3 := hC.1.2.2.2.2.1
    have hcw : M 36 0 = M 127 4 := hC.1.2.2.2.2.2.1
    have hcb : M 36 1 = M 127 5 := hC.1.2.2.2.2.2.2.1
    have hcor : M 42 0 = M 127 6 := hC.1.2.2.2.2.2.2.2.1
    have hcn : M 42 4 = M 127 7 := hC.1.2.2.2.2.2.2.2.2
    have b4 := bR.2.2.2.2.1
    have hp7 := p7 (n := q_n (M 127) 4) (by omega)
    have htl := q_ts_lt (M 127) (M 129)
    have hto7 : q_ts (M 127) (M 129) < 128 := by omega
    have hol := q_odds_le hR (q_ts (M 127) (M 129))
    have hkl := q_cost_le hR 7 (q_ts (M 127) (M 129))
    refine p_aload_n 1 dX11_meanFirst_0 rfl rfl (by decide) ?_
    refine p_iload_n 2 dX11_meanFirst_1 rfl rfl ?_
    refine p_callV1i 0 5 dX11_meanFirst_2 (s_isWord_25 hW hC hR hco (by omega) (by omega)) lk_X11_208 mX11_isWord rfl rfl (by decide) (Nat.le_of_ble_eq_true rfl) ?_
    rintro _ _ ⟨rfl, e9⟩
    have e9 := e9.symm
    subst e9
    refine p_if_ne 15 8 dX11_meanFirst_5 (by split <;> omega) (by split <;> omega) (fun h5 => ?_) (fun h5 => ?_)
    · have h5 := if_ne0 h5
      obtain ⟨n, rfl⟩ : ∃ k : Nat, w = (k : Int) := ⟨w.toNat, by omega⟩
      have h1 : M 124 14 = 1 := by omega
      have hR1 := hF.r1 h1
      refine p_aload_n 16 dX11_meanFirst_15 rfl rfl (by decide) ?_
      refine p_iload_n 17 dX11_meanFirst_16 rfl rfl ?_
      refine p_callV1i 0 20 dX11_meanFirst_17 (s_canSay_25 hW hC hR hco hN hT (w := n) (by omega)) lk_X11_257 mX11_canSay rfl rfl (by decide) (Nat.le_of_ble_eq_true rfl) ?_
      rintro _ _ ⟨rfl, e9⟩
      have e9 := e9.symm
      subst e9
      refine p_if_ne 30 23 dX11_meanFirst_20 (by split <;> omega) (by split <;> omega) (fun h20 => ?_) (fun h20 => ?_)
      · have hsy : q_say (M 127) (M 129) n = true := if_ne0 h20
        have hne : (q_ts (M 127) (M 129)) ≠ 0 := q_say_ne hR (by omega) hsy
        have hop := q_odds_pos hR hR1 hne htl
        refine p_aload_n 31 dX11_meanFirst_30 rfl rfl (by decide) ?_
        refine p_getR 0 34 dX11_meanFirst_31 fX11_54 rfl (hW (0, 11, 115) (by decide)) ?_
        refine p_aload_n 35 dX11_meanFirst_34 rfl rfl (by decide) ?_
        refine p_getR 0 38 dX11_meanFirst_35 fX11_16 rfl hco ?_
        refine p_getR 25 41 dX11_meanFirst_38 fX11_211 rfl (hW (25, 5, 36) (by decide)) ?_
        refine p_callV1v 115 44 dX11_meanFirst_41 (s_learnS (Or.inr rfl : isC 25) hW hC hR hR1.ex hz0 hsea) lk_X11_239 mX7_learn rfl rfl (by decide) (Nat.le_of_ble_eq_true rfl) ?_
        intro M9 h9
        obtain ⟨g1, g2, g3, g4⟩ := h9
        have hI9 : IC M M9 := hI.learn hF g1 g2 g3 g4
        have hk9 : ∀ k, 124 ≤ k → M9 k = M k := fun k hk => g1 k (by omega)
        have hW := hI9.1
        have hC : ICc (M 127) (M 124 14) 25 M9 := hC.congr (fun a _ _ => g1 a (by omega))
        have hco : M9 0 5 = 25 := (congrFun (g1 0 (by omega)) 5).trans hco
        have hN : ICn (M 129) (M 124 14) 49 M9 := hN.congr (g1 _ (by omega)) (g1 _ (by omega)) (g1 _ (by omega))
        refine p_aload_n 45 dX11_meanFirst_44 rfl rfl (by decide) ?_
        refine p_aload_n 46 dX11_meanFirst_45 rfl rfl (by decide) ?_
        refine p_getR 0 49 dX11_meanFirst_46 fX11_54 rfl (hW (0, 11, 115) (by decide)) ?_
        refine p_aload_n 50 dX11_meanFirst_49 rfl rfl (by decide) ?_
        refine p_getR 0 53 dX11_meanFirst_50 fX11_16 rfl hco ?_
        refine p_getR 25 56 dX11_meanFirst_53 fX11_211 rfl (hW (25, 5, 36) (by decide)) ?_
        refine p_aload_n 57 dX11_meanFirst_56 rfl rfl (by decide) ?_
        refine p_callV0i 0 60 dX11_meanFirst_57 (s_toSay_25 hW hC hR hco hN hT) lk_X11_232 mX11_toSay rfl rfl (by decide) (Nat.le_of_ble_eq_true rfl) ?_
        rintro _ _ ⟨rfl, e9⟩
        have e9 := e9.symm
        subst e9
        rw [q_ts_eq]
        refine p_iload_n 61 dX11_meanFirst_60 rfl rfl ?_
        refine p_callV3i 115 64 dX11_meanFirst_61 (s_costFirst (Or.inr rfl : isC 25) hW hC hR (w := n) hto7 (by omega) (g4 _ htl).1 (g4 _ (Nat.lt_of_le_of_lt (q_del_le _ _) htl)).2.2.2.1) lk_X11_260 mX7_costFirst rfl rfl (by decide) (Nat.le_of_ble_eq_true rfl) ?_
        rintro _ _ ⟨rfl, e9⟩
        have e9 := e9.symm
        subst e9
        refine p_aload_n 65 dX11_meanFirst_64 rfl rfl (by decide) ?_
        refine p_getR 0 68 dX11_meanFirst_65 fX11_54 rfl (hW (0, 11, 115) (by decide)) ?_
        refine p_aload_n 69 dX11_meanFirst_68 rfl rfl (by decide) ?_
        refine p_callV0i 0 72 dX11_meanFirst_69 (s_toSay_25 hW hC hR hco hN hT) lk_X11_232 mX11_toSay rfl rfl (by decide) (Nat.le_of_ble_eq_true rfl) ?_
        rintro _ _ ⟨rfl, e9⟩
        have e9 := e9.symm
        subst e9
        rw [q_ts_eq]
        refine p_callV1i 115 75 dX11_meanFirst_72 (s_oddsOfS hW hR g4 htl) lk_X11_242 mX7_oddsOf rfl rfl (by decide) (Nat.le_of_ble_eq_true rfl) ?_
        rintro _ _ ⟨rfl, e9⟩
        have e9 := e9.symm
        subst e9
        refine p_iload_n 76 dX11_meanFirst_75 rfl rfl ?_
        refine p_callV3l 0 79 dX11_meanFirst_76 (s_grantPart (u := q_cf (q_n (M 127)) (q_ts (M 127) (M 129)) n) (v := (q_odds (q_n (M 127)) (q_ts (M 127) (M 129)))) hb (by have := q_cf_le hR (q_ts (M 127) (M 129)) (w := n) (by omega); omega) (by omega) (by omega)) lk_X11_235 mX11_grantPart rfl rfl (by decide) (Nat.le_of_ble_eq_true rfl) ?_
        rintro _ _ ⟨rfl, e9⟩
        have e9 := e9.symm
        subst e9
        refine p_lret dX11_meanFirst_79 rfl ?_
        exact ⟨_, rfl, CQ.of hI9 hF hk9 (by unfold pa_meanFirst; rw [if_neg (by omega), Int.toNat_natCast, if_pos hsy]) (by unfold pa_meanFirst; rw [if_neg (by omega), Int.toNat_natCast, if_pos hsy]) (by decide)⟩
      · have hsy : ¬ q_say (M 127) (M 129) n = true := if_nne0 h20
        refine p_aload_n 24 dX11_meanFirst_23 rfl rfl (by decide) ?_
        refine p_iconst 25 dX11_meanFirst_24 ?_
        refine p_callV1i 0 28 dX11_meanFirst_25 s_refuse lk_X11_73 mX11_refuse rfl rfl (by decide) (Nat.le_of_ble_eq_true rfl) ?_
        rintro _ _ ⟨rfl, rfl⟩
        refine p_i2l 29 dX11_meanFirst_28 ?_
        refine p_lret dX11_meanFirst_29 rfl ?_
        exact ⟨_, rfl, CQ.of hI hF (fun k _ => rfl) (by unfold pa_meanFirst; rw [if_neg (by omega), Int.toNat_natCast, if_neg hsy]; rfl) (by unfold pa_meanFirst; rw [if_neg (by omega), Int.toNat_natCast, if_neg hsy]) (by decide)⟩
    · have h5 := if_nne0 h5
      refine p_aload_n 9 dX11_meanFirst_8 rfl rfl (by decide) ?_
      refine p_iconst 10 dX11_meanFirst_9 ?_
      refine p_callV1i 0 13 dX11_meanFirst_10 s_refuse lk_X11_73 mX11_refuse rfl rfl (by decide) (Nat.le_of_ble_eq_true rfl) ?_
      rintro _ _ ⟨rfl, rfl⟩
      refine p_i2l 14 dX11_meanFirst_13 ?_
      refine p_lret dX11_meanFirst_14 rfl ?_
      exact ⟨_, rfl, CQ.of hI hF (fun k _ => rfl) (by unfold pa_meanFirst; (repeat' split) <;> first | rfl | (exfalso; omega)) (by unfold pa_meanFirst; (repeat' split) <;> first | rfl | (exfalso; omega)) (by decide)⟩
theorem c_within {l : Launch} {X : ZX} {M : ZM} (hI : IC M M) (hF : WF M) {v b : Int} (hv1 : -2147483648 ≤ v) (hv2 : v < 2147483648) (hb : b = 0 ∨ b = 1) : zCl l X 4 yX11_within tX11_within [zr 0, zi v, zi b] M (CQ M (pa_within (M 124 14) (M 127) (M 129) v b)) := by
  obtain ⟨hW, ⟨c, c', hcc, hco, hsp, hC⟩, ⟨j1, j2, j3, j4, j5⟩, hN, hpast, hten, ⟨hz0, hsea⟩, hfit⟩ := id hI
  have hR := hF.r
  have hT := hF.t
  have hh := hF.h
  have e0 : M 127 0 = (q_n (M 127) 0 : Int) := hR.n (by decide)
  have e2 : M 127 2 = (q_n (M 127) 2 : Int) := hR.n (by decide)
  have e3 : M 127 3 = (q_n (M 127) 3 : Int) := hR.n (by decide)
  have e4 : M 127 4 = (q_n (M 127) 4 : Int) := hR.n (by decide)
  have bR := hR.2.1
  have h20 : M 124 14 = 0 → M 127 2 = 0 := fun h => hF.r0 h 2 (by decide)
  have h30 : M 124 14 = 0 → M 127 3 = 0 := fun h => hF.r0 h 3 (by decide)
  have h40 : M 124 14 = 0 → M 127 4 = 0 := fun h => hF.r0 h 4 (by decide)
  have hwo : M 49 3 = M 129 16 := hN.2.2.2.1
  have t160 := hT.1 16 (by decide)
  have t161 := hT.2.2.2.2.1
  refine zC.of [some (zr 0), some (zi v), some (zi b), none] (by decide +kernel) rfl rfl (Nat.le_of_ble_eq_true rfl) rfl ?_
  rcases hcc with ⟨rfl, rfl⟩ | ⟨rfl, rfl⟩
  · have hto : M 2 0 = M 124 14 := hC.1.1
    have hla : M 2 1 = M 127 0 := hC.1.2.1
    have hsn : M 2 2 = M 127 1 := hC.1.2.2.1
    have hcs : M 3 0 = M 127 2 := hC.1.2.2.2.1
    have hca : M 8 0 = M 127 3 := hC.1.2.2.2.2.1
    have hcw : M 13 0 = M 127 4 := hC.1.2.2.2.2.2.1
    have hcb : M 13 1 = M 127 5 := hC.1.2.2.2.2.2.2.1
    have hcor : M 19 0 = M 127 6 := hC.1.2.2.2.2.2.2.2.1
    have hcn : M 19 4 = M 127 7 := hC.1.2.2.2.2.2.2.2.2
    have b4 := bR.2.2.2.2.1
    have hp7 := p7 (n := q_n (M 127) 4) (by omega)
    have htl := q_ts_lt (M 127) (M 129)
    have hto7 : q_ts (M 127) (M 129) < 128 := by omega
    have hol := q_odds_le hR (q_ts (M 127) (M 129))
    have hkl := q_cost_le hR 7 (q_ts (M 127) (M 129))
    refine p_aload_n 1 dX11_within_0 rfl rfl (by decide) ?_
    refine p_getR 0 4 dX11_within_1 fX11_16 rfl hco ?_
    refine p_getI 2 7 dX11_within_4 fX11_114 rfl ?_
    rw [hto]
    refine p_if_ne 17 10 dX11_within_7 (by omega) (by omega) (fun h7 => ?_) (fun h7 => ?_)
    · have h1 : M 124 14 = 1 := by omega
      have hR1 := hF.r1 h1
      refine p_iload_n 18 dX11_within_17 rfl rfl ?_
      refine p_if_lt 28 21 dX11_within_18 (by omega) (by omega) (fun h18 => ?_) (fun h18 => ?_)
      · refine p_aload_n 29 dX11_within_28 rfl rfl (by decide) ?_
        refine p_iconst 30 dX11_within_29 ?_
        refine p_callV1i 0 33 dX11_within_30 s_refuse lk_X11_73 mX11_refuse rfl rfl (by decide) (Nat.le_of_ble_eq_true rfl) ?_
        rintro _ _ ⟨rfl, rfl⟩
        refine p_i2l 34 dX11_within_33 ?_
        refine p_lret dX11_within_34 rfl ?_
        exact ⟨_, rfl, CQ.of hI hF (fun k _ => rfl) (by unfold pa_within; (repeat' split) <;> first | rfl | (exfalso; omega)) (by unfold pa_within; (repeat' split) <;> first | rfl | (exfalso; omega)) (by decide)⟩
      · refine p_iload_n 22 dX11_within_21 rfl rfl ?_
        refine p_sipush 25 dX11_within_22 rfl ?_
        refine p_icmp_le 35 28 dX11_within_25 (by omega) (by omega) (by omega) (by omega) (fun h25 => ?_) (fun h25 => ?_)
        · refine p_aload_n 36 dX11_within_35 rfl rfl (by decide) ?_
          refine p_callV0i 0 39 dX11_within_36 (s_toSay_2 hW hC hR hco hN hT) lk_X11_232 mX11_toSay rfl rfl (by decide) (Nat.le_of_ble_eq_true rfl) ?_
          rintro _ _ ⟨rfl, e9⟩
          have e9 := e9.symm
          subst e9
          rw [q_ts_eq]
          refine p_if_ne 50 42 dX11_within_39 (by omega) (by omega) (fun h39 => ?_) (fun h39 => ?_)
          · have hop := q_odds_pos hR hR1 (show (q_ts (M 127) (M 129)) ≠ 0 by omega) htl
            have hlk := q_lk_le (M 127) (q_ts (M 127) (M 129)) v ((q_ts (M 127) (M 129)) + 1)
            refine p_aload_n 51 dX11_within_50 rfl rfl (by decide) ?_
            refine p_getR 0 54 dX11_within_51 fX11_54 rfl (hW (0, 11, 115) (by decide)) ?_
            refine p_aload_n 55 dX11_within_54 rfl rfl (by decide) ?_
            refine p_getR 0 58 dX11_within_55 fX11_16 rfl hco ?_
            refine p_getR 2 61 dX11_within_58 fX11_211 rfl (hW (2, 5, 13) (by decide)) ?_
            refine p_callV1v 115 64 dX11_within_61 (s_learnS (Or.inl rfl : isC 2) hW hC hR hR1.ex hz0 hsea) lk_X11_239 mX7_learn rfl rfl (by decide) (Nat.le_of_ble_eq_true rfl) ?_
            intro M9 h9
            obtain ⟨g1, g2, g3, g4⟩ := h9
            have hI9 : IC M M9 := hI.learn hF g1 g2 g3 g4
            have hk9 : ∀ k, 124 ≤ k → M9 k = M k := fun k hk => g1 k (by omega)
            have hW := hI9.1
            have hC : ICc (M 127) (M 124 14) 2 M9 := hC.congr (fun a _ _ => g1 a (by omega))
            have hco : M9 0 5 = 2 := (congrFun (g1 0 (by omega)) 5).trans hco
            have hN : ICn (M 129) (M 124 14) 49 M9 := hN.congr (g1 _ (by omega)) (g1 _ (by omega)) (g1 _ (by omega))
            refine p_aload_n 65 dX11_within_64 rfl rfl (by decide) ?_
            refine p_getR 0 68 dX11_within_65 fX11_54 rfl (hW (0, 11, 115) (by decide)) ?_
            refine p_aload_n 69 dX11_within_68 rfl rfl (by decide) ?_
            refine p_callV0i 0 72 dX11_within_69 (s_toSay_2 hW hC hR hco hN hT) lk_X11_232 mX11_toSay rfl rfl (by decide) (Nat.le_of_ble_eq_true rfl) ?_
            rintro _ _ ⟨rfl, e9⟩
            have e9 := e9.symm
            subst e9
            rw [q_ts_eq]
            refine p_iload_n 73 dX11_within_72 rfl rfl ?_
            refine p_callV2i 115 76 dX11_within_73 (s_likeliestIn hW hR g4 htl (by omega) (by omega)) lk_X11_263 mX7_likeliestIn rfl rfl (by decide) (Nat.le_of_ble_eq_true rfl) ?_
            rintro _ _ ⟨rfl, e9⟩
            have e9 := e9.symm
            subst e9
            refine p_istore_n 77 dX11_within_76 rfl (Nat.le_of_ble_eq_true rfl) rfl rfl ?_
            dsimp only [List.set]
            refine p_aload_n 78 dX11_within_77 rfl rfl (by decide) ?_
            refine p_aload_n 79 dX11_within_78 rfl rfl (by decide) ?_
            refine p_getR 0 82 dX11_within_79 fX11_54 rfl (hW (0, 11, 115) (by decide)) ?_
            refine p_iload_n 83 dX11_within_82 rfl rfl ?_
            refine p_callV1i 115 86 dX11_within_83 (s_oddsOfS hW hR g4 (S := (q_lk (M 127) (q_ts (M 127) (M 129)) v ((q_ts (M 127) (M 129)) + 1))) (by omega)) lk_X11_242 mX7_oddsOf rfl rfl (by decide) (Nat.le_of_ble_eq_true rfl) ?_
            rintro _ _ ⟨rfl, e9⟩
            have e9 := e9.symm
            subst e9
            refine p_aload_n 87 dX11_within_86 rfl rfl (by decide) ?_
            refine p_getR 0 90 dX11_within_87 fX11_54 rfl (hW (0, 11, 115) (by decide)) ?_
            refine p_aload_n 91 dX11_within_90 rfl rfl (by decide) ?_
            refine p_callV0i 0 94 dX11_within_91 (s_toSay_2 hW hC hR hco hN hT) lk_X11_232 mX11_toSay rfl rfl (by decide) (Nat.le_of_ble_eq_true rfl) ?_
            rintro _ _ ⟨rfl, e9⟩
            have e9 := e9.symm
            subst e9
            rw [q_ts_eq]
            refine p_callV1i 115 97 dX11_within_94 (s_oddsOfS hW hR g4 htl) lk_X11_242 mX7_oddsOf rfl rfl (by decide) (Nat.le_of_ble_eq_true rfl) ?_
            rintro _ _ ⟨rfl, e9⟩
            have e9 := e9.symm
            subst e9
            refine p_iload_n 98 dX11_within_97 rfl rfl ?_
            refine p_callV3l 0 101 dX11_within_98 (s_grantPart (u := q_odds (q_n (M 127)) (q_lk (M 127) (q_ts (M 127) (M 129)) v ((q_ts (M 127) (M 129)) + 1))) (v := (q_odds (q_n (M 127)) (q_ts (M 127) (M 129)))) hb (by have := q_odds_le hR (q_lk (M 127) (q_ts (M 127) (M 129)) v ((q_ts (M 127) (M 129)) + 1)); omega) (by omega) (by omega)) lk_X11_235 mX11_grantPart rfl rfl (by decide) (Nat.le_of_ble_eq_true rfl) ?_
            rintro _ _ ⟨rfl, e9⟩
            have e9 := e9.symm
            subst e9
            refine p_lret dX11_within_101 rfl ?_
            exact ⟨_, rfl, CQ.of hI9 hF hk9 (by unfold pa_within; (repeat' split) <;> first | rfl | (exfalso; omega)) (by unfold pa_within; (repeat' split) <;> first | rfl | (exfalso; omega)) (by decide)⟩
          · refine p_aload_n 43 dX11_within_42 rfl rfl (by decide) ?_
            refine p_iconst 44 dX11_within_43 ?_
            refine p_iconst 45 dX11_within_44 ?_
            refine p_iload_n 46 dX11_within_45 rfl rfl ?_
            refine p_callV3l 0 49 dX11_within_46 (s_grantPart (u := 0) (v := 1) hb (by omega) (by omega) (by omega)) lk_X11_235 mX11_grantPart rfl rfl (by decide) (Nat.le_of_ble_eq_true rfl) ?_
            rintro _ _ ⟨rfl, e9⟩
            have e9 := e9.symm
            subst e9
            refine p_lret dX11_within_49 rfl ?_
            exact ⟨_, rfl, CQ.of hI hF (fun k _ => rfl) (by unfold pa_within; (repeat' split) <;> first | rfl | (exfalso; omega)) (by unfold pa_within; (repeat' split) <;> first | rfl | (exfalso; omega)) (by decide)⟩
        · refine p_aload_n 29 dX11_within_28 rfl rfl (by decide) ?_
          refine p_iconst 30 dX11_within_29 ?_
          refine p_callV1i 0 33 dX11_within_30 s_refuse lk_X11_73 mX11_refuse rfl rfl (by decide) (Nat.le_of_ble_eq_true rfl) ?_
          rintro _ _ ⟨rfl, rfl⟩
          refine p_i2l 34 dX11_within_33 ?_
          refine p_lret dX11_within_34 rfl ?_
          exact ⟨_, rfl, CQ.of hI hF (fun k _ => rfl) (by unfold pa_within; (repeat' split) <;> first | rfl | (exfalso; omega)) (by unfold pa_within; (repeat' split) <;> first | rfl | (exfalso; omega)) (by decide)⟩
    · refine p_aload_n 11 dX11_within_10 rfl rfl (by decide) ?_
      refine p_iconst 12 dX11_within_11 ?_
      refine p_callV1i 0 15 dX11_within_12 s_refuse lk_X11_73 mX11_refuse rfl rfl (by decide) (Nat.le_of_ble_eq_true rfl) ?_
      rintro _ _ ⟨rfl, rfl⟩
      refine p_i2l 16 dX11_within_15 ?_
      refine p_lret dX11_within_16 rfl ?_
      exact ⟨_, rfl, CQ.of hI hF (fun k _ => rfl) (by unfold pa_within; (repeat' split) <;> first | rfl | (exfalso; omega)) (by unfold pa_within; (repeat' split) <;> first | rfl | (exfalso; omega)) (by decide)⟩
  · have hto : M 25 0 = M 124 14 := hC.1.1
    have hla : M 25 1 = M 127 0 := hC.1.2.1
    have hsn : M 25 2 = M 127 1 := hC.1.2.2.1
    have hcs : M 26 0 = M 127 2 := hC.1.2.2.2.1
    have hca : M 31 0 = M 127 3 := hC.1.2.2.2.2.1
    have hcw : M 36 0 = M 127 4 := hC.1.2.2.2.2.2.1
    have hcb : M 36 1 = M 127 5 := hC.1.2.2.2.2.2.2.1
    have hcor : M 42 0 = M 127 6 := hC.1.2.2.2.2.2.2.2.1
    have hcn : M 42 4 = M 127 7 := hC.1.2.2.2.2.2.2.2.2
    have b4 := bR.2.2.2.2.1
    have hp7 := p7 (n := q_n (M 127) 4) (by omega)
    have htl := q_ts_lt (M 127) (M 129)
    have hto7 : q_ts (M 127) (M 129) < 128 := by omega
    have hol := q_odds_le hR (q_ts (M 127) (M 129))
    have hkl := q_cost_le hR 7 (q_ts (M 127) (M 129))
    refine p_aload_n 1 dX11_within_0 rfl rfl (by decide) ?_
    refine p_getR 0 4 dX11_within_1 fX11_16 rfl hco ?_
    refine p_getI 25 7 dX11_within_4 fX11_114 rfl ?_
    rw [hto]
    refine p_if_ne 17 10 dX11_within_7 (by omega) (by omega) (fun h7 => ?_) (fun h7 => ?_)
    · have h1 : M 124 14 = 1 := by omega
      have hR1 := hF.r1 h1
      refine p_iload_n 18 dX11_within_17 rfl rfl ?_
      refine p_if_lt 28 21 dX11_within_18 (by omega) (by omega) (fun h18 => ?_) (fun h18 => ?_)
      · refine p_aload_n 29 dX11_within_28 rfl rfl (by decide) ?_
        refine p_iconst 30 dX11_within_29 ?_
        refine p_callV1i 0 33 dX11_within_30 s_refuse lk_X11_73 mX11_refuse rfl rfl (by decide) (Nat.le_of_ble_eq_true rfl) ?_
        rintro _ _ ⟨rfl, rfl⟩
        refine p_i2l 34 dX11_within_33 ?_
        refine p_lret dX11_within_34 rfl ?_
        exact ⟨_, rfl, CQ.of hI hF (fun k _ => rfl) (by unfold pa_within; (repeat' split) <;> first | rfl | (exfalso; omega)) (by unfold pa_within; (repeat' split) <;> first | rfl | (exfalso; omega)) (by decide)⟩
      · refine p_iload_n 22 dX11_within_21 rfl rfl ?_
        refine p_sipush 25 dX11_within_22 rfl ?_
        refine p_icmp_le 35 28 dX11_within_25 (by omega) (by omega) (by omega) (by omega) (fun h25 => ?_) (fun h25 => ?_)
        · refine p_aload_n 36 dX11_within_35 rfl rfl (by decide) ?_
          refine p_callV0i 0 39 dX11_within_36 (s_toSay_25 hW hC hR hco hN hT) lk_X11_232 mX11_toSay rfl rfl (by decide) (Nat.le_of_ble_eq_true rfl) ?_
          rintro _ _ ⟨rfl, e9⟩
          have e9 := e9.symm
          subst e9
          rw [q_ts_eq]
          refine p_if_ne 50 42 dX11_within_39 (by omega) (by omega) (fun h39 => ?_) (fun h39 => ?_)
          · have hop := q_odds_pos hR hR1 (show (q_ts (M 127) (M 129)) ≠ 0 by omega) htl
            have hlk := q_lk_le (M 127) (q_ts (M 127) (M 129)) v ((q_ts (M 127) (M 129)) + 1)
            refine p_aload_n 51 dX11_within_50 rfl rfl (by decide) ?_
            refine p_getR 0 54 dX11_within_51 fX11_54 rfl (hW (0, 11, 115) (by decide)) ?_
            refine p_aload_n 55 dX11_within_54 rfl rfl (by decide) ?_
            refine p_getR 0 58 dX11_within_55 fX11_16 rfl hco ?_
            refine p_getR 25 61 dX11_within_58 fX11_211 rfl (hW (25, 5, 36) (by decide)) ?_
            refine p_callV1v 115 64 dX11_within_61 (s_learnS (Or.inr rfl : isC 25) hW hC hR hR1.ex hz0 hsea) lk_X11_239 mX7_learn rfl rfl (by decide) (Nat.le_of_ble_eq_true rfl) ?_
            intro M9 h9
            obtain ⟨g1, g2, g3, g4⟩ := h9
            have hI9 : IC M M9 := hI.learn hF g1 g2 g3 g4
            have hk9 : ∀ k, 124 ≤ k → M9 k = M k := fun k hk => g1 k (by omega)
            have hW := hI9.1
            have hC : ICc (M 127) (M 124 14) 25 M9 := hC.congr (fun a _ _ => g1 a (by omega))
            have hco : M9 0 5 = 25 := (congrFun (g1 0 (by omega)) 5).trans hco
            have hN : ICn (M 129) (M 124 14) 49 M9 := hN.congr (g1 _ (by omega)) (g1 _ (by omega)) (g1 _ (by omega))
            refine p_aload_n 65 dX11_within_64 rfl rfl (by decide) ?_
            refine p_getR 0 68 dX11_within_65 fX11_54 rfl (hW (0, 11, 115) (by decide)) ?_
            refine p_aload_n 69 dX11_within_68 rfl rfl (by decide) ?_
            refine p_callV0i 0 72 dX11_within_69 (s_toSay_25 hW hC hR hco hN hT) lk_X11_232 mX11_toSay rfl rfl (by decide) (Nat.le_of_ble_eq_true rfl) ?_
            rintro _ _ ⟨rfl, e9⟩
            have e9 := e9.symm
            subst e9
            rw [q_ts_eq]
            refine p_iload_n 73 dX11_within_72 rfl rfl ?_
            refine p_callV2i 115 76 dX11_within_73 (s_likeliestIn hW hR g4 htl (by omega) (by omega)) lk_X11_263 mX7_likeliestIn rfl rfl (by decide) (Nat.le_of_ble_eq_true rfl) ?_
            rintro _ _ ⟨rfl, e9⟩
            have e9 := e9.symm
            subst e9
            refine p_istore_n 77 dX11_within_76 rfl (Nat.le_of_ble_eq_true rfl) rfl rfl ?_
            dsimp only [List.set]
            refine p_aload_n 78 dX11_within_77 rfl rfl (by decide) ?_
            refine p_aload_n 79 dX11_within_78 rfl rfl (by decide) ?_
            refine p_getR 0 82 dX11_within_79 fX11_54 rfl (hW (0, 11, 115) (by decide)) ?_
            refine p_iload_n 83 dX11_within_82 rfl rfl ?_
            refine p_callV1i 115 86 dX11_within_83 (s_oddsOfS hW hR g4 (S := (q_lk (M 127) (q_ts (M 127) (M 129)) v ((q_ts (M 127) (M 129)) + 1))) (by omega)) lk_X11_242 mX7_oddsOf rfl rfl (by decide) (Nat.le_of_ble_eq_true rfl) ?_
            rintro _ _ ⟨rfl, e9⟩
            have e9 := e9.symm
            subst e9
            refine p_aload_n 87 dX11_within_86 rfl rfl (by decide) ?_
            refine p_getR 0 90 dX11_within_87 fX11_54 rfl (hW (0, 11, 115) (by decide)) ?_
            refine p_aload_n 91 dX11_within_90 rfl rfl (by decide) ?_
            refine p_callV0i 0 94 dX11_within_91 (s_toSay_25 hW hC hR hco hN hT) lk_X11_232 mX11_toSay rfl rfl (by decide) (Nat.le_of_ble_eq_true rfl) ?_
            rintro _ _ ⟨rfl, e9⟩
            have e9 := e9.symm
            subst e9
            rw [q_ts_eq]
            refine p_callV1i 115 97 dX11_within_94 (s_oddsOfS hW hR g4 htl) lk_X11_242 mX7_oddsOf rfl rfl (by decide) (Nat.le_of_ble_eq_true rfl) ?_
            rintro _ _ ⟨rfl, e9⟩
            have e9 := e9.symm
            subst e9
            refine p_iload_n 98 dX11_within_97 rfl rfl ?_
            refine p_callV3l 0 101 dX11_within_98 (s_grantPart (u := q_odds (q_n (M 127)) (q_lk (M 127) (q_ts (M 127) (M 129)) v ((q_ts (M 127) (M 129)) + 1))) (v := (q_odds (q_n (M 127)) (q_ts (M 127) (M 129)))) hb (by have := q_odds_le hR (q_lk (M 127) (q_ts (M 127) (M 129)) v ((q_ts (M 127) (M 129)) + 1)); omega) (by omega) (by omega)) lk_X11_235 mX11_grantPart rfl rfl (by decide) (Nat.le_of_ble_eq_true rfl) ?_
            rintro _ _ ⟨rfl, e9⟩
            have e9 := e9.symm
            subst e9
            refine p_lret dX11_within_101 rfl ?_
            exact ⟨_, rfl, CQ.of hI9 hF hk9 (by unfold pa_within; (repeat' split) <;> first | rfl | (exfalso; omega)) (by unfold pa_within; (repeat' split) <;> first | rfl | (exfalso; omega)) (by decide)⟩
          · refine p_aload_n 43 dX11_within_42 rfl rfl (by decide) ?_
            refine p_iconst 44 dX11_within_43 ?_
            refine p_iconst 45 dX11_within_44 ?_
            refine p_iload_n 46 dX11_within_45 rfl rfl ?_
            refine p_callV3l 0 49 dX11_within_46 (s_grantPart (u := 0) (v := 1) hb (by omega) (by omega) (by omega)) lk_X11_235 mX11_grantPart rfl rfl (by decide) (Nat.le_of_ble_eq_true rfl) ?_
            rintro _ _ ⟨rfl, e9⟩
            have e9 := e9.symm
            subst e9
            refine p_lret dX11_within_49 rfl ?_
            exact ⟨_, rfl, CQ.of hI hF (fun k _ => rfl) (by unfold pa_within; (repeat' split) <;> first | rfl | (exfalso; omega)) (by unfold pa_within; (repeat' split) <;> first | rfl | (exfalso; omega)) (by decide)⟩
        · refine p_aload_n 29 dX11_within_28 rfl rfl (by decide) ?_
          refine p_iconst 30 dX11_within_29 ?_
          refine p_callV1i 0 33 dX11_within_30 s_refuse lk_X11_73 mX11_refuse rfl rfl (by decide) (Nat.le_of_ble_eq_true rfl) ?_
          rintro _ _ ⟨rfl, rfl⟩
          refine p_i2l 34 dX11_within_33 ?_
          refine p_lret dX11_within_34 rfl ?_
          exact ⟨_, rfl, CQ.of hI hF (fun k _ => rfl) (by unfold pa_within; (repeat' split) <;> first | rfl | (exfalso; omega)) (by unfold pa_within; (repeat' split) <;> first | rfl | (exfalso; omega)) (by decide)⟩
    · refine p_aload_n 11 dX11_within_10 rfl rfl (by decide) ?_
      refine p_iconst 12 dX11_within_11 ?_
      refine p_callV1i 0 15 dX11_within_12 s_refuse lk_X11_73 mX11_refuse rfl rfl (by decide) (Nat.le_of_ble_eq_true rfl) ?_
      rintro _ _ ⟨rfl, rfl⟩
      refine p_i2l 16 dX11_within_15 ?_
      refine p_lret dX11_within_16 rfl ?_
      exact ⟨_, rfl, CQ.of hI hF (fun k _ => rfl) (by unfold pa_within; (repeat' split) <;> first | rfl | (exfalso; omega)) (by unfold pa_within; (repeat' split) <;> first | rfl | (exfalso; omega)) (by decide)⟩
theorem c_withinWords {l : Launch} {X : ZX} {M : ZM} (hI : IC M M) (hF : WF M) {v : Int} (hv1 : -2147483648 ≤ v) (hv2 : v < 2147483648) : zCi l X 4 yX11_withinWords tX11_withinWords [zr 0, zi v] M (CQ M (pa_withinWords (M 124 14) (M 127) (M 129) v)) := by
  obtain ⟨hW, ⟨c, c', hcc, hco, hsp, hC⟩, ⟨j1, j2, j3, j4, j5⟩, hN, hpast, hten, ⟨hz0, hsea⟩, hfit⟩ := id hI
  have hR := hF.r
  have hT := hF.t
  have hh := hF.h
  have e0 : M 127 0 = (q_n (M 127) 0 : Int) := hR.n (by decide)
  have e2 : M 127 2 = (q_n (M 127) 2 : Int) := hR.n (by decide)
  have e3 : M 127 3 = (q_n (M 127) 3 : Int) := hR.n (by decide)
  have e4 : M 127 4 = (q_n (M 127) 4 : Int) := hR.n (by decide)
  have bR := hR.2.1
  have h20 : M 124 14 = 0 → M 127 2 = 0 := fun h => hF.r0 h 2 (by decide)
  have h30 : M 124 14 = 0 → M 127 3 = 0 := fun h => hF.r0 h 3 (by decide)
  have h40 : M 124 14 = 0 → M 127 4 = 0 := fun h => hF.r0 h 4 (by decide)
  have hwo : M 49 3 = M 129 16 := hN.2.2.2.1
  have t160 := hT.1 16 (by decide)
  have t161 := hT.2.2.2.2.1
  refine zC.of [some (zr 0), some (zi v)] (by decide +kernel) rfl rfl (Nat.le_of_ble_eq_true rfl) rfl ?_
  rcases hcc with ⟨rfl, rfl⟩ | ⟨rfl, rfl⟩
  · have hto : M 2 0 = M 124 14 := hC.1.1
    have hla : M 2 1 = M 127 0 := hC.1.2.1
    have hsn : M 2 2 = M 127 1 := hC.1.2.2.1
    have hcs : M 3 0 = M 127 2 := hC.1.2.2.2.1
    have hca : M 8 0 = M 127 3 := hC.1.2.2.2.2.1
    have hcw : M 13 0 = M 127 4 := hC.1.2.2.2.2.2.1
    have hcb : M 13 1 = M 127 5 := hC.1.2.2.2.2.2.2.1
    have hcor : M 19 0 = M 127 6 := hC.1.2.2.2.2.2.2.2.1
    have hcn : M 19 4 = M 127 7 := hC.1.2.2.2.2.2.2.2.2
    have b4 := bR.2.2.2.2.1
    have hp7 := p7 (n := q_n (M 127) 4) (by omega)
    have htl := q_ts_lt (M 127) (M 129)
    have hto7 : q_ts (M 127) (M 129) < 128 := by omega
    have hol := q_odds_le hR (q_ts (M 127) (M 129))
    have hkl := q_cost_le hR 7 (q_ts (M 127) (M 129))
    refine p_aload_n 1 dX11_withinWords_0 rfl rfl (by decide) ?_
    refine p_getR 0 4 dX11_withinWords_1 fX11_16 rfl hco ?_
    refine p_getI 2 7 dX11_withinWords_4 fX11_114 rfl ?_
    rw [hto]
    refine p_if_ne 16 10 dX11_withinWords_7 (by omega) (by omega) (fun h7 => ?_) (fun h7 => ?_)
    · have h1 : M 124 14 = 1 := by omega
      have hR1 := hF.r1 h1
      refine p_iload_n 17 dX11_withinWords_16 rfl rfl ?_
      refine p_if_lt 27 20 dX11_withinWords_17 (by omega) (by omega) (fun h17 => ?_) (fun h17 => ?_)
      · refine p_aload_n 28 dX11_withinWords_27 rfl rfl (by decide) ?_
        refine p_iconst 29 dX11_withinWords_28 ?_
        refine p_callV1i 0 32 dX11_withinWords_29 s_refuse lk_X11_73 mX11_refuse rfl rfl (by decide) (Nat.le_of_ble_eq_true rfl) ?_
        rintro _ _ ⟨rfl, rfl⟩
        refine p_iret dX11_withinWords_32 rfl ?_
        exact ⟨_, rfl, CQ.of hI hF (fun k _ => rfl) (by unfold pa_withinWords; (repeat' split) <;> first | rfl | (exfalso; omega)) (by unfold pa_withinWords; (repeat' split) <;> first | rfl | (exfalso; omega)) (by decide)⟩
      · refine p_iload_n 21 dX11_withinWords_20 rfl rfl ?_
        refine p_sipush 24 dX11_withinWords_21 rfl ?_
        refine p_icmp_le 33 27 dX11_withinWords_24 (by omega) (by omega) (by omega) (by omega) (fun h24 => ?_) (fun h24 => ?_)
        · refine p_aload_n 34 dX11_withinWords_33 rfl rfl (by decide) ?_
          refine p_getR 0 37 dX11_withinWords_34 fX11_54 rfl (hW (0, 11, 115) (by decide)) ?_
          refine p_aload_n 38 dX11_withinWords_37 rfl rfl (by decide) ?_
          refine p_getR 0 41 dX11_withinWords_38 fX11_16 rfl hco ?_
          refine p_getR 2 44 dX11_withinWords_41 fX11_211 rfl (hW (2, 5, 13) (by decide)) ?_
          refine p_callV1v 115 47 dX11_withinWords_44 (s_learnS (Or.inl rfl : isC 2) hW hC hR hR1.ex hz0 hsea) lk_X11_239 mX7_learn rfl rfl (by decide) (Nat.le_of_ble_eq_true rfl) ?_
          intro M9 h9
          obtain ⟨g1, g2, g3, g4⟩ := h9
          have hI9 : IC M M9 := hI.learn hF g1 g2 g3 g4
          have hk9 : ∀ k, 124 ≤ k → M9 k = M k := fun k hk => g1 k (by omega)
          have hW := hI9.1
          have hC : ICc (M 127) (M 124 14) 2 M9 := hC.congr (fun a _ _ => g1 a (by omega))
          have hco : M9 0 5 = 2 := (congrFun (g1 0 (by omega)) 5).trans hco
          have hN : ICn (M 129) (M 124 14) 49 M9 := hN.congr (g1 _ (by omega)) (g1 _ (by omega)) (g1 _ (by omega))
          refine p_aload_n 48 dX11_withinWords_47 rfl rfl (by decide) ?_
          refine p_aload_n 49 dX11_withinWords_48 rfl rfl (by decide) ?_
          refine p_getR 0 52 dX11_withinWords_49 fX11_54 rfl (hW (0, 11, 115) (by decide)) ?_
          refine p_aload_n 53 dX11_withinWords_52 rfl rfl (by decide) ?_
          refine p_callV0i 0 56 dX11_withinWords_53 (s_toSay_2 hW hC hR hco hN hT) lk_X11_232 mX11_toSay rfl rfl (by decide) (Nat.le_of_ble_eq_true rfl) ?_
          rintro _ _ ⟨rfl, e9⟩
          have e9 := e9.symm
          subst e9
          rw [q_ts_eq]
          refine p_iload_n 57 dX11_withinWords_56 rfl rfl ?_
          refine p_callV2i 115 60 dX11_withinWords_57 (s_likeliestIn hW hR g4 htl (by omega) (by omega)) lk_X11_263 mX7_likeliestIn rfl rfl (by decide) (Nat.le_of_ble_eq_true rfl) ?_
          rintro _ _ ⟨rfl, e9⟩
          have e9 := e9.symm
          subst e9
          refine p_callV1i 0 63 dX11_withinWords_60 s_grant lk_X11_108 mX11_grant rfl rfl (by decide) (Nat.le_of_ble_eq_true rfl) ?_
          rintro _ _ ⟨rfl, rfl⟩
          refine p_iret dX11_withinWords_63 rfl ?_
          exact ⟨_, rfl, CQ.of hI9 hF hk9 (by unfold pa_withinWords; (repeat' split) <;> first | rfl | (exfalso; omega)) (by unfold pa_withinWords; (repeat' split) <;> first | rfl | (exfalso; omega)) (by decide)⟩
        · refine p_aload_n 28 dX11_withinWords_27 rfl rfl (by decide) ?_
          refine p_iconst 29 dX11_withinWords_28 ?_
          refine p_callV1i 0 32 dX11_withinWords_29 s_refuse lk_X11_73 mX11_refuse rfl rfl (by decide) (Nat.le_of_ble_eq_true rfl) ?_
          rintro _ _ ⟨rfl, rfl⟩
          refine p_iret dX11_withinWords_32 rfl ?_
          exact ⟨_, rfl, CQ.of hI hF (fun k _ => rfl) (by unfold pa_withinWords; (repeat' split) <;> first | rfl | (exfalso; omega)) (by unfold pa_withinWords; (repeat' split) <;> first | rfl | (exfalso; omega)) (by decide)⟩
    · refine p_aload_n 11 dX11_withinWords_10 rfl rfl (by decide) ?_
      refine p_iconst 12 dX11_withinWords_11 ?_
      refine p_callV1i 0 15 dX11_withinWords_12 s_refuse lk_X11_73 mX11_refuse rfl rfl (by decide) (Nat.le_of_ble_eq_true rfl) ?_
      rintro _ _ ⟨rfl, rfl⟩
      refine p_iret dX11_withinWords_15 rfl ?_
      exact ⟨_, rfl, CQ.of hI hF (fun k _ => rfl) (by unfold pa_withinWords; (repeat' split) <;> first | rfl | (exfalso; omega)) (by unfold pa_withinWords; (repeat' split) <;> first | rfl | (exfalso; omega)) (by decide)⟩
  · have hto : M 25 0 = M 124 14 := hC.1.1
    have hla : M 25 1 = M 127 0 := hC.1.2.1
    have hsn : M 25 2 = M 127 1 := hC.1.2.2.1
    have hcs : M 26 0 = M 127 2 := hC.1.2.2.2.1
    have hca : M 31 0 = M 127 3 := hC.1.2.2.2.2.1
    have hcw : M 36 0 = M 127 4 := hC.1.2.2.2.2.2.1
    have hcb : M 36 1 = M 127 5 := hC.1.2.2.2.2.2.2.1
    have hcor : M 42 0 = M 127 6 := hC.1.2.2.2.2.2.2.2.1
    have hcn : M 42 4 = M 127 7 := hC.1.2.2.2.2.2.2.2.2
    have b4 := bR.2.2.2.2.1
    have hp7 := p7 (n := q_n (M 127) 4) (by omega)
    have htl := q_ts_lt (M 127) (M 129)
    have hto7 : q_ts (M 127) (M 129) < 128 := by omega
    have hol := q_odds_le hR (q_ts (M 127) (M 129))
    have hkl := q_cost_le hR 7 (q_ts (M 127) (M 129))
    refine p_aload_n 1 dX11_withinWords_0 rfl rfl (by decide) ?_
    refine p_getR 0 4 dX11_withinWords_1 fX11_16 rfl hco ?_
    refine p_getI 25 7 dX11_withinWords_4 fX11_114 rfl ?_
    rw [hto]
    refine p_if_ne 16 10 dX11_withinWords_7 (by omega) (by omega) (fun h7 => ?_) (fun h7 => ?_)
    · have h1 : M 124 14 = 1 := by omega
      have hR1 := hF.r1 h1
      refine p_iload_n 17 dX11_withinWords_16 rfl rfl ?_
      refine p_if_lt 27 20 dX11_withinWords_17 (by omega) (by omega) (fun h17 => ?_) (fun h17 => ?_)
      · refine p_aload_n 28 dX11_withinWords_27 rfl rfl (by decide) ?_
        refine p_iconst 29 dX11_withinWords_28 ?_
        refine p_callV1i 0 32 dX11_withinWords_29 s_refuse lk_X11_73 mX11_refuse rfl rfl (by decide) (Nat.le_of_ble_eq_true rfl) ?_
        rintro _ _ ⟨rfl, rfl⟩
        refine p_iret dX11_withinWords_32 rfl ?_
        exact ⟨_, rfl, CQ.of hI hF (fun k _ => rfl) (by unfold pa_withinWords; (repeat' split) <;> first | rfl | (exfalso; omega)) (by unfold pa_withinWords; (repeat' split) <;> first | rfl | (exfalso; omega)) (by decide)⟩
      · refine p_iload_n 21 dX11_withinWords_20 rfl rfl ?_
        refine p_sipush 24 dX11_withinWords_21 rfl ?_
        refine p_icmp_le 33 27 dX11_withinWords_24 (by omega) (by omega) (by omega) (by omega) (fun h24 => ?_) (fun h24 => ?_)
        · refine p_aload_n 34 dX11_withinWords_33 rfl rfl (by decide) ?_
          refine p_getR 0 37 dX11_withinWords_34 fX11_54 rfl (hW (0, 11, 115) (by decide)) ?_
          refine p_aload_n 38 dX11_withinWords_37 rfl rfl (by decide) ?_
          refine p_getR 0 41 dX11_withinWords_38 fX11_16 rfl hco ?_
          refine p_getR 25 44 dX11_withinWords_41 fX11_211 rfl (hW (25, 5, 36) (by decide)) ?_
          refine p_callV1v 115 47 dX11_withinWords_44 (s_learnS (Or.inr rfl : isC 25) hW hC hR hR1.ex hz0 hsea) lk_X11_239 mX7_learn rfl rfl (by decide) (Nat.le_of_ble_eq_true rfl) ?_
          intro M9 h9
          obtain ⟨g1, g2, g3, g4⟩ := h9
          have hI9 : IC M M9 := hI.learn hF g1 g2 g3 g4
          have hk9 : ∀ k, 124 ≤ k → M9 k = M k := fun k hk => g1 k (by omega)
          have hW := hI9.1
          have hC : ICc (M 127) (M 124 14) 25 M9 := hC.congr (fun a _ _ => g1 a (by omega))
          have hco : M9 0 5 = 25 := (congrFun (g1 0 (by omega)) 5).trans hco
          have hN : ICn (M 129) (M 124 14) 49 M9 := hN.congr (g1 _ (by omega)) (g1 _ (by omega)) (g1 _ (by omega))
          refine p_aload_n 48 dX11_withinWords_47 rfl rfl (by decide) ?_
          refine p_aload_n 49 dX11_withinWords_48 rfl rfl (by decide) ?_
          refine p_getR 0 52 dX11_withinWords_49 fX11_54 rfl (hW (0, 11, 115) (by decide)) ?_
          refine p_aload_n 53 dX11_withinWords_52 rfl rfl (by decide) ?_
          refine p_callV0i 0 56 dX11_withinWords_53 (s_toSay_25 hW hC hR hco hN hT) lk_X11_232 mX11_toSay rfl rfl (by decide) (Nat.le_of_ble_eq_true rfl) ?_
          rintro _ _ ⟨rfl, e9⟩
          have e9 := e9.symm
          subst e9
          rw [q_ts_eq]
          refine p_iload_n 57 dX11_withinWords_56 rfl rfl ?_
          refine p_callV2i 115 60 dX11_withinWords_57 (s_likeliestIn hW hR g4 htl (by omega) (by omega)) lk_X11_263 mX7_likeliestIn rfl rfl (by decide) (Nat.le_of_ble_eq_true rfl) ?_
          rintro _ _ ⟨rfl, e9⟩
          have e9 := e9.symm
          subst e9
          refine p_callV1i 0 63 dX11_withinWords_60 s_grant lk_X11_108 mX11_grant rfl rfl (by decide) (Nat.le_of_ble_eq_true rfl) ?_
          rintro _ _ ⟨rfl, rfl⟩
          refine p_iret dX11_withinWords_63 rfl ?_
          exact ⟨_, rfl, CQ.of hI9 hF hk9 (by unfold pa_withinWords; (repeat' split) <;> first | rfl | (exfalso; omega)) (by unfold pa_withinWords; (repeat' split) <;> first | rfl | (exfalso; omega)) (by decide)⟩
        · refine p_aload_n 28 dX11_withinWords_27 rfl rfl (by decide) ?_
          refine p_iconst 29 dX11_withinWords_28 ?_
          refine p_callV1i 0 32 dX11_withinWords_29 s_refuse lk_X11_73 mX11_refuse rfl rfl (by decide) (Nat.le_of_ble_eq_true rfl) ?_
          rintro _ _ ⟨rfl, rfl⟩
          refine p_iret dX11_withinWords_32 rfl ?_
          exact ⟨_, rfl, CQ.of hI hF (fun k _ => rfl) (by unfold pa_withinWords; (repeat' split) <;> first | rfl | (exfalso; omega)) (by unfold pa_withinWords; (repeat' split) <;> first | rfl | (exfalso; omega)) (by decide)⟩
    · refine p_aload_n 11 dX11_withinWords_10 rfl rfl (by decide) ?_
      refine p_iconst 12 dX11_withinWords_11 ?_
      refine p_callV1i 0 15 dX11_withinWords_12 s_refuse lk_X11_73 mX11_refuse rfl rfl (by decide) (Nat.le_of_ble_eq_true rfl) ?_
      rintro _ _ ⟨rfl, rfl⟩
      refine p_iret dX11_withinWords_15 rfl ?_
      exact ⟨_, rfl, CQ.of hI hF (fun k _ => rfl) (by unfold pa_withinWords; (repeat' split) <;> first | rfl | (exfalso; omega)) (by unfold pa_withinWords; (repeat' split) <;> first | rfl | (exfalso; omega)) (by decide)⟩
theorem c_rows {l : Launch} {X : ZX} {M : ZM} (hI : IC M M) (hF : WF M)  : zCi l X 4 yX11_rows tX11_rows [zr 0] M (CQ M (pa_rows (M 124 14) (M 127) (M 129))) := by
  obtain ⟨hW, ⟨c, c', hcc, hco, hsp, hC⟩, ⟨j1, j2, j3, j4, j5⟩, hN, hpast, hten, ⟨hz0, hsea⟩, hfit⟩ := id hI
  have hR := hF.r
  have hT := hF.t
  have hh := hF.h
  have e0 : M 127 0 = (q_n (M 127) 0 : Int) := hR.n (by decide)
  have e2 : M 127 2 = (q_n (M 127) 2 : Int) := hR.n (by decide)
  have e3 : M 127 3 = (q_n (M 127) 3 : Int) := hR.n (by decide)
  have e4 : M 127 4 = (q_n (M 127) 4 : Int) := hR.n (by decide)
  have bR := hR.2.1
  have h20 : M 124 14 = 0 → M 127 2 = 0 := fun h => hF.r0 h 2 (by decide)
  have h30 : M 124 14 = 0 → M 127 3 = 0 := fun h => hF.r0 h 3 (by decide)
  have h40 : M 124 14 = 0 → M 127 4 = 0 := fun h => hF.r0 h 4 (by decide)
  have hwo : M 49 3 = M 129 16 := hN.2.2.2.1
  have t160 := hT.1 16 (by decide)
  have t161 := hT.2.2.2.2.1
  refine zC.of [some (zr 0)] (by decide +kernel) rfl rfl (Nat.le_of_ble_eq_true rfl) rfl ?_
  rcases hcc with ⟨rfl, rfl⟩ | ⟨rfl, rfl⟩
  · have hto : M 2 0 = M 124 14 := hC.1.1
    have hla : M 2 1 = M 127 0 := hC.1.2.1
    have hsn : M 2 2 = M 127 1 := hC.1.2.2.1
    have hcs : M 3 0 = M 127 2 := hC.1.2.2.2.1
    have hca : M 8 0 = M 127 3 := hC.1.2.2.2.2.1
    have hcw : M 13 0 = M 127 4 := hC.1.2.2.2.2.2.1
    have hcb : M 13 1 = M 127 5 := hC.1.2.2.2.2.2.2.1
    have hcor : M 19 0 = M 127 6 := hC.1.2.2.2.2.2.2.2.1
    have hcn : M 19 4 = M 127 7 := hC.1.2.2.2.2.2.2.2.2
    have b4 := bR.2.2.2.2.1
    have hp7 := p7 (n := q_n (M 127) 4) (by omega)
    have htl := q_ts_lt (M 127) (M 129)
    have hto7 : q_ts (M 127) (M 129) < 128 := by omega
    have hol := q_odds_le hR (q_ts (M 127) (M 129))
    have hkl := q_cost_le hR 7 (q_ts (M 127) (M 129))
    refine p_aload_n 1 dX11_rows_0 rfl rfl (by decide) ?_
    refine p_getR 0 4 dX11_rows_1 fX11_16 rfl hco ?_
    refine p_getI 2 7 dX11_rows_4 fX11_114 rfl ?_
    rw [hto]
    refine p_if_ne 16 10 dX11_rows_7 (by omega) (by omega) (fun h7 => ?_) (fun h7 => ?_)
    · have h1 : M 124 14 = 1 := by omega
      have hR1 := hF.r1 h1
      refine p_aload_n 17 dX11_rows_16 rfl rfl (by decide) ?_
      refine p_getR 0 20 dX11_rows_17 fX11_54 rfl (hW (0, 11, 115) (by decide)) ?_
      refine p_aload_n 21 dX11_rows_20 rfl rfl (by decide) ?_
      refine p_getR 0 24 dX11_rows_21 fX11_16 rfl hco ?_
      refine p_getR 2 27 dX11_rows_24 fX11_211 rfl (hW (2, 5, 13) (by decide)) ?_
      refine p_callV1v 115 30 dX11_rows_27 (s_learnS (Or.inl rfl : isC 2) hW hC hR hR1.ex hz0 hsea) lk_X11_239 mX7_learn rfl rfl (by decide) (Nat.le_of_ble_eq_true rfl) ?_
      intro M9 h9
      obtain ⟨g1, g2, g3, g4⟩ := h9
      have hI9 : IC M M9 := hI.learn hF g1 g2 g3 g4
      have hk9 : ∀ k, 124 ≤ k → M9 k = M k := fun k hk => g1 k (by omega)
      have hW := hI9.1
      have hC : ICc (M 127) (M 124 14) 2 M9 := hC.congr (fun a _ _ => g1 a (by omega))
      have hco : M9 0 5 = 2 := (congrFun (g1 0 (by omega)) 5).trans hco
      have hN : ICn (M 129) (M 124 14) 49 M9 := hN.congr (g1 _ (by omega)) (g1 _ (by omega)) (g1 _ (by omega))
      refine p_aload_n 31 dX11_rows_30 rfl rfl (by decide) ?_
      refine p_aload_n 32 dX11_rows_31 rfl rfl (by decide) ?_
      refine p_getR 0 35 dX11_rows_32 fX11_54 rfl (hW (0, 11, 115) (by decide)) ?_
      refine p_aload_n 36 dX11_rows_35 rfl rfl (by decide) ?_
      refine p_callV0i 0 39 dX11_rows_36 (s_unsaid_2 hW hC hR hco hN hT) lk_X11_267 mX11_unsaid rfl rfl (by decide) (Nat.le_of_ble_eq_true rfl) ?_
      rintro _ _ ⟨rfl, e9⟩
      have e9 := e9.symm
      subst e9
      refine p_callV1i 115 42 dX11_rows_39 (s_rowsOfS hW hR g4 (q_un_lt _ _)) lk_X11_270 mX7_rowsOf rfl rfl (by decide) (Nat.le_of_ble_eq_true rfl) ?_
      rintro _ _ ⟨rfl, e9⟩
      have e9 := e9.symm
      subst e9
      refine p_callV1i 0 45 dX11_rows_42 s_grant lk_X11_108 mX11_grant rfl rfl (by decide) (Nat.le_of_ble_eq_true rfl) ?_
      rintro _ _ ⟨rfl, rfl⟩
      refine p_iret dX11_rows_45 rfl ?_
      exact ⟨_, rfl, CQ.of hI9 hF hk9 (by unfold pa_rows; (repeat' split) <;> first | rfl | (exfalso; omega)) (by unfold pa_rows; (repeat' split) <;> first | rfl | (exfalso; omega)) (by decide)⟩
    · refine p_aload_n 11 dX11_rows_10 rfl rfl (by decide) ?_
      refine p_iconst 12 dX11_rows_11 ?_
      refine p_callV1i 0 15 dX11_rows_12 s_refuse lk_X11_73 mX11_refuse rfl rfl (by decide) (Nat.le_of_ble_eq_true rfl) ?_
      rintro _ _ ⟨rfl, rfl⟩
      refine p_iret dX11_rows_15 rfl ?_
      exact ⟨_, rfl, CQ.of hI hF (fun k _ => rfl) (by unfold pa_rows; (repeat' split) <;> first | rfl | (exfalso; omega)) (by unfold pa_rows; (repeat' split) <;> first | rfl | (exfalso; omega)) (by decide)⟩
  · have hto : M 25 0 = M 124 14 := hC.1.1
    have hla : M 25 1 = M 127 0 := hC.1.2.1
    have hsn : M 25 2 = M 127 1 := hC.1.2.2.1
    have hcs : M 26 0 = M 127 2 := hC.1.2.2.2.1
    have hca : M 31 0 = M 127 3 := hC.1.2.2.2.2.1
    have hcw : M 36 0 = M 127 4 := hC.1.2.2.2.2.2.1
    have hcb : M 36 1 = M 127 5 := hC.1.2.2.2.2.2.2.1
    have hcor : M 42 0 = M 127 6 := hC.1.2.2.2.2.2.2.2.1
    have hcn : M 42 4 = M 127 7 := hC.1.2.2.2.2.2.2.2.2
    have b4 := bR.2.2.2.2.1
    have hp7 := p7 (n := q_n (M 127) 4) (by omega)
    have htl := q_ts_lt (M 127) (M 129)
    have hto7 : q_ts (M 127) (M 129) < 128 := by omega
    have hol := q_odds_le hR (q_ts (M 127) (M 129))
    have hkl := q_cost_le hR 7 (q_ts (M 127) (M 129))
    refine p_aload_n 1 dX11_rows_0 rfl rfl (by decide) ?_
    refine p_getR 0 4 dX11_rows_1 fX11_16 rfl hco ?_
    refine p_getI 25 7 dX11_rows_4 fX11_114 rfl ?_
    rw [hto]
    refine p_if_ne 16 10 dX11_rows_7 (by omega) (by omega) (fun h7 => ?_) (fun h7 => ?_)
    · have h1 : M 124 14 = 1 := by omega
      have hR1 := hF.r1 h1
      refine p_aload_n 17 dX11_rows_16 rfl rfl (by decide) ?_
      refine p_getR 0 20 dX11_rows_17 fX11_54 rfl (hW (0, 11, 115) (by decide)) ?_
      refine p_aload_n 21 dX11_rows_20 rfl rfl (by decide) ?_
      refine p_getR 0 24 dX11_rows_21 fX11_16 rfl hco ?_
      refine p_getR 25 27 dX11_rows_24 fX11_211 rfl (hW (25, 5, 36) (by decide)) ?_
      refine p_callV1v 115 30 dX11_rows_27 (s_learnS (Or.inr rfl : isC 25) hW hC hR hR1.ex hz0 hsea) lk_X11_239 mX7_learn rfl rfl (by decide) (Nat.le_of_ble_eq_true rfl) ?_
      intro M9 h9
      obtain ⟨g1, g2, g3, g4⟩ := h9
      have hI9 : IC M M9 := hI.learn hF g1 g2 g3 g4
      have hk9 : ∀ k, 124 ≤ k → M9 k = M k := fun k hk => g1 k (by omega)
      have hW := hI9.1
      have hC : ICc (M 127) (M 124 14) 25 M9 := hC.congr (fun a _ _ => g1 a (by omega))
      have hco : M9 0 5 = 25 := (congrFun (g1 0 (by omega)) 5).trans hco
      have hN : ICn (M 129) (M 124 14) 49 M9 := hN.congr (g1 _ (by omega)) (g1 _ (by omega)) (g1 _ (by omega))
      refine p_aload_n 31 dX11_rows_30 rfl rfl (by decide) ?_
      refine p_aload_n 32 dX11_rows_31 rfl rfl (by decide) ?_
      refine p_getR 0 35 dX11_rows_32 fX11_54 rfl (hW (0, 11, 115) (by decide)) ?_
      refine p_aload_n 36 dX11_rows_35 rfl rfl (by decide) ?_
      refine p_callV0i 0 39 dX11_rows_36 (s_unsaid_25 hW hC hR hco hN hT) lk_X11_267 mX11_unsaid rfl rfl (by decide) (Nat.le_of_ble_eq_true rfl) ?_
      rintro _ _ ⟨rfl, e9⟩
      have e9 := e9.symm
      subst e9
      refine p_callV1i 115 42 dX11_rows_39 (s_rowsOfS hW hR g4 (q_un_lt _ _)) lk_X11_270 mX7_rowsOf rfl rfl (by decide) (Nat.le_of_ble_eq_true rfl) ?_
      rintro _ _ ⟨rfl, e9⟩
      have e9 := e9.symm
      subst e9
      refine p_callV1i 0 45 dX11_rows_42 s_grant lk_X11_108 mX11_grant rfl rfl (by decide) (Nat.le_of_ble_eq_true rfl) ?_
      rintro _ _ ⟨rfl, rfl⟩
      refine p_iret dX11_rows_45 rfl ?_
      exact ⟨_, rfl, CQ.of hI9 hF hk9 (by unfold pa_rows; (repeat' split) <;> first | rfl | (exfalso; omega)) (by unfold pa_rows; (repeat' split) <;> first | rfl | (exfalso; omega)) (by decide)⟩
    · refine p_aload_n 11 dX11_rows_10 rfl rfl (by decide) ?_
      refine p_iconst 12 dX11_rows_11 ?_
      refine p_callV1i 0 15 dX11_rows_12 s_refuse lk_X11_73 mX11_refuse rfl rfl (by decide) (Nat.le_of_ble_eq_true rfl) ?_
      rintro _ _ ⟨rfl, rfl⟩
      refine p_iret dX11_rows_15 rfl ?_
      exact ⟨_, rfl, CQ.of hI hF (fun k _ => rfl) (by unfold pa_rows; (repeat' split) <;> first | rfl | (exfalso; omega)) (by unfold pa_rows; (repeat' split) <;> first | rfl | (exfalso; omega)) (by decide)⟩
