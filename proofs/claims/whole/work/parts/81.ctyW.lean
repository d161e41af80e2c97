/-! THE ACT: a county is told, the class walks -/
theorem ga_county_l {M : ZM} {k : Nat} (h1 : (k : Int) ≤ M 124 2) {e : Int × Int} (hq : q_parse (M 125) k = .inl e) : ga_county M (k : Int) = (-1, q_bad M e) := by
  unfold ga_county
  rw [if_neg (by omega), Int.toNat_natCast, hq]
theorem ga_county_r {M : ZM} {k : Nat} (h1 : (k : Int) ≤ M 124 2) {ρ : Nat → Int} (hq : q_parse (M 125) k = .inr ρ) : ga_county M (k : Int) = (ρ 2, q_cty M ρ) := by
  unfold ga_county
  rw [if_neg (by omega), Int.toNat_natCast, hq]
theorem ga_county_no {M : ZM} {v : Int} (h : v < 0 ∨ M 124 2 < v) : ga_county M v = (-1, zset M 124 11 2) := by
  unfold ga_county
  rw [if_pos h]
theorem c_county {l : Launch} {X : ZX} {M : ZM} (hI : IC M M) (hF : WF M) {v : Int} (hv1 : -2147483648 ≤ v) (hv2 : v < 2147483648) : zCi l X 10 yX11_county tX11_county [zr 0, zi v] M (CA M (ga_county M v)) := by
  obtain ⟨hW, ⟨c, c', hcc, hco, hsp, hC⟩, ⟨j1, j2, j3, j4, j5⟩, hN, hpast, hten, ⟨hz0, hsea⟩, hfit⟩ := id hI
  have hR := hF.r
  have hT := hF.t
  have hh := hF.h
  have e0 : M 127 0 = (q_n (M 127) 0 : Int) := hR.n (by decide)
  have e2 : M 127 2 = (q_n (M 127) 2 : Int) := hR.n (by decide)
  have e3 : M 127 3 = (q_n (M 127) 3 : Int) := hR.n (by decide)
  have e4 : M 127 4 = (q_n (M 127) 4 : Int) := hR.n (by decide)
  have bR := hR.2.1
  have h20 : M 124 14 = 0 → M 127 2 = 0 := fun h => hF.r0 h 2 (by decide)
  have h30 : M 124 14 = 0 → M 127 3 = 0 := fun h => hF.r0 h 3 (by decide)
  have h40 : M 124 14 = 0 → M 127 4 = 0 := fun h => hF.r0 h 4 (by decide)
  have hwo : M 49 3 = M 129 16 := hN.2.2.2.1
  have t160 := hT.1 16 (by decide)
  have t161 := hT.2.2.2.2.1
  refine zC.of [some (zr 0), some (zi v), none] (by decide +kernel) rfl rfl (Nat.le_of_ble_eq_true rfl) rfl ?_
  rcases hcc with ⟨rfl, rfl⟩ | ⟨rfl, rfl⟩
  · have hto : M 2 0 = M 124 14 := hC.1.1
    have hla : M 2 1 = M 127 0 := hC.1.2.1
    have hsn : M 2 2 = M 127 1 := hC.1.2.2.1
    have hcs : M 3 0 = M 127 2 := hC.1.2.2.2.1
    have hca : M 8 0 = M 127 3 := hC.1.2.2.2.2.1
    have hcw : M 13 0 = M 127 4 := hC.1.2.2.2.2.2.1
    have hcb : M 13 1 = M 127 5 := hC.1.2.2.2.2.2.2.1
    have hcor : M 19 0 = M 127 6 := hC.1.2.2.2.2.2.2.2.1
    have hcn : M 19 4 = M 127 7 := hC.1.2.2.2.2.2.2.2.2
    have hF1 := hF.1
    refine p_iload_n 1 dX11_county_0 rfl rfl ?_
    refine p_if_lt 12 4 dX11_county_1 (by omega) (by omega) (fun h1 => ?_) (fun h1 => ?_)
    · have hno : v < 0 ∨ M 124 2 < v := by omega
      refine p_aload_n 13 dX11_county_12 rfl rfl (by decide) ?_
      refine p_iconst 14 dX11_county_13 ?_
      refine p_callV1i 0 17 dX11_county_14 s_refuse lk_X11_73 mX11_refuse rfl rfl (by decide) (Nat.le_of_ble_eq_true rfl) ?_
      rintro _ _ ⟨rfl, rfl⟩
      refine p_iret dX11_county_17 rfl ?_
      exact ⟨_, rfl, CA.no2 hI hF (ga_county_no hno) (by decide)⟩
    · refine p_iload_n 5 dX11_county_4 rfl rfl ?_
      refine p_aload_n 6 dX11_county_5 rfl rfl (by decide) ?_
      refine p_getI 0 9 dX11_county_6 fX11_65 rfl ?_
      rw [j1]
      refine p_icmp_le 18 12 dX11_county_9 (by omega) (by omega) (by omega) (by omega) (fun h9 => ?_) (fun h9 => ?_)
      · obtain ⟨k, rfl⟩ : ∃ k : Nat, v = (k : Int) := ⟨v.toNat, by omega⟩
        refine p_aload_n 19 dX11_county_18 rfl rfl (by decide) ?_
        refine p_getR 0 22 dX11_county_19 fX11_26 rfl (hW (0, 7, 48) (by decide)) ?_
        refine p_aload_n 23 dX11_county_22 rfl rfl (by decide) ?_
        refine p_getR 0 26 dX11_county_23 fX11_9 rfl (hW (0, 0, 1) (by decide)) ?_
        refine p_iload_n 27 dX11_county_26 rfl rfl ?_
        refine p_aload_n 28 dX11_county_27 rfl rfl (by decide) ?_
        refine p_getR 0 31 dX11_county_28 fX11_20 rfl hsp ?_
        refine p_callV3v 48 34 dX11_county_31 (s_read (t := M 125) (n := k) (c := 25) (by omega) (fun i hi => hF.2.1 i (by omega)) (Or.inr rfl) hW (fun i hi => j2 i (by omega))) lk_X11_77 mX6_read rfl rfl (by decide) (Nat.le_of_ble_eq_true rfl) ?_
        intro M9 hrd
        cases hq : q_parse (M 125) k with
        | inl e =>
          rw [hq] at hrd
          obtain ⟨hW9, hfr, f8, f9⟩ := hrd
          have he := q_parse_bad hq
          obtain ⟨he1, he2, he3, he4⟩ := id he
          refine p_aload_n 35 dX11_county_34 rfl rfl (by decide) ?_
          refine p_iconst 36 dX11_county_35 ?_
          refine p_putI 0 39 dX11_county_36 wX11_65 rfl ?_
          have hW9 := hW9.set (c := 0) (k := 1) (v := 0) (by decide +kernel)
          refine p_aload_n 40 dX11_county_39 rfl rfl (by decide) ?_
          refine p_aload_n 41 dX11_county_40 rfl rfl (by decide) ?_
          refine p_getR 0 44 dX11_county_41 fX11_26 rfl (hW9 (0, 7, 48) (by decide)) ?_
          refine p_getI 48 47 dX11_county_44 fX11_81 rfl ?_
          rw [zset_ne _ (by decide), f8]
          refine p_putI 0 50 dX11_county_47 wX11_84 rfl ?_
          have hW9 := hW9.set (c := 0) (k := 3) (v := e.1) (by decide +kernel)
          refine p_aload_n 51 dX11_county_50 rfl rfl (by decide) ?_
          refine p_aload_n 52 dX11_county_51 rfl rfl (by decide) ?_
          refine p_getR 0 55 dX11_county_52 fX11_26 rfl (hW9 (0, 7, 48) (by decide)) ?_
          refine p_getI 48 58 dX11_county_55 fX11_85 rfl ?_
          rw [zset_ne _ (by decide), zset_ne _ (by decide), f9]
          refine p_putI 0 61 dX11_county_58 wX11_88 rfl ?_
          have hW9 := hW9.set (c := 0) (k := 4) (v := e.2) (by decide +kernel)
          refine p_aload_n 62 dX11_county_61 rfl rfl (by decide) ?_
          refine p_getI 0 65 dX11_county_62 fX11_84 rfl ?_
          rw [zset_k (by decide), zset_at]
          refine p_if_eq 74 68 dX11_county_65 (by omega) (by omega) (fun h65 => absurd (by omega) (fun h9 : False => h9)) (fun h65 => ?_)
          refine p_aload_n 69 dX11_county_68 rfl rfl (by decide) ?_
          refine p_iconst 70 dX11_county_69 ?_
          refine p_callV1i 0 73 dX11_county_70 s_refuse lk_X11_73 mX11_refuse rfl rfl (by decide) (Nat.le_of_ble_eq_true rfl) ?_
          rintro _ _ ⟨rfl, rfl⟩
          refine p_iret dX11_county_73 rfl ?_
          refine ⟨_, rfl, ?_⟩
          rw [ga_county_l (by omega) hq]
          exact ⟨rfl, IC.bad hI (c := 2) (c' := 25) (Or.inl ⟨rfl, rfl⟩) hC (hW9.set (by decide +kernel)) (fun a h0 h48 hb => by rw [zset_ne _ h0, zset_ne _ h0, zset_ne _ h0, zset_ne _ h0]; exact hfr a h48 hb) (by rw [zset_k (by decide), zset_k (by decide), zset_k (by decide), zset_k (by decide), hfr 0 (by decide) (by omega)]; exact hco) (by rw [zset_k (by decide), zset_k (by decide), zset_k (by decide), zset_k (by decide), hfr 0 (by decide) (by omega)]; exact hsp) (by rw [zset_k (by decide), zset_k (by decide), zset_k (by decide), zset_at]) (zset_at _ _ _ _) (by rw [zset_k (by decide), zset_k (by decide), zset_at]) (by rw [zset_k (by decide), zset_at]), fun x hx => by rw [zset_ne _ (by omega), zset_ne _ (by omega), zset_ne _ (by omega), zset_ne _ (by omega), hfr x (by omega) (by omega)]⟩
        | inr ρ =>
          rw [hq] at hrd
          obtain ⟨hW9, hfr, f8, hIr⟩ := hrd
          obtain ⟨hP, hr0, hr2⟩ := q_parse_PI hq
          refine p_aload_n 35 dX11_county_34 rfl rfl (by decide) ?_
          refine p_iconst 36 dX11_county_35 ?_
          refine p_putI 0 39 dX11_county_36 wX11_65 rfl ?_
          have hW9 := hW9.set (c := 0) (k := 1) (v := 0) (by decide +kernel)
          refine p_aload_n 40 dX11_county_39 rfl rfl (by decide) ?_
          refine p_aload_n 41 dX11_county_40 rfl rfl (by decide) ?_
          refine p_getR 0 44 dX11_county_41 fX11_26 rfl (hW9 (0, 7, 48) (by decide)) ?_
          refine p_getI 48 47 dX11_county_44 fX11_81 rfl ?_
          rw [zset_ne _ (by decide), f8]
          refine p_putI 0 50 dX11_county_47 wX11_84 rfl ?_
          have hW9 := hW9.set (c := 0) (k := 3) (v := 0) (by decide +kernel)
          refine p_aload_n 51 dX11_county_50 rfl rfl (by decide) ?_
          refine p_aload_n 52 dX11_county_51 rfl rfl (by decide) ?_
          refine p_getR 0 55 dX11_county_52 fX11_26 rfl (hW9 (0, 7, 48) (by decide)) ?_
          refine p_getI 48 58 dX11_county_55 fX11_85 rfl ?_
          obtain ⟨x9, hx9⟩ : ∃ x, zset (zset M9 0 1 0) 0 3 0 48 9 = x := ⟨_, rfl⟩
          rw [hx9]
          refine p_putI 0 61 dX11_county_58 wX11_88 rfl ?_
          have hW9 := hW9.set (c := 0) (k := 4) (v := x9) (by decide +kernel)
          refine p_aload_n 62 dX11_county_61 rfl rfl (by decide) ?_
          refine p_getI 0 65 dX11_county_62 fX11_84 rfl ?_
          rw [zset_k (by decide), zset_at]
          refine p_if_eq 74 68 dX11_county_65 (by decide) (by decide) (fun h65 => ?_) (fun h65 => absurd (h65 rfl) (fun h9 : False => h9))
          have hco9 : zset (zset (zset M9 0 1 0) 0 3 0) 0 4 x9 0 5 = ((2 : Nat) : Int) := by
            rw [zset_k (by decide), zset_k (by decide), zset_k (by decide), hfr 0 (by decide) (by omega)]
            exact hco
          have hsp9 : zset (zset (zset M9 0 1 0) 0 3 0) 0 4 x9 0 6 = ((25 : Nat) : Int) := by
            rw [zset_k (by decide), zset_k (by decide), zset_k (by decide), hfr 0 (by decide) (by omega)]
            exact hsp
          refine p_aload_n 75 dX11_county_74 rfl rfl (by decide) ?_
          refine p_getR 0 78 dX11_county_75 fX11_16 rfl hco9 ?_
          refine p_astore_n 79 dX11_county_78 rfl (Nat.le_of_ble_eq_true rfl) rfl (by decide) rfl ?_
          dsimp only [List.set]
          refine p_aload_n 80 dX11_county_79 rfl rfl (by decide) ?_
          refine p_aload_n 81 dX11_county_80 rfl rfl (by decide) ?_
          refine p_getR 0 84 dX11_county_81 fX11_20 rfl hsp9 ?_
          refine p_putR 0 87 dX11_county_84 wX11_16 rfl (by show (0 : Int) ≤ _; decide) ?_
          have hW9 := hW9.set (c := 0) (k := 5) (v := ((25 : Nat) : Int)) (by decide +kernel)
          refine p_aload_n 88 dX11_county_87 rfl rfl (by decide) ?_
          refine p_aload_n 89 dX11_county_88 rfl rfl (by decide) ?_
          refine p_putR 0 92 dX11_county_89 wX11_20 rfl (by show (0 : Int) ≤ _; decide) ?_
          have hW9 := hW9.set (c := 0) (k := 6) (v := ((2 : Nat) : Int)) (by decide +kernel)
          refine p_aload_n 93 dX11_county_92 rfl rfl (by decide) ?_
          refine p_getR 0 96 dX11_county_93 fX11_33 rfl (hW9 (0, 8, 49) (by decide)) ?_
          refine p_callV0v 49 99 dX11_county_96 (s_nowReset hW9) lk_X11_89 mX3_reset rfl rfl (by decide) (Nat.le_of_ble_eq_true rfl) ?_
          rintro _ rfl
          have hW9 := zfill_wc (c := 51) (k := 7) (v := -2) (zfill_wc (c := 50) (k := 7) (v := 0) ((((hW9.set (c := 49) (k := 0) (v := 0) (by decide +kernel)).set (c := 49) (k := 1) (v := 0) (by decide +kernel)).set (c := 49) (k := 2) (v := 0) (by decide +kernel)).set (c := 49) (k := 3) (v := 0) (by decide +kernel)) (by decide +kernel)) (by decide +kernel)
          refine p_aload_n 100 dX11_county_99 rfl rfl (by decide) ?_
          refine p_getR 0 103 dX11_county_100 fX11_40 rfl (hW9 (0, 9, 52) (by decide)) ?_
          refine p_callV0v 52 106 dX11_county_103 s_pastReset lk_X11_92 mX5_reset rfl rfl (by decide) (Nat.le_of_ble_eq_true rfl) ?_
          rintro _ rfl
          have hW9 := (hW9.set (c := 52) (k := 2) (v := 0) (by decide +kernel)).set (c := 52) (k := 4) (v := 0) (by decide +kernel)
          refine p_aload_n 107 dX11_county_106 rfl rfl (by decide) ?_
          refine p_getR 0 110 dX11_county_107 fX11_47 rfl (hW9 (0, 10, 112) (by decide)) ?_
          refine p_iconst 111 dX11_county_110 ?_
          refine p_putZ 112 114 dX11_county_111 wX11_93 rfl (by decide) ?_
          have hW9 := hW9.set (c := 112) (k := 0) (v := 0) (by decide +kernel)
          refine p_aload_n 115 dX11_county_114 rfl rfl (by decide) ?_
          refine p_getR 0 118 dX11_county_115 fX11_54 rfl (hW9 (0, 11, 115) (by decide)) ?_
          refine p_iconst 119 dX11_county_118 ?_
          refine p_putZ 115 122 dX11_county_119 wX11_97 rfl (by decide) ?_
          have hW9 := hW9.set (c := 115) (k := 0) (v := 0) (by decide +kernel)
          refine p_aload_n 123 dX11_county_122 rfl rfl (by decide) ?_
          refine p_getR 0 126 dX11_county_123 fX11_61 rfl (hW9 (0, 12, 121) (by decide)) ?_
          refine p_iconst 127 dX11_county_126 ?_
          refine p_putZ 121 130 dX11_county_127 wX11_98 rfl (by decide) ?_
          have hW9 := hW9.set (c := 121) (k := 0) (v := 0) (by decide +kernel)
          have hx : ∀ a, a ≠ 49 → a ≠ 50 → a ≠ 51 → a ≠ 52 → a ≠ 112 → a ≠ 115 → a ≠ 121 → (zset (zset (zset (zset (zset (zfill (zfill (zset (zset (zset (zset (zset (zset (zset (zset (zset M9 0 1 0) 0 3 0) 0 4 x9) 0 5 ((25 : Nat) : Int)) 0 6 ((2 : Nat) : Int)) 49 0 0) 49 1 0) 49 2 0) 49 3 0) 50 7 0) 51 7 (-2)) 52 2 0) 52 4 0) 112 0 0) 115 0 0) 121 0 0) a = (zset (zset (zset (zset (zset M9 0 1 0) 0 3 0) 0 4 x9) 0 5 ((25 : Nat) : Int)) 0 6 ((2 : Nat) : Int)) a := fun a g1 g2 g3 g4 g5 g6 g7 => by rw [zset_ne _ g7, zset_ne _ g6, zset_ne _ g5, zset_ne _ g4, zset_ne _ g4, zfill_ne g3, zfill_ne g2, zset_ne _ g1, zset_ne _ g1, zset_ne _ g1, zset_ne _ g1]
          have hy : ∀ a, a ≠ 0 → a ≠ 49 → a ≠ 50 → a ≠ 51 → a ≠ 52 → a ≠ 112 → a ≠ 115 → a ≠ 121 → (zset (zset (zset (zset (zset (zfill (zfill (zset (zset (zset (zset (zset (zset (zset (zset (zset M9 0 1 0) 0 3 0) 0 4 x9) 0 5 ((25 : Nat) : Int)) 0 6 ((2 : Nat) : Int)) 49 0 0) 49 1 0) 49 2 0) 49 3 0) 50 7 0) 51 7 (-2)) 52 2 0) 52 4 0) 112 0 0) 115 0 0) 121 0 0) a = M9 a := fun a g0 g1 g2 g3 g4 g5 g6 g7 => by rw [hx a g1 g2 g3 g4 g5 g6 g7, zset_ne _ g0, zset_ne _ g0, zset_ne _ g0, zset_ne _ g0, zset_ne _ g0]
          have hz : (zset (zset (zset (zset (zset (zfill (zfill (zset (zset (zset (zset (zset (zset (zset (zset (zset M9 0 1 0) 0 3 0) 0 4 x9) 0 5 ((25 : Nat) : Int)) 0 6 ((2 : Nat) : Int)) 49 0 0) 49 1 0) 49 2 0) 49 3 0) 50 7 0) 51 7 (-2)) 52 2 0) 52 4 0) 112 0 0) 115 0 0) 121 0 0) 0 = (zset (zset (zset (zset (zset M9 0 1 0) 0 3 0) 0 4 x9) 0 5 ((25 : Nat) : Int)) 0 6 ((2 : Nat) : Int)) 0 := hx 0 (by decide) (by decide) (by decide) (by decide) (by decide) (by decide) (by decide)
          have hc5 : (zset (zset (zset (zset (zset (zfill (zfill (zset (zset (zset (zset (zset (zset (zset (zset (zset M9 0 1 0) 0 3 0) 0 4 x9) 0 5 ((25 : Nat) : Int)) 0 6 ((2 : Nat) : Int)) 49 0 0) 49 1 0) 49 2 0) 49 3 0) 50 7 0) 51 7 (-2)) 52 2 0) 52 4 0) 112 0 0) 115 0 0) 121 0 0) 0 5 = ((25 : Nat) : Int) := by rw [hz, zset_k (by decide), zset_at]
          refine p_aload_n 131 dX11_county_130 rfl rfl (by decide) ?_
          refine p_aload_n 132 dX11_county_131 rfl rfl (by decide) ?_
          refine p_getR 0 135 dX11_county_132 fX11_16 rfl hc5 ?_
          refine p_getR 25 138 dX11_county_135 fX11_99 rfl (hW9 (25, 3, 26) (by decide)) ?_
          refine p_getI 26 141 dX11_county_138 fX11_103 rfl ?_
          rw [hy 26 (by decide) (by decide) (by decide) (by decide) (by decide) (by decide) (by decide) (by decide)]
          rw [show M9 26 0 = ρ 2 from hIr.1.1.2.2.2.1]
          refine p_callV1i 0 144 dX11_county_141 s_grant lk_X11_108 mX11_grant rfl rfl (by decide) (Nat.le_of_ble_eq_true rfl) ?_
          rintro _ _ ⟨rfl, rfl⟩
          refine p_iret dX11_county_144 rfl ?_
          refine ⟨_, rfl, ?_⟩
          rw [ga_county_r (by omega) hq]
          refine ⟨rfl, IC.cty hI (c := 2) (c' := 25) (Or.inl ⟨rfl, rfl⟩) hP hr0 (hW9.set (by decide +kernel)) (hIr.congr (fun a g1 g2 => by rw [zset_ne _ (by omega), hy a (by omega) (by omega) (by omega) (by omega) (by omega) (by omega) (by omega) (by omega)])) (by rw [zset_k (by decide)]; exact hc5) (by rw [zset_k (by decide), hz, zset_at]) (by rw [zset_k (by decide), hz, zset_k (by decide), zset_k (by decide), zset_k (by decide), zset_k (by decide), zset_at]) (zset_at _ _ _ _) (by rw [zset_k (by decide), hz, zset_k (by decide), zset_k (by decide), zset_k (by decide), zset_at]) (fun j hj => ?_) (fun s hs => ?_) (fun s hs => ?_) ?_ ?_ ?_ ?_ ?_ ?_ (fun x x1 x2 => by rw [zset_ne _ (by omega), hy x (by omega) (by omega) (by omega) (by omega) (by omega) (by omega) (by omega) (by omega), hfr x (by omega) (by omega)]), fun x x1 => by rw [zset_ne _ (by omega), hy x (by omega) (by omega) (by omega) (by omega) (by omega) (by omega) (by omega) (by omega), hfr x (by omega) (by omega)]⟩
          · rw [zset_ne _ (by decide), zset_ne _ (by decide), zset_ne _ (by decide), zset_ne _ (by decide), zset_ne _ (by decide), zset_ne _ (by decide), zfill_ne (by decide), zfill_ne (by decide)]
            have e4 : j = 0 ∨ j = 1 ∨ j = 2 ∨ j = 3 := by omega
            rcases e4 with rfl | rfl | rfl | rfl <;> rfl
          · rw [zset_ne _ (by decide), zset_ne _ (by decide), zset_ne _ (by decide), zset_ne _ (by decide), zset_ne _ (by decide), zset_ne _ (by decide), zfill_ne (by decide)]
            unfold zfill
            rw [if_pos ⟨rfl, hs⟩]
          · rw [zset_ne _ (by decide), zset_ne _ (by decide), zset_ne _ (by decide), zset_ne _ (by decide), zset_ne _ (by decide), zset_ne _ (by decide)]
            unfold zfill
            rw [if_pos ⟨rfl, hs⟩]
          · rw [zset_ne _ (by decide), zset_ne _ (by decide), zset_ne _ (by decide), zset_ne _ (by decide), zset_k (by decide), zset_at]
          · rw [zset_ne _ (by decide), zset_ne _ (by decide), zset_ne _ (by decide), zset_ne _ (by decide), zset_at]
          · rw [zset_ne _ (by decide), zset_ne _ (by decide), zset_ne _ (by decide), zset_ne _ (by decide), zset_k (by decide), zset_k (by decide), zfill_ne (by decide), zfill_ne (by decide), zset_ne _ (by decide), zset_ne _ (by decide), zset_ne _ (by decide), zset_ne _ (by decide), zset_ne _ (by decide), zset_ne _ (by decide), zset_ne _ (by decide), zset_ne _ (by decide), zset_ne _ (by decide), hfr 52 (by decide) (by omega)]
          · rw [zset_ne _ (by decide), zset_ne _ (by decide), zset_ne _ (by decide), zset_at]
          · rw [zset_ne _ (by decide), zset_ne _ (by decide), zset_at]
          · rw [zset_ne _ (by decide), zset_at]
      · have hno : v < 0 ∨ M 124 2 < v := by omega
        refine p_aload_n 13 dX11_county_12 rfl rfl (by decide) ?_
        refine p_iconst 14 dX11_county_13 ?_
        refine p_callV1i 0 17 dX11_county_14 s_refuse lk_X11_73 mX11_refuse rfl rfl (by decide) (Nat.le_of_ble_eq_true rfl) ?_
        rintro _ _ ⟨rfl, rfl⟩
        refine p_iret dX11_county_17 rfl ?_
        exact ⟨_, rfl, CA.no2 hI hF (ga_county_no hno) (by decide)⟩
  · have hto : M 25 0 = M 124 14 := hC.1.1
    have hla : M 25 1 = M 127 0 := hC.1.2.1
    have hsn : M 25 2 = M 127 1 := hC.1.2.2.1
    have hcs : M 26 0 = M 127 2 := hC.1.2.2.2.1
    have hca : M 31 0 = M 127 3 := hC.1.2.2.2.2.1
    have hcw : M 36 0 = M 127 4 := hC.1.2.2.2.2.2.1
    have hcb : M 36 1 = M 127 5 := hC.1.2.2.2.2.2.2.1
    have hcor : M 42 0 = M 127 6 := hC.1.2.2.2.2.2.2.2.1
    have hcn : M 42 4 = M 127 7 := hC.1.2.2.2.2.2.2.2.2
    have hF1 := hF.1
    refine p_iload_n 1 dX11_county_0 rfl rfl ?_
    refine p_if_lt 12 4 dX11_county_1 (by omega) (by omega) (fun h1 => ?_) (fun h1 => ?_)
    · have hno : v < 0 ∨ M 124 2 < v := by omega
      refine p_aload_n 13 dX11_county_12 rfl rfl (by decide) ?_
      refine p_iconst 14 dX11_county_13 ?_
      refine p_callV1i 0 17 dX11_county_14 s_refuse lk_X11_73 mX11_refuse rfl rfl (by decide) (Nat.le_of_ble_eq_true rfl) ?_
      rintro _ _ ⟨rfl, rfl⟩
      refine p_iret dX11_county_17 rfl ?_
      exact ⟨_, rfl, CA.no2 hI hF (ga_county_no hno) (by decide)⟩
    · refine p_iload_n 5 dX11_county_4 rfl rfl ?_
      refine p_aload_n 6 dX11_county_5 rfl rfl (by decide) ?_
      refine p_getI 0 9 dX11_county_6 fX11_65 rfl ?_
      rw [j1]
      refine p_icmp_le 18 12 dX11_county_9 (by omega) (by omega) (by omega) (by omega) (fun h9 => ?_) (fun h9 => ?_)
      · obtain ⟨k, rfl⟩ : ∃ k : Nat, v = (k : Int) := ⟨v.toNat, by omega⟩
        refine p_aload_n 19 dX11_county_18 rfl rfl (by decide) ?_
        refine p_getR 0 22 dX11_county_19 fX11_26 rfl (hW (0, 7, 48) (by decide)) ?_
        refine p_aload_n 23 dX11_county_22 rfl rfl (by decide) ?_
        refine p_getR 0 26 dX11_county_23 fX11_9 rfl (hW (0, 0, 1) (by decide)) ?_
        refine p_iload_n 27 dX11_county_26 rfl rfl ?_
        refine p_aload_n 28 dX11_county_27 rfl rfl (by decide) ?_
        refine p_getR 0 31 dX11_county_28 fX11_20 rfl hsp ?_
        refine p_callV3v 48 34 dX11_county_31 (s_read (t := M 125) (n := k) (c := 2) (by omega) (fun i hi => hF.2.1 i (by omega)) (Or.inl rfl) hW (fun i hi => j2 i (by omega))) lk_X11_77 mX6_read rfl rfl (by decide) (Nat.le_of_ble_eq_true rfl) ?_
        intro M9 hrd
        cases hq : q_parse (M 125) k with
        | inl e =>
          rw [hq] at hrd
          obtain ⟨hW9, hfr, f8, f9⟩ := hrd
          have he := q_parse_bad hq
          obtain ⟨he1, he2, he3, he4⟩ := id he
          refine p_aload_n 35 dX11_county_34 rfl rfl (by decide) ?_
          refine p_iconst 36 dX11_county_35 ?_
          refine p_putI 0 39 dX11_county_36 wX11_65 rfl ?_
          have hW9 := hW9.set (c := 0) (k := 1) (v := 0) (by decide +kernel)
          refine p_aload_n 40 dX11_county_39 rfl rfl (by decide) ?_
          refine p_aload_n 41 dX11_county_40 rfl rfl (by decide) ?_
          refine p_getR 0 44 dX11_county_41 fX11_26 rfl (hW9 (0, 7, 48) (by decide)) ?_
          refine p_getI 48 47 dX11_county_44 fX11_81 rfl ?_
          rw [zset_ne _ (by decide), f8]
          refine p_putI 0 50 dX11_county_47 wX11_84 rfl ?_
          have hW9 := hW9.set (c := 0) (k := 3) (v := e.1) (by decide +kernel)
          refine p_aload_n 51 dX11_county_50 rfl rfl (by decide) ?_
          refine p_aload_n 52 dX11_county_51 rfl rfl (by decide) ?_
          refine p_getR 0 55 dX11_county_52 fX11_26 rfl (hW9 (0, 7, 48) (by decide)) ?_
          refine p_getI 48 58 dX11_county_55 fX11_85 rfl ?_
          rw [zset_ne _ (by decide), zset_ne _ (by decide), f9]
          refine p_putI 0 61 dX11_county_58 wX11_88 rfl ?_
          have hW9 := hW9.set (c := 0) (k := 4) (v := e.2) (by decide +kernel)
          refine p_aload_n 62 dX11_county_61 rfl rfl (by decide) ?_
          refine p_getI 0 65 dX11_county_62 fX11_84 rfl ?_
          rw [zset_k (by decide), zset_at]
          refine p_if_eq 74 68 dX11_county_65 (by omega) (by omega) (fun h65 => absurd (by omega) (fun h9 : False => h9)) (fun h65 => ?_)
          refine p_aload_n 69 dX11_county_68 rfl rfl (by decide) ?_
          refine p_iconst 70 dX11_county_69 ?_
          refine p_callV1i 0 73 dX11_county_70 s_refuse lk_X11_73 mX11_refuse rfl rfl (by decide) (Nat.le_of_ble_eq_true rfl) ?_
          rintro _ _ ⟨rfl, rfl⟩
          refine p_iret dX11_county_73 rfl ?_
          refine ⟨_, rfl, ?_⟩
          rw [ga_county_l (by omega) hq]
          exact ⟨rfl, IC.bad hI (c := 25) (c' := 2) (Or.inr ⟨rfl, rfl⟩) hC (hW9.set (by decide +kernel)) (fun a h0 h48 hb => by rw [zset_ne _ h0, zset_ne _ h0, zset_ne _ h0, zset_ne _ h0]; exact hfr a h48 hb) (by rw [zset_k (by decide), zset_k (by decide), zset_k (by decide), zset_k (by decide), hfr 0 (by decide) (by omega)]; exact hco) (by rw [zset_k (by decide), zset_k (by decide), zset_k (by decide), zset_k (by decide), hfr 0 (by decide) (by omega)]; exact hsp) (by rw [zset_k (by decide), zset_k (by decide), zset_k (by decide), zset_at]) (zset_at _ _ _ _) (by rw [zset_k (by decide), zset_k (by decide), zset_at]) (by rw [zset_k (by decide), zset_at]), fun x hx => by rw [zset_ne _ (by omega), zset_ne _ (by omega), zset_ne _ (by omega), zset_ne _ (by omega), hfr x (by omega) (by omega)]⟩
        | inr ρ =>
          rw [hq] at hrd
          obtain ⟨hW9, hfr, f8, hIr⟩ := hrd
          obtain ⟨hP, hr0, hr2⟩ := q_parse_PI hq
          refine p_aload_n 35 dX11_county_34 rfl rfl (by decide) ?_
          refine p_iconst 36 dX11_county_35 ?_
          refine p_putI 0 39 dX11_county_36 wX11_65 rfl ?_
          have hW9 := hW9.set (c := 0) (k := 1) (v := 0) (by decide +kernel)
          refine p_aload_n 40 dX11_county_39 rfl rfl (by decide) ?_
          refine p_aload_n 41 dX11_county_40 rfl rfl (by decide) ?_
          refine p_getR 0 44 dX11_county_41 fX11_26 rfl (hW9 (0, 7, 48) (by decide)) ?_
          refine p_getI 48 47 dX11_county_44 fX11_81 rfl ?_
          rw [zset_ne _ (by decide), f8]
          refine p_putI 0 50 dX11_county_47 wX11_84 rfl ?_
          have hW9 := hW9.set (c := 0) (k := 3) (v := 0) (by decide +kernel)
          refine p_aload_n 51 dX11_county_50 rfl rfl (by decide) ?_
          refine p_aload_n 52 dX11_county_51 rfl rfl (by decide) ?_
          refine p_getR 0 55 dX11_county_52 fX11_26 rfl (hW9 (0, 7, 48) (by decide)) ?_
          refine p_getI 48 58 dX11_county_55 fX11_85 rfl ?_
          obtain ⟨x9, hx9⟩ : ∃ x, zset (zset M9 0 1 0) 0 3 0 48 9 = x := ⟨_, rfl⟩
          rw [hx9]
          refine p_putI 0 61 dX11_county_58 wX11_88 rfl ?_
          have hW9 := hW9.set (c := 0) (k := 4) (v := x9) (by decide +kernel)
          refine p_aload_n 62 dX11_county_61 rfl rfl (by decide) ?_
          refine p_getI 0 65 dX11_county_62 fX11_84 rfl ?_
          rw [zset_k (by decide), zset_at]
          refine p_if_eq 74 68 dX11_county_65 (by decide) (by decide) (fun h65 => ?_) (fun h65 => absurd (h65 rfl) (fun h9 : False => h9))
          have hco9 : zset (zset (zset M9 0 1 0) 0 3 0) 0 4 x9 0 5 = ((25 : Nat) : Int) := by
            rw [zset_k (by decide), zset_k (by decide), zset_k (by decide), hfr 0 (by decide) (by omega)]
            exact hco
          have hsp9 : zset (zset (zset M9 0 1 0) 0 3 0) 0 4 x9 0 6 = ((2 : Nat) : Int) := by
            rw [zset_k (by decide), zset_k (by decide), zset_k (by decide), hfr 0 (by decide) (by omega)]
            exact hsp
          refine p_aload_n 75 dX11_county_74 rfl rfl (by decide) ?_
          refine p_getR 0 78 dX11_county_75 fX11_16 rfl hco9 ?_
          refine p_astore_n 79 dX11_county_78 rfl (Nat.le_of_ble_eq_true rfl) rfl (by decide) rfl ?_
          dsimp only [List.set]
          refine p_aload_n 80 dX11_county_79 rfl rfl (by decide) ?_
          refine p_aload_n 81 dX11_county_80 rfl rfl (by decide) ?_
          refine p_getR 0 84 dX11_county_81 fX11_20 rfl hsp9 ?_
          refine p_putR 0 87 dX11_county_84 wX11_16 rfl (by show (0 : Int) ≤ _; decide) ?_
          have hW9 := hW9.set (c := 0) (k := 5) (v := ((2 : Nat) : Int)) (by decide +kernel)
          refine p_aload_n 88 dX11_county_87 rfl rfl (by decide) ?_
          refine p_aload_n 89 dX11_county_88 rfl rfl (by decide) ?_
          refine p_putR 0 92 dX11_county_89 wX11_20 rfl (by show (0 : Int) ≤ _; decide) ?_
          have hW9 := hW9.set (c := 0) (k := 6) (v := ((25 : Nat) : Int)) (by decide +kernel)
          refine p_aload_n 93 dX11_county_92 rfl rfl (by decide) ?_
          refine p_getR 0 96 dX11_county_93 fX11_33 rfl (hW9 (0, 8, 49) (by decide)) ?_
          refine p_callV0v 49 99 dX11_county_96 (s_nowReset hW9) lk_X11_89 mX3_reset rfl rfl (by decide) (Nat.le_of_ble_eq_true rfl) ?_
          rintro _ rfl
          have hW9 := zfill_wc (c := 51) (k := 7) (v := -2) (zfill_wc (c := 50) (k := 7) (v := 0) ((((hW9.set (c := 49) (k := 0) (v := 0) (by decide +kernel)).set (c := 49) (k := 1) (v := 0) (by decide +kernel)).set (c := 49) (k := 2) (v := 0) (by decide +kernel)).set (c := 49) (k := 3) (v := 0) (by decide +kernel)) (by decide +kernel)) (by decide +kernel)
          refine p_aload_n 100 dX11_county_99 rfl rfl (by decide) ?_
          refine p_getR 0 103 dX11_county_100 fX11_40 rfl (hW9 (0, 9, 52) (by decide)) ?_
          refine p_callV0v 52 106 dX11_county_103 s_pastReset lk_X11_92 mX5_reset rfl rfl (by decide) (Nat.le_of_ble_eq_true rfl) ?_
          rintro _ rfl
          have hW9 := (hW9.set (c := 52) (k := 2) (v := 0) (by decide +kernel)).set (c := 52) (k := 4) (v := 0) (by decide +kernel)
          refine p_aload_n 107 dX11_county_106 rfl rfl (by decide) ?_
          refine p_getR 0 110 dX11_county_107 fX11_47 rfl (hW9 (0, 10, 112) (by decide)) ?_
          refine p_iconst 111 dX11_county_110 ?_
          refine p_putZ 112 114 dX11_county_111 wX11_93 rfl (by decide) ?_
          have hW9 := hW9.set (c := 112) (k := 0) (v := 0) (by decide +kernel)
          refine p_aload_n 115 dX11_county_114 rfl rfl (by decide) ?_
          refine p_getR 0 118 dX11_county_115 fX11_54 rfl (hW9 (0, 11, 115) (by decide)) ?_
          refine p_iconst 119 dX11_county_118 ?_
          refine p_putZ 115 122 dX11_county_119 wX11_97 rfl (by decide) ?_
          have hW9 := hW9.set (c := 115) (k := 0) (v := 0) (by decide +kernel)
          refine p_aload_n 123 dX11_county_122 rfl rfl (by decide) ?_
          refine p_getR 0 126 dX11_county_123 fX11_61 rfl (hW9 (0, 12, 121) (by decide)) ?_
          refine p_iconst 127 dX11_county_126 ?_
          refine p_putZ 121 130 dX11_county_127 wX11_98 rfl (by decide) ?_
          have hW9 := hW9.set (c := 121) (k := 0) (v := 0) (by decide +kernel)
          have hx : ∀ a, a ≠ 49 → a ≠ 50 → a ≠ 51 → a ≠ 52 → a ≠ 112 → a ≠ 115 → a ≠ 121 → (zset (zset (zset (zset (zset (zfill (zfill (zset (zset (zset (zset (zset (zset (zset (zset (zset M9 0 1 0) 0 3 0) 0 4 x9) 0 5 ((2 : Nat) : Int)) 0 6 ((25 : Nat) : Int)) 49 0 0) 49 1 0) 49 2 0) 49 3 0) 50 7 0) 51 7 (-2)) 52 2 0) 52 4 0) 112 0 0) 115 0 0) 121 0 0) a = (zset (zset (zset (zset (zset M9 0 1 0) 0 3 0) 0 4 x9) 0 5 ((2 : Nat) : Int)) 0 6 ((25 : Nat) : Int)) a := fun a g1 g2 g3 g4 g5 g6 g7 => by rw [zset_ne _ g7, zset_ne _ g6, zset_ne _ g5, zset_ne _ g4, zset_ne _ g4, zfill_ne g3, zfill_ne g2, zset_ne _ g1, zset_ne _ g1, zset_ne _ g1, zset_ne _ g1]
          have hy : ∀ a, a ≠ 0 → a ≠ 49 → a ≠ 50 → a ≠ 51 → a ≠ 52 → a ≠ 112 → a ≠ 115 → a ≠ 121 → (zset (zset (zset (zset (zset (zfill (zfill (zset (zset (zset (zset (zset (zset (zset (zset (zset M9 0 1 0) 0 3 0) 0 4 x9) 0 5 ((2 : Nat) : Int)) 0 6 ((25 : Nat) : Int)) 49 0 0) 49 1 0) 49 2 0) 49 3 0) 50 7 0) 51 7 (-2)) 52 2 0) 52 4 0) 112 0 0) 115 0 0) 121 0 0) a = M9 a := fun a g0 g1 g2 g3 g4 g5 g6 g7 => by rw [hx a g1 g2 g3 g4 g5 g6 g7, zset_ne _ g0, zset_ne _ g0, zset_ne _ g0, zset_ne _ g0, zset_ne _ g0]
          have hz : (zset (zset (zset (zset (zset (zfill (zfill (zset (zset (zset (zset (zset (zset (zset (zset (zset M9 0 1 0) 0 3 0) 0 4 x9) 0 5 ((2 : Nat) : Int)) 0 6 ((25 : Nat) : Int)) 49 0 0) 49 1 0) 49 2 0) 49 3 0) 50 7 0) 51 7 (-2)) 52 2 0) 52 4 0) 112 0 0) 115 0 0) 121 0 0) 0 = (zset (zset (zset (zset (zset M9 0 1 0) 0 3 0) 0 4 x9) 0 5 ((2 : Nat) : Int)) 0 6 ((25 : Nat) : Int)) 0 := hx 0 (by decide) (by decide) (by decide) (by decide) (by decide) (by decide) (by decide)
          have hc5 : (zset (zset (zset (zset (zset (zfill (zfill (zset (zset (zset (zset (zset (zset (zset (zset (zset M9 0 1 0) 0 3 0) 0 4 x9) 0 5 ((2 : Nat) : Int)) 0 6 ((25 : Nat) : Int)) 49 0 0) 49 1 0) 49 2 0) 49 3 0) 50 7 0) 51 7 (-2)) 52 2 0) 52 4 0) 112 0 0) 115 0 0) 121 0 0) 0 5 = ((2 : Nat) : Int) := by rw [hz, zset_k (by decide), zset_at]
          refine p_aload_n 131 dX11_county_130 rfl rfl (by decide) ?_
          refine p_aload_n 132 dX11_county_131 rfl rfl (by decide) ?_
          refine p_getR 0 135 dX11_county_132 fX11_16 rfl hc5 ?_
          refine p_getR 2 138 dX11_county_135 fX11_99 rfl (hW9 (2, 3, 3) (by decide)) ?_
          refine p_getI 3 141 dX11_county_138 fX11_103 rfl ?_
          rw [hy 3 (by decide) (by decide) (by decide) (by decide) (by decide) (by decide) (by decide) (by decide)]
          rw [show M9 3 0 = ρ 2 from hIr.1.1.2.2.2.1]
          refine p_callV1i 0 144 dX11_county_141 s_grant lk_X11_108 mX11_grant rfl rfl (by decide) (Nat.le_of_ble_eq_true rfl) ?_
          rintro _ _ ⟨rfl, rfl⟩
          refine p_iret dX11_county_144 rfl ?_
          refine ⟨_, rfl, ?_⟩
          rw [ga_county_r (by omega) hq]
          refine ⟨rfl, IC.cty hI (c := 25) (c' := 2) (Or.inr ⟨rfl, rfl⟩) hP hr0 (hW9.set (by decide +kernel)) (hIr.congr (fun a g1 g2 => by rw [zset_ne _ (by omega), hy a (by omega) (by omega) (by omega) (by omega) (by omega) (by omega) (by omega) (by omega)])) (by rw [zset_k (by decide)]; exact hc5) (by rw [zset_k (by decide), hz, zset_at]) (by rw [zset_k (by decide), hz, zset_k (by decide), zset_k (by decide), zset_k (by decide), zset_k (by decide), zset_at]) (zset_at _ _ _ _) (by rw [zset_k (by decide), hz, zset_k (by decide), zset_k (by decide), zset_k (by decide), zset_at]) (fun j hj => ?_) (fun s hs => ?_) (fun s hs => ?_) ?_ ?_ ?_ ?_ ?_ ?_ (fun x x1 x2 => by rw [zset_ne _ (by omega), hy x (by omega) (by omega) (by omega) (by omega) (by omega) (by omega) (by omega) (by omega), hfr x (by omega) (by omega)]), fun x x1 => by rw [zset_ne _ (by omega), hy x (by omega) (by omega) (by omega) (by omega) (by omega) (by omega) (by omega) (by omega), hfr x (by omega) (by omega)]⟩
          · rw [zset_ne _ (by decide), zset_ne _ (by decide), zset_ne _ (by decide), zset_ne _ (by decide), zset_ne _ (by decide), zset_ne _ (by decide), zfill_ne (by decide), zfill_ne (by decide)]
            have e4 : j = 0 ∨ j = 1 ∨ j = 2 ∨ j = 3 := by omega
            rcases e4 with rfl | rfl | rfl | rfl <;> rfl
          · rw [zset_ne _ (by decide), zset_ne _ (by decide), zset_ne _ (by decide), zset_ne _ (by decide), zset_ne _ (by decide), zset_ne _ (by decide), zfill_ne (by decide)]
            unfold zfill
            rw [if_pos ⟨rfl, hs⟩]
          · rw [zset_ne _ (by decide), zset_ne _ (by decide), zset_ne _ (by decide), zset_ne _ (by decide), zset_ne _ (by decide), zset_ne _ (by decide)]
            unfold zfill
            rw [if_pos ⟨rfl, hs⟩]
          · rw [zset_ne _ (by decide), zset_ne _ (by decide), zset_ne _ (by decide), zset_ne _ (by decide), zset_k (by decide), zset_at]
          · rw [zset_ne _ (by decide), zset_ne _ (by decide), zset_ne _ (by decide), zset_ne _ (by decide), zset_at]
          · rw [zset_ne _ (by decide), zset_ne _ (by decide), zset_ne _ (by decide), zset_ne _ (by decide), zset_k (by decide), zset_k (by decide), zfill_ne (by decide), zfill_ne (by decide), zset_ne _ (by decide), zset_ne _ (by decide), zset_ne _ (by decide), zset_ne _ (by decide), zset_ne _ (by decide), zset_ne _ (by decide), zset_ne _ (by decide), zset_ne _ (by decide), zset_ne _ (by decide), hfr 52 (by decide) (by omega)]
          · rw [zset_ne _ (by decide), zset_ne _ (by decide), zset_ne _ (by decide), zset_at]
          · rw [zset_ne _ (by decide), zset_ne _ (by decide), zset_at]
          · rw [zset_ne _ (by decide), zset_at]
      · have hno : v < 0 ∨ M 124 2 < v := by omega
        refine p_aload_n 13 dX11_county_12 rfl rfl (by decide) ?_
        refine p_iconst 14 dX11_county_13 ?_
        refine p_callV1i 0 17 dX11_county_14 s_refuse lk_X11_73 mX11_refuse rfl rfl (by decide) (Nat.le_of_ble_eq_true rfl) ?_
        rintro _ _ ⟨rfl, rfl⟩
        refine p_iret dX11_county_17 rfl ?_
        exact ⟨_, rfl, CA.no2 hI hF (ga_county_no hno) (by decide)⟩
