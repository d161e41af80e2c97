theorem s_freeHands_2 {l : Launch} {X : ZX} {M : ZM} {ρ τ : Nat → Int} {h : Int} (hW : zWc M) (hC : ICc ρ h 2 M) (hR : wfR ρ) (hco : M 0 5 = 2) (hN : ICn τ 1 49 M) (hT : wfT ρ τ) {a : Nat} (ha : (a : Int) < ρ 3) : zCi l X 2 yX11_freeHands tX11_freeHands [zr 0, zi (a : Int)] M (fun x M' => x = ρ (29 + 3 * a + 1) - (q_ones (q_by ρ τ a) : Int) ∧ M' = M) := by
  have b3 := hR.2.1.2.2.2.1
  obtain ⟨-, gh, -⟩ := hC.2.2.1 a ha
  have gh : M 11 a = ρ (29 + 3 * a + 1) := gh
  refine zC.of [some (zr 0), some (zi (a : Int))] (by decide +kernel) rfl rfl (Nat.le_of_ble_eq_true rfl) rfl ?_
  refine p_aload_n 1 dX11_freeHands_0 rfl rfl (by decide) ?_
  refine p_getR 0 4 dX11_freeHands_1 fX11_16 rfl hco ?_
  refine p_getR 2 7 dX11_freeHands_4 fX11_151 rfl (hW (2, 4, 8) (by decide)) ?_
  refine p_getR 8 10 dX11_freeHands_7 fX11_158 rfl (hW (8, 3, 11) (by decide)) ?_
  refine p_iload_n 11 dX11_freeHands_10 rfl rfl ?_
  refine p_iald 11 12 dX11_freeHands_11 rfl (by omega) (by omega) ?_
  try simp only [Int.toNat_natCast, Int.reduceToNat]
  rw [gh]
  refine p_aload_n 13 dX11_freeHands_12 rfl rfl (by decide) ?_
  refine p_getR 0 16 dX11_freeHands_13 fX11_33 rfl (hW (0, 8, 49) (by decide)) ?_
  refine p_iload_n 17 dX11_freeHands_16 rfl rfl ?_
  refine p_callV1i 49 20 dX11_freeHands_17 (s_tendedByOne hW hN hT hR (a := a) (by omega)) lk_X11_164 mX3_tendedByOne rfl rfl (by decide) (Nat.le_of_ble_eq_true rfl) ?_
  rintro _ _ ⟨rfl, e9⟩
  have e9 := e9.symm
  subst e9
  rw [q_by7 hR hT]
  refine p_callS1i 23 dX11_freeHands_20 (s_bitCount (q_by_lt hR a)) lk_X11_248 mJ6_bitCount_0f7a4 (by decide) (Nat.le_of_ble_eq_true rfl) ?_
  rintro _ _ ⟨rfl, e9⟩
  have e9 := e9.symm
  subst e9
  refine p_isub 24 dX11_freeHands_23 ?_
  refine p_iret dX11_freeHands_24 rfl ?_
  exact ⟨_, rfl, rfl, rfl⟩
theorem s_freeHands_25 {l : Launch} {X : ZX} {M : ZM} {ρ τ : Nat → Int} {h : Int} (hW : zWc M) (hC : ICc ρ h 25 M) (hR : wfR ρ) (hco : M 0 5 = 25) (hN : ICn τ 1 49 M) (hT : wfT ρ τ) {a : Nat} (ha : (a : Int) < ρ 3) : zCi l X 2 yX11_freeHands tX11_freeHands [zr 0, zi (a : Int)] M (fun x M' => x = ρ (29 + 3 * a + 1) - (q_ones (q_by ρ τ a) : Int) ∧ M' = M) := by
  have b3 := hR.2.1.2.2.2.1
  obtain ⟨-, gh, -⟩ := hC.2.2.1 a ha
  have gh : M 34 a = ρ (29 + 3 * a + 1) := gh
  refine zC.of [some (zr 0), some (zi (a : Int))] (by decide +kernel) rfl rfl (Nat.le_of_ble_eq_true rfl) rfl ?_
  refine p_aload_n 1 dX11_freeHands_0 rfl rfl (by decide) ?_
  refine p_getR 0 4 dX11_freeHands_1 fX11_16 rfl hco ?_
  refine p_getR 25 7 dX11_freeHands_4 fX11_151 rfl (hW (25, 4, 31) (by decide)) ?_
  refine p_getR 31 10 dX11_freeHands_7 fX11_158 rfl (hW (31, 3, 34) (by decide)) ?_
  refine p_iload_n 11 dX11_freeHands_10 rfl rfl ?_
  refine p_iald 34 12 dX11_freeHands_11 rfl (by omega) (by omega) ?_
  try simp only [Int.toNat_natCast, Int.reduceToNat]
  rw [gh]
  refine p_aload_n 13 dX11_freeHands_12 rfl rfl (by decide) ?_
  refine p_getR 0 16 dX11_freeHands_13 fX11_33 rfl (hW (0, 8, 49) (by decide)) ?_
  refine p_iload_n 17 dX11_freeHands_16 rfl rfl ?_
  refine p_callV1i 49 20 dX11_freeHands_17 (s_tendedByOne hW hN hT hR (a := a) (by omega)) lk_X11_164 mX3_tendedByOne rfl rfl (by decide) (Nat.le_of_ble_eq_true rfl) ?_
  rintro _ _ ⟨rfl, e9⟩
  have e9 := e9.symm
  subst e9
  rw [q_by7 hR hT]
  refine p_callS1i 23 dX11_freeHands_20 (s_bitCount (q_by_lt hR a)) lk_X11_248 mJ6_bitCount_0f7a4 (by decide) (Nat.le_of_ble_eq_true rfl) ?_
  rintro _ _ ⟨rfl, e9⟩
  have e9 := e9.symm
  subst e9
  refine p_isub 24 dX11_freeHands_23 ?_
  refine p_iret dX11_freeHands_24 rfl ?_
  exact ⟨_, rfl, rfl, rfl⟩
theorem c_awake {l : Launch} {X : ZX} {M : ZM} (hI : IC M M) (hF : WF M) {s w : Int} (hs1 : -2147483648 ≤ s) (hs2 : s < 2147483648) (hw1 : -2147483648 ≤ w) (hw2 : w < 2147483648) : zCi l X 3 yX11_awake tX11_awake [zr 0, zi s, zi w] M (CQ M (pa_awake (M 124 14) (M 127) (M 129) s w)) := by
  obtain ⟨hW, ⟨c, c', hcc, hco, hsp, hC⟩, ⟨j1, j2, j3, j4, j5⟩, hN, hpast, hten, ⟨hz0, hsea⟩, hfit⟩ := id hI
  have hR := hF.r
  have hT := hF.t
  have hh := hF.h
  have e0 : M 127 0 = (q_n (M 127) 0 : Int) := hR.n (by decide)
  have e2 : M 127 2 = (q_n (M 127) 2 : Int) := hR.n (by decide)
  have e3 : M 127 3 = (q_n (M 127) 3 : Int) := hR.n (by decide)
  have e4 : M 127 4 = (q_n (M 127) 4 : Int) := hR.n (by decide)
  have bR := hR.2.1
  have h20 : M 124 14 = 0 → M 127 2 = 0 := fun h => hF.r0 h 2 (by decide)
  have h30 : M 124 14 = 0 → M 127 3 = 0 := fun h => hF.r0 h 3 (by decide)
  have h40 : M 124 14 = 0 → M 127 4 = 0 := fun h => hF.r0 h 4 (by decide)
  have hwo : M 49 3 = M 129 16 := hN.2.2.2.1
  have t160 := hT.1 16 (by decide)
  have t161 := hT.2.2.2.2.1
  refine zC.of [some (zr 0), some (zi s), some (zi w)] (by decide +kernel) rfl rfl (Nat.le_of_ble_eq_true rfl) rfl ?_
  rcases hcc with ⟨rfl, rfl⟩ | ⟨rfl, rfl⟩
  · have hto : M 2 0 = M 124 14 := hC.1.1
    have hla : M 2 1 = M 127 0 := hC.1.2.1
    have hsn : M 2 2 = M 127 1 := hC.1.2.2.1
    have hcs : M 3 0 = M 127 2 := hC.1.2.2.2.1
    have hca : M 8 0 = M 127 3 := hC.1.2.2.2.2.1
    have hcw : M 13 0 = M 127 4 := hC.1.2.2.2.2.2.1
    have hcb : M 13 1 = M 127 5 := hC.1.2.2.2.2.2.2.1
    have hcor : M 19 0 = M 127 6 := hC.1.2.2.2.2.2.2.2.1
    have hcn : M 19 4 = M 127 7 := hC.1.2.2.2.2.2.2.2.2
    refine p_aload_n 1 dX11_awake_0 rfl rfl (by decide) ?_
    refine p_iload_n 2 dX11_awake_1 rfl rfl ?_
    refine p_callV1i 0 5 dX11_awake_2 (s_isHelper_2 hW hC hR hco (by omega) (by omega)) lk_X11_148 mX11_isHelper rfl rfl (by decide) (Nat.le_of_ble_eq_true rfl) ?_
    rintro _ _ ⟨rfl, e9⟩
    have e9 := e9.symm
    subst e9
    refine p_if_ne 14 8 dX11_awake_5 (by split <;> omega) (by split <;> omega) (fun h5 => ?_) (fun h5 => ?_)
    · have h5 := if_ne0 h5
      obtain ⟨n, rfl⟩ : ∃ k : Nat, s = (k : Int) := ⟨s.toNat, by omega⟩
      obtain ⟨g1, g2, g3⟩ := hC.2.2.1 n (by omega)
      have g1 : M 10 n = _ := g1
      have g2 : M 11 n = _ := g2
      have g3 : M 12 n = _ := g3
      have h1 : M 124 14 = 1 := by omega
      have hN1 : ICn (M 129) 1 49 M := by rw [← h1]; exact hN
      refine p_iload_n 15 dX11_awake_14 rfl rfl ?_
      have hsw15 : w = 0 ∨ w = 1 ∨ w = 2 ∨ w = 3 ∨ w = 4 ∨ (w < 0 ∨ 4 < w) := by omega
      rcases hsw15 with hs15 | hs15 | hs15 | hs15 | hs15 | hs15
      · refine p_tabJ (off := 33) 0 48 dX11_awake_15 hs15 (by decide) (by decide) (by decide) ?_
        refine p_aload_n 49 dX11_awake_48 rfl rfl (by decide) ?_
        refine p_aload_n 50 dX11_awake_49 rfl rfl (by decide) ?_
        refine p_getR 0 53 dX11_awake_50 fX11_16 rfl hco ?_
        refine p_getR 2 56 dX11_awake_53 fX11_151 rfl (hW (2, 4, 8) (by decide)) ?_
        refine p_getR 8 59 dX11_awake_56 fX11_155 rfl (hW (8, 2, 10) (by decide)) ?_
        refine p_iload_n 60 dX11_awake_59 rfl rfl ?_
        refine p_iald 10 61 dX11_awake_60 rfl (by omega) (by omega) ?_
        try simp only [Int.toNat_natCast, Int.reduceToNat]
        refine p_callV1i 0 64 dX11_awake_61 s_grant lk_X11_108 mX11_grant rfl rfl (by decide) (Nat.le_of_ble_eq_true rfl) ?_
        rintro _ _ ⟨rfl, rfl⟩
        refine p_iret dX11_awake_64 rfl ?_
        exact ⟨_, rfl, CQ.of hI hF (fun k _ => rfl) (by unfold pa_awake; (repeat' split) <;> first | rfl | (exfalso; omega) | exact g1 | exact g2 | exact g3) (by unfold pa_awake; (repeat' split) <;> first | rfl | (exfalso; omega)) (by decide)⟩
      · refine p_tabJ (off := 50) 1 65 dX11_awake_15 hs15 (by decide) (by decide) (by decide) ?_
        refine p_aload_n 66 dX11_awake_65 rfl rfl (by decide) ?_
        refine p_aload_n 67 dX11_awake_66 rfl rfl (by decide) ?_
        refine p_getR 0 70 dX11_awake_67 fX11_16 rfl hco ?_
        refine p_getR 2 73 dX11_awake_70 fX11_151 rfl (hW (2, 4, 8) (by decide)) ?_
        refine p_getR 8 76 dX11_awake_73 fX11_158 rfl (hW (8, 3, 11) (by decide)) ?_
        refine p_iload_n 77 dX11_awake_76 rfl rfl ?_
        refine p_iald 11 78 dX11_awake_77 rfl (by omega) (by omega) ?_
        try simp only [Int.toNat_natCast, Int.reduceToNat]
        refine p_callV1i 0 81 dX11_awake_78 s_grant lk_X11_108 mX11_grant rfl rfl (by decide) (Nat.le_of_ble_eq_true rfl) ?_
        rintro _ _ ⟨rfl, rfl⟩
        refine p_iret dX11_awake_81 rfl ?_
        exact ⟨_, rfl, CQ.of hI hF (fun k _ => rfl) (by unfold pa_awake; (repeat' split) <;> first | rfl | (exfalso; omega) | exact g1 | exact g2 | exact g3) (by unfold pa_awake; (repeat' split) <;> first | rfl | (exfalso; omega)) (by decide)⟩
      · refine p_tabJ (off := 67) 2 82 dX11_awake_15 hs15 (by decide) (by decide) (by decide) ?_
        refine p_aload_n 83 dX11_awake_82 rfl rfl (by decide) ?_
        refine p_aload_n 84 dX11_awake_83 rfl rfl (by decide) ?_
        refine p_getR 0 87 dX11_awake_84 fX11_16 rfl hco ?_
        refine p_getR 2 90 dX11_awake_87 fX11_151 rfl (hW (2, 4, 8) (by decide)) ?_
        refine p_getR 8 93 dX11_awake_90 fX11_161 rfl (hW (8, 4, 12) (by decide)) ?_
        refine p_iload_n 94 dX11_awake_93 rfl rfl ?_
        refine p_iald 12 95 dX11_awake_94 rfl (by omega) (by omega) ?_
        try simp only [Int.toNat_natCast, Int.reduceToNat]
        refine p_callV1i 0 98 dX11_awake_95 s_grant lk_X11_108 mX11_grant rfl rfl (by decide) (Nat.le_of_ble_eq_true rfl) ?_
        rintro _ _ ⟨rfl, rfl⟩
        refine p_iret dX11_awake_98 rfl ?_
        exact ⟨_, rfl, CQ.of hI hF (fun k _ => rfl) (by unfold pa_awake; (repeat' split) <;> first | rfl | (exfalso; omega) | exact g1 | exact g2 | exact g3) (by unfold pa_awake; (repeat' split) <;> first | rfl | (exfalso; omega)) (by decide)⟩
      · refine p_tabJ (off := 84) 3 99 dX11_awake_15 hs15 (by decide) (by decide) (by decide) ?_
        refine p_aload_n 100 dX11_awake_99 rfl rfl (by decide) ?_
        refine p_aload_n 101 dX11_awake_100 rfl rfl (by decide) ?_
        refine p_getR 0 104 dX11_awake_101 fX11_33 rfl (hW (0, 8, 49) (by decide)) ?_
        refine p_iload_n 105 dX11_awake_104 rfl rfl ?_
        refine p_callV1i 49 108 dX11_awake_105 (s_tendedByOne hW hN1 hT hR (a := n) (by omega)) lk_X11_164 mX3_tendedByOne rfl rfl (by decide) (Nat.le_of_ble_eq_true rfl) ?_
        rintro _ _ ⟨rfl, e9⟩
        have e9 := e9.symm
        subst e9
        rw [q_by7 hR hT]
        refine p_callV1i 0 111 dX11_awake_108 s_grant lk_X11_108 mX11_grant rfl rfl (by decide) (Nat.le_of_ble_eq_true rfl) ?_
        rintro _ _ ⟨rfl, rfl⟩
        refine p_iret dX11_awake_111 rfl ?_
        exact ⟨_, rfl, CQ.of hI hF (fun k _ => rfl) (by unfold pa_awake; (repeat' split) <;> first | rfl | (exfalso; omega) | exact g1 | exact g2 | exact g3) (by unfold pa_awake; (repeat' split) <;> first | rfl | (exfalso; omega)) (by decide)⟩
      · refine p_tabJ (off := 97) 4 112 dX11_awake_15 hs15 (by decide) (by decide) (by decide) ?_
        refine p_aload_n 113 dX11_awake_112 rfl rfl (by decide) ?_
        refine p_aload_n 114 dX11_awake_113 rfl rfl (by decide) ?_
        refine p_iload_n 115 dX11_awake_114 rfl rfl ?_
        refine p_callV1i 0 118 dX11_awake_115 (s_freeHands_2 hW hC hR hco hN1 hT (a := n) (by omega)) lk_X11_167 mX11_freeHands rfl rfl (by decide) (Nat.le_of_ble_eq_true rfl) ?_
        rintro _ _ ⟨rfl, e9⟩
        have e9 := e9.symm
        subst e9
        refine p_callV1i 0 121 dX11_awake_118 s_grant lk_X11_108 mX11_grant rfl rfl (by decide) (Nat.le_of_ble_eq_true rfl) ?_
        rintro _ _ ⟨rfl, rfl⟩
        refine p_iret dX11_awake_121 rfl ?_
        exact ⟨_, rfl, CQ.of hI hF (fun k _ => rfl) (by unfold pa_awake; (repeat' split) <;> first | rfl | (exfalso; omega) | exact g1 | exact g2 | exact g3) (by unfold pa_awake; (repeat' split) <;> first | rfl | (exfalso; omega)) (by decide)⟩
      · refine p_tabD 122 dX11_awake_15 (by omega) (by omega) hs15 ?_
        refine p_aload_n 123 dX11_awake_122 rfl rfl (by decide) ?_
        refine p_iconst 124 dX11_awake_123 ?_
        refine p_callV1i 0 127 dX11_awake_124 s_refuse lk_X11_73 mX11_refuse rfl rfl (by decide) (Nat.le_of_ble_eq_true rfl) ?_
        rintro _ _ ⟨rfl, rfl⟩
        refine p_iret dX11_awake_127 rfl ?_
        exact ⟨_, rfl, CQ.of hI hF (fun k _ => rfl) (by unfold pa_awake; (repeat' split) <;> first | rfl | (exfalso; omega) | exact g1 | exact g2 | exact g3) (by unfold pa_awake; (repeat' split) <;> first | rfl | (exfalso; omega)) (by decide)⟩
    · refine p_aload_n 9 dX11_awake_8 rfl rfl (by decide) ?_
      refine p_iconst 10 dX11_awake_9 ?_
      refine p_callV1i 0 13 dX11_awake_10 s_refuse lk_X11_73 mX11_refuse rfl rfl (by decide) (Nat.le_of_ble_eq_true rfl) ?_
      rintro _ _ ⟨rfl, rfl⟩
      refine p_iret dX11_awake_13 rfl ?_
      have h5 := if_nne0 h5
      exact ⟨_, rfl, CQ.of hI hF (fun k _ => rfl) (by unfold pa_awake; (repeat' split) <;> first | rfl | (exfalso; omega)) (by unfold pa_awake; (repeat' split) <;> first | rfl | (exfalso; omega)) (by decide)⟩
  · have hto : M 25 0 = M 124 14 := hC.1.1
    have hla : M 25 1 = M 127 0 := hC.1.2.1
    have hsn : M 25 2 = M 127 1 := hC.1.2.2.1
    have hcs : M 26 0 = M 127 2 := hC.1.2.2.2.1
    have hca : M 31 0 = M 127 3 := hC.1.2.2.2.2.1
    have hcw : M 36 0 = M 127 4 := hC.1.2.2.2.2.2.1
    have hcb : M 36 1 = M 127 5 := hC.1.2.2.2.2.2.2.1
    have hcor : M 42 0 = M 127 6 := hC.1.2.2.2.2.2.2.2.1
    have hcn : M 42 4 = M 127 7 := hC.1.2.2.2.2.2.2.2.2
    refine p_aload_n 1 dX11_awake_0 rfl rfl (by decide) ?_
    refine p_iload_n 2 dX11_awake_1 rfl rfl ?_
    refine p_callV1i 0 5 dX11_awake_2 (s_isHelper_25 hW hC hR hco (by omega) (by omega)) lk_X11_148 mX11_isHelper rfl rfl (by decide) (Nat.le_of_ble_eq_true rfl) ?_
    rintro _ _ ⟨rfl, e9⟩
    have e9 := e9.symm
    subst e9
    refine p_if_ne 14 8 dX11_awake_5 (by split <;> omega) (by split <;> omega) (fun h5 => ?_) (fun h5 => ?_)
    · have h5 := if_ne0 h5
      obtain ⟨n, rfl⟩ : ∃ k : Nat, s = (k : Int) := ⟨s.toNat, by omega⟩
      obtain ⟨g1, g2, g3⟩ := hC.2.2.1 n (by omega)
      have g1 : M 33 n = _ := g1
      have g2 : M 34 n = _ := g2
      have g3 : M 35 n = _ := g3
      have h1 : M 124 14 = 1 := by omega
      have hN1 : ICn (M 129) 1 49 M := by rw [← h1]; exact hN
      refine p_iload_n 15 dX11_awake_14 rfl rfl ?_
      have hsw15 : w = 0 ∨ w = 1 ∨ w = 2 ∨ w = 3 ∨ w = 4 ∨ (w < 0 ∨ 4 < w) := by omega
      rcases hsw15 with hs15 | hs15 | hs15 | hs15 | hs15 | hs15
      · refine p_tabJ (off := 33) 0 48 dX11_awake_15 hs15 (by decide) (by decide) (by decide) ?_
        refine p_aload_n 49 dX11_awake_48 rfl rfl (by decide) ?_
        refine p_aload_n 50 dX11_awake_49 rfl rfl (by decide) ?_
        refine p_getR 0 53 dX11_awake_50 fX11_16 rfl hco ?_
        refine p_getR 25 56 dX11_awake_53 fX11_151 rfl (hW (25, 4, 31) (by decide)) ?_
        refine p_getR 31 59 dX11_awake_56 fX11_155 rfl (hW (31, 2, 33) (by decide)) ?_
        refine p_iload_n 60 dX11_awake_59 rfl rfl ?_
        refine p_iald 33 61 dX11_awake_60 rfl (by omega) (by omega) ?_
        try simp only [Int.toNat_natCast, Int.reduceToNat]
        refine p_callV1i 0 64 dX11_awake_61 s_grant lk_X11_108 mX11_grant rfl rfl (by decide) (Nat.le_of_ble_eq_true rfl) ?_
        rintro _ _ ⟨rfl, rfl⟩
        refine p_iret dX11_awake_64 rfl ?_
        exact ⟨_, rfl, CQ.of hI hF (fun k _ => rfl) (by unfold pa_awake; (repeat' split) <;> first | rfl | (exfalso; omega) | exact g1 | exact g2 | exact g3) (by unfold pa_awake; (repeat' split) <;> first | rfl | (exfalso; omega)) (by decide)⟩
      · refine p_tabJ (off := 50) 1 65 dX11_awake_15 hs15 (by decide) (by decide) (by decide) ?_
        refine p_aload_n 66 dX11_awake_65 rfl rfl (by decide) ?_
        refine p_aload_n 67 dX11_awake_66 rfl rfl (by decide) ?_
        refine p_getR 0 70 dX11_awake_67 fX11_16 rfl hco ?_
        refine p_getR 25 73 dX11_awake_70 fX11_151 rfl (hW (25, 4, 31) (by decide)) ?_
        refine p_getR 31 76 dX11_awake_73 fX11_158 rfl (hW (31, 3, 34) (by decide)) ?_
        refine p_iload_n 77 dX11_awake_76 rfl rfl ?_
        refine p_iald 34 78 dX11_awake_77 rfl (by omega) (by omega) ?_
        try simp only [Int.toNat_natCast, Int.reduceToNat]
        refine p_callV1i 0 81 dX11_awake_78 s_grant lk_X11_108 mX11_grant rfl rfl (by decide) (Nat.le_of_ble_eq_true rfl) ?_
        rintro _ _ ⟨rfl, rfl⟩
        refine p_iret dX11_awake_81 rfl ?_
        exact ⟨_, rfl, CQ.of hI hF (fun k _ => rfl) (by unfold pa_awake; (repeat' split) <;> first | rfl | (exfalso; omega) | exact g1 | exact g2 | exact g3) (by unfold pa_awake; (repeat' split) <;> first | rfl | (exfalso; omega)) (by decide)⟩
      · refine p_tabJ (off := 67) 2 82 dX11_awake_15 hs15 (by decide) (by decide) (by decide) ?_
        refine p_aload_n 83 dX11_awake_82 rfl rfl (by decide) ?_
        refine p_aload_n 84 dX11_awake_83 rfl rfl (by decide) ?_
        refine p_getR 0 87 dX11_awake_84 fX11_16 rfl hco ?_
        refine p_getR 25 90 dX11_awake_87 fX11_151 rfl (hW (25, 4, 31) (by decide)) ?_
        refine p_getR 31 93 dX11_awake_90 fX11_161 rfl (hW (31, 4, 35) (by decide)) ?_
        refine p_iload_n 94 dX11_awake_93 rfl rfl ?_
        refine p_iald 35 95 dX11_awake_94 rfl (by omega) (by omega) ?_
        try simp only [Int.toNat_natCast, Int.reduceToNat]
        refine p_callV1i 0 98 dX11_awake_95 s_grant lk_X11_108 mX11_grant rfl rfl (by decide) (Nat.le_of_ble_eq_true rfl) ?_
        rintro _ _ ⟨rfl, rfl⟩
        refine p_iret dX11_awake_98 rfl ?_
        exact ⟨_, rfl, CQ.of hI hF (fun k _ => rfl) (by unfold pa_awake; (repeat' split) <;> first | rfl | (exfalso; omega) | exact g1 | exact g2 | exact g3) (by unfold pa_awake; (repeat' split) <;> first | rfl | (exfalso; omega)) (by decide)⟩
      · refine p_tabJ (off := 84) 3 99 dX11_awake_15 hs15 (by decide) (by decide) (by decide) ?_
        refine p_aload_n 100 dX11_awake_99 rfl rfl (by decide) ?_
        refine p_aload_n 101 dX11_awake_100 rfl rfl (by decide) ?_
        refine p_getR 0 104 dX11_awake_101 fX11_33 rfl (hW (0, 8, 49) (by decide)) ?_
        refine p_iload_n 105 dX11_awake_104 rfl rfl ?_
        refine p_callV1i 49 108 dX11_awake_105 (s_tendedByOne hW hN1 hT hR (a := n) (by omega)) lk_X11_164 mX3_tendedByOne rfl rfl (by decide) (Nat.le_of_ble_eq_true rfl) ?_
        rintro _ _ ⟨rfl, e9⟩
        have e9 := e9.symm
        subst e9
        rw [q_by7 hR hT]
        refine p_callV1i 0 111 dX11_awake_108 s_grant lk_X11_108 mX11_grant rfl rfl (by decide) (Nat.le_of_ble_eq_true rfl) ?_
        rintro _ _ ⟨rfl, rfl⟩
        refine p_iret dX11_awake_111 rfl ?_
        exact ⟨_, rfl, CQ.of hI hF (fun k _ => rfl) (by unfold pa_awake; (repeat' split) <;> first | rfl | (exfalso; omega) | exact g1 | exact g2 | exact g3) (by unfold pa_awake; (repeat' split) <;> first | rfl | (exfalso; omega)) (by decide)⟩
      · refine p_tabJ (off := 97) 4 112 dX11_awake_15 hs15 (by decide) (by decide) (by decide) ?_
        refine p_aload_n 113 dX11_awake_112 rfl rfl (by decide) ?_
        refine p_aload_n 114 dX11_awake_113 rfl rfl (by decide) ?_
        refine p_iload_n 115 dX11_awake_114 rfl rfl ?_
        refine p_callV1i 0 118 dX11_awake_115 (s_freeHands_25 hW hC hR hco hN1 hT (a := n) (by omega)) lk_X11_167 mX11_freeHands rfl rfl (by decide) (Nat.le_of_ble_eq_true rfl) ?_
        rintro _ _ ⟨rfl, e9⟩
        have e9 := e9.symm
        subst e9
        refine p_callV1i 0 121 dX11_awake_118 s_grant lk_X11_108 mX11_grant rfl rfl (by decide) (Nat.le_of_ble_eq_true rfl) ?_
        rintro _ _ ⟨rfl, rfl⟩
        refine p_iret dX11_awake_121 rfl ?_
        exact ⟨_, rfl, CQ.of hI hF (fun k _ => rfl) (by unfold pa_awake; (repeat' split) <;> first | rfl | (exfalso; omega) | exact g1 | exact g2 | exact g3) (by unfold pa_awake; (repeat' split) <;> first | rfl | (exfalso; omega)) (by decide)⟩
      · refine p_tabD 122 dX11_awake_15 (by omega) (by omega) hs15 ?_
        refine p_aload_n 123 dX11_awake_122 rfl rfl (by decide) ?_
        refine p_iconst 124 dX11_awake_123 ?_
        refine p_callV1i 0 127 dX11_awake_124 s_refuse lk_X11_73 mX11_refuse rfl rfl (by decide) (Nat.le_of_ble_eq_true rfl) ?_
        rintro _ _ ⟨rfl, rfl⟩
        refine p_iret dX11_awake_127 rfl ?_
        exact ⟨_, rfl, CQ.of hI hF (fun k _ => rfl) (by unfold pa_awake; (repeat' split) <;> first | rfl | (exfalso; omega) | exact g1 | exact g2 | exact g3) (by unfold pa_awake; (repeat' split) <;> first | rfl | (exfalso; omega)) (by decide)⟩
    · refine p_aload_n 9 dX11_awake_8 rfl rfl (by decide) ?_
      refine p_iconst 10 dX11_awake_9 ?_
      refine p_callV1i 0 13 dX11_awake_10 s_refuse lk_X11_73 mX11_refuse rfl rfl (by decide) (Nat.le_of_ble_eq_true rfl) ?_
      rintro _ _ ⟨rfl, rfl⟩
      refine p_iret dX11_awake_13 rfl ?_
      have h5 := if_nne0 h5
      exact ⟨_, rfl, CQ.of hI hF (fun k _ => rfl) (by unfold pa_awake; (repeat' split) <;> first | rfl | (exfalso; omega)) (by unfold pa_awake; (repeat' split) <;> first | rfl | (exfalso; omega)) (by decide)⟩
theorem m_awake {l : Launch} {X : ZX} {M : ZM} (hW : zWm M) (hF : WF M) {s w : Int} (hs1 : -2147483648 ≤ s) (hs2 : s < 2147483648) (hw1 : -2147483648 ≤ w) (hw2 : w < 2147483648) : zCi l X 2 yX12_awake tX12_awake [zr 124, zi s, zi w] M (MQq M (pa_awake (M 124 14) (M 127) (M 129) s w)) := by
  have hWg : zWm (zset (zset M 124 0 0) 124 11 0) := (hW.set (by decide +kernel)).set (by decide +kernel)
  have hR := hF.r
  have hT := hF.t
  have hh := hF.h
  have e0 : M 127 0 = (q_n (M 127) 0 : Int) := hR.n (by decide)
  have e2 : M 127 2 = (q_n (M 127) 2 : Int) := hR.n (by decide)
  have e3 : M 127 3 = (q_n (M 127) 3 : Int) := hR.n (by decide)
  have e4 : M 127 4 = (q_n (M 127) 4 : Int) := hR.n (by decide)
  have bR := hR.2.1
  have h20 : M 124 14 = 0 → M 127 2 = 0 := fun h => hF.r0 h 2 (by decide)
  have h30 : M 124 14 = 0 → M 127 3 = 0 := fun h => hF.r0 h 3 (by decide)
  have h40 : M 124 14 = 0 → M 127 4 = 0 := fun h => hF.r0 h 4 (by decide)
  refine zC.of [some (zr 124), some (zi s), some (zi w)] (by decide +kernel) rfl rfl (Nat.le_of_ble_eq_true rfl) rfl ?_
  refine p_aload_n 1 dX12_awake_0 rfl rfl (by decide) ?_
  refine p_callV0v 124 4 dX12_awake_1 s_good lk_X12_165 mX12_good rfl rfl (by decide) (Nat.le_of_ble_eq_true rfl) ?_
  rintro _ rfl
  refine p_aload_n 5 dX12_awake_4 rfl rfl (by decide) ?_
  refine p_iload_n 6 dX12_awake_5 rfl rfl ?_
  refine p_callV1i 124 9 dX12_awake_6 (s_isAwake (ρ := M 127) hWg (fun _ _ => rfl) hR (by exact hh) (by omega) (by omega)) lk_X12_281 mX12_isAwake rfl rfl (by decide) (Nat.le_of_ble_eq_true rfl) ?_
  rintro _ _ ⟨rfl, e9⟩
  have e9 := e9.symm
  subst e9
  refine p_if_eq 21 12 dX12_awake_9 (by split <;> omega) (by split <;> omega) (fun h9 => ?_) (fun h9 => ?_)
  · have h9 := if_eq0 h9
    have h9 : ¬ (M 124 14 = 1 ∧ 0 ≤ s ∧ s < M 127 3) := h9
    refine p_aload_n 22 dX12_awake_21 rfl rfl (by decide) ?_
    refine p_iconst 23 dX12_awake_22 ?_
    refine p_callV1i 124 26 dX12_awake_23 s_no lk_X12_168 mX12_no rfl rfl (by decide) (Nat.le_of_ble_eq_true rfl) ?_
    rintro _ _ ⟨rfl, rfl⟩
    refine p_iret dX12_awake_26 rfl ?_
    exact ⟨_, rfl, MQq.of hid_no hW (by unfold pa_awake; (repeat' split) <;> first | rfl | (exfalso; omega)) (by unfold pa_awake; (repeat' split) <;> first | rfl | (exfalso; omega))⟩
  · have h9 := if_neq0 h9
    have h9 : M 124 14 = 1 ∧ 0 ≤ s ∧ s < M 127 3 := h9
    refine p_iload_n 13 dX12_awake_12 rfl rfl ?_
    refine p_iconst 14 dX12_awake_13 ?_
    refine p_iconst 15 dX12_awake_14 ?_
    refine p_callS3i 18 dX12_awake_15 (s_in (by omega) (by omega) (by omega) (by omega) (by omega) (by omega)) lk_X12_146 mX12_in (by decide) (Nat.le_of_ble_eq_true rfl) ?_
    rintro _ _ ⟨rfl, e9⟩
    have e9 := e9.symm
    subst e9
    refine p_if_ne 27 21 dX12_awake_18 (by split <;> omega) (by split <;> omega) (fun h18 => ?_) (fun h18 => ?_)
    · have h18 := if_ne0 h18
      obtain ⟨n, rfl⟩ : ∃ k : Nat, s = (k : Int) := ⟨s.toNat, by omega⟩
      obtain ⟨k, rfl⟩ : ∃ k : Nat, w = (k : Int) := ⟨w.toNat, by omega⟩
      refine p_iload_n 28 dX12_awake_27 rfl rfl ?_
      refine p_iconst 29 dX12_awake_28 ?_
      refine p_icmp_ge 48 32 dX12_awake_29 (by omega) (by omega) (by omega) (by omega) (fun h29 => ?_) (fun h29 => ?_)
      · refine p_iload_n 49 dX12_awake_48 rfl rfl ?_
        refine p_iconst 50 dX12_awake_49 ?_
        refine p_icmp_ne 61 53 dX12_awake_50 (by omega) (by omega) (by omega) (by omega) (fun h50 => ?_) (fun h50 => ?_)
        · refine p_aload_n 62 dX12_awake_61 rfl rfl (by decide) ?_
          refine p_getR 124 65 dX12_awake_62 fX12_20 rfl (hWg (124, 15, 127) (by decide)) ?_
          refine p_bipush 67 dX12_awake_65 rfl ?_
          refine p_iconst 68 dX12_awake_67 ?_
          refine p_iload_n 69 dX12_awake_68 rfl rfl ?_
          refine p_imul 70 dX12_awake_69 ?_
          refine p_iadd 71 dX12_awake_70 ?_
          refine p_iconst 72 dX12_awake_71 ?_
          refine p_iadd 73 dX12_awake_72 ?_
          refine p_ialdn 127 74 (29 + 3 * n + 1) dX12_awake_73 rfl (by omega) (by omega) ?_
          refine p_aload_n 75 dX12_awake_74 rfl rfl (by decide) ?_
          refine p_iload_n 76 dX12_awake_75 rfl rfl ?_
          refine p_callV1i 124 79 dX12_awake_76 (s_tendedOf hWg (fun _ _ => rfl) hR (τ := M 129) (fun _ _ => rfl) hT (a := n) (by omega)) lk_X12_284 mX12_tendedOf rfl rfl (by decide) (Nat.le_of_ble_eq_true rfl) ?_
          rintro _ _ ⟨rfl, e9⟩
          have e9 := e9.symm
          subst e9
          refine p_callS1i 82 dX12_awake_79 (s_ones (S := q_by (M 127) (M 129) n) (by have := q_by_lt (τ := M 129) hR n; omega)) lk_X12_287 mX12_ones (by decide) (Nat.le_of_ble_eq_true rfl) ?_
          rintro _ _ ⟨rfl, e9⟩
          have e9 := e9.symm
          subst e9
          refine p_isub 83 dX12_awake_82 ?_
          refine p_iret dX12_awake_83 rfl ?_
          by_cases hk3 : k < 3
          · have hk : k = 0 ∨ k = 1 ∨ k = 2 := by omega
            rcases hk with rfl | rfl | rfl
            · exact ⟨_, rfl, MQq.of hid_good hW (by unfold pa_awake; (repeat' split) <;> first | rfl | (exfalso; omega)) (by unfold pa_awake; (repeat' split) <;> first | rfl | (exfalso; omega))⟩
            · exact ⟨_, rfl, MQq.of hid_good hW (by unfold pa_awake; (repeat' split) <;> first | rfl | (exfalso; omega)) (by unfold pa_awake; (repeat' split) <;> first | rfl | (exfalso; omega))⟩
            · exact ⟨_, rfl, MQq.of hid_good hW (by unfold pa_awake; (repeat' split) <;> first | rfl | (exfalso; omega)) (by unfold pa_awake; (repeat' split) <;> first | rfl | (exfalso; omega))⟩
          · exact ⟨_, rfl, MQq.of hid_good hW (by unfold pa_awake; (repeat' split) <;> first | rfl | (exfalso; omega)) (by unfold pa_awake; (repeat' split) <;> first | rfl | (exfalso; omega))⟩
        · refine p_aload_n 54 dX12_awake_53 rfl rfl (by decide) ?_
          refine p_iload_n 55 dX12_awake_54 rfl rfl ?_
          refine p_callV1i 124 58 dX12_awake_55 (s_tendedOf hWg (fun _ _ => rfl) hR (τ := M 129) (fun _ _ => rfl) hT (a := n) (by omega)) lk_X12_284 mX12_tendedOf rfl rfl (by decide) (Nat.le_of_ble_eq_true rfl) ?_
          rintro _ _ ⟨rfl, e9⟩
          have e9 := e9.symm
          subst e9
          refine p_goto 83 dX12_awake_58 ?_
          refine p_iret dX12_awake_83 rfl ?_
          by_cases hk3 : k < 3
          · have hk : k = 0 ∨ k = 1 ∨ k = 2 := by omega
            rcases hk with rfl | rfl | rfl
            · exact ⟨_, rfl, MQq.of hid_good hW (by unfold pa_awake; (repeat' split) <;> first | rfl | (exfalso; omega)) (by unfold pa_awake; (repeat' split) <;> first | rfl | (exfalso; omega))⟩
            · exact ⟨_, rfl, MQq.of hid_good hW (by unfold pa_awake; (repeat' split) <;> first | rfl | (exfalso; omega)) (by unfold pa_awake; (repeat' split) <;> first | rfl | (exfalso; omega))⟩
            · exact ⟨_, rfl, MQq.of hid_good hW (by unfold pa_awake; (repeat' split) <;> first | rfl | (exfalso; omega)) (by unfold pa_awake; (repeat' split) <;> first | rfl | (exfalso; omega))⟩
          · exact ⟨_, rfl, MQq.of hid_good hW (by unfold pa_awake; (repeat' split) <;> first | rfl | (exfalso; omega)) (by unfold pa_awake; (repeat' split) <;> first | rfl | (exfalso; omega))⟩
      · refine p_aload_n 33 dX12_awake_32 rfl rfl (by decide) ?_
        refine p_getR 124 36 dX12_awake_33 fX12_20 rfl (hWg (124, 15, 127) (by decide)) ?_
        refine p_bipush 38 dX12_awake_36 rfl ?_
        refine p_iconst 39 dX12_awake_38 ?_
        refine p_iload_n 40 dX12_awake_39 rfl rfl ?_
        refine p_imul 41 dX12_awake_40 ?_
        refine p_iadd 42 dX12_awake_41 ?_
        refine p_iload_n 43 dX12_awake_42 rfl rfl ?_
        refine p_iadd 44 dX12_awake_43 ?_
        refine p_ialdn 127 45 (29 + 3 * n + k) dX12_awake_44 rfl (by omega) (by omega) ?_
        refine p_goto 83 dX12_awake_45 ?_
        refine p_iret dX12_awake_83 rfl ?_
        by_cases hk3 : k < 3
        · have hk : k = 0 ∨ k = 1 ∨ k = 2 := by omega
          rcases hk with rfl | rfl | rfl
          · exact ⟨_, rfl, MQq.of hid_good hW (by unfold pa_awake; (repeat' split) <;> first | rfl | (exfalso; omega)) (by unfold pa_awake; (repeat' split) <;> first | rfl | (exfalso; omega))⟩
          · exact ⟨_, rfl, MQq.of hid_good hW (by unfold pa_awake; (repeat' split) <;> first | rfl | (exfalso; omega)) (by unfold pa_awake; (repeat' split) <;> first | rfl | (exfalso; omega))⟩
          · exact ⟨_, rfl, MQq.of hid_good hW (by unfold pa_awake; (repeat' split) <;> first | rfl | (exfalso; omega)) (by unfold pa_awake; (repeat' split) <;> first | rfl | (exfalso; omega))⟩
        · exact ⟨_, rfl, MQq.of hid_good hW (by unfold pa_awake; (repeat' split) <;> first | rfl | (exfalso; omega)) (by unfold pa_awake; (repeat' split) <;> first | rfl | (exfalso; omega))⟩
    · have h18 := if_nne0 h18
      refine p_aload_n 22 dX12_awake_21 rfl rfl (by decide) ?_
      refine p_iconst 23 dX12_awake_22 ?_
      refine p_callV1i 124 26 dX12_awake_23 s_no lk_X12_168 mX12_no rfl rfl (by decide) (Nat.le_of_ble_eq_true rfl) ?_
      rintro _ _ ⟨rfl, rfl⟩
      refine p_iret dX12_awake_26 rfl ?_
      exact ⟨_, rfl, MQq.of hid_no hW (by unfold pa_awake; (repeat' split) <;> first | rfl | (exfalso; omega)) (by unfold pa_awake; (repeat' split) <;> first | rfl | (exfalso; omega))⟩
theorem c_harmOf {l : Launch} {X : ZX} {M : ZM} (hI : IC M M) (hF : WF M) {s : Int} (hs1 : -2147483648 ≤ s) (hs2 : s < 2147483648) : zCi l X 3 yX11_harmOf tX11_harmOf [zr 0, zi s] M (CQ M (pa_harmOf (M 124 14) (M 127) (M 129) s)) := by
  obtain ⟨hW, ⟨c, c', hcc, hco, hsp, hC⟩, ⟨j1, j2, j3, j4, j5⟩, hN, hpast, hten, ⟨hz0, hsea⟩, hfit⟩ := id hI
  have hR := hF.r
  have hT := hF.t
  have hh := hF.h
  have e0 : M 127 0 = (q_n (M 127) 0 : Int) := hR.n (by decide)
  have e2 : M 127 2 = (q_n (M 127) 2 : Int) := hR.n (by decide)
  have e3 : M 127 3 = (q_n (M 127) 3 : Int) := hR.n (by decide)
  have e4 : M 127 4 = (q_n (M 127) 4 : Int) := hR.n (by decide)
  have bR := hR.2.1
  have h20 : M 124 14 = 0 → M 127 2 = 0 := fun h => hF.r0 h 2 (by decide)
  have h30 : M 124 14 = 0 → M 127 3 = 0 := fun h => hF.r0 h 3 (by decide)
  have h40 : M 124 14 = 0 → M 127 4 = 0 := fun h => hF.r0 h 4 (by decide)
  have hwo : M 49 3 = M 129 16 := hN.2.2.2.1
  have t160 := hT.1 16 (by decide)
  have t161 := hT.2.2.2.2.1
  refine zC.of [some (zr 0), some (zi s)] (by decide +kernel) rfl rfl (Nat.le_of_ble_eq_true rfl) rfl ?_
  rcases hcc with ⟨rfl, rfl⟩ | ⟨rfl, rfl⟩
  · have hto : M 2 0 = M 124 14 := hC.1.1
    have hla : M 2 1 = M 127 0 := hC.1.2.1
    have hsn : M 2 2 = M 127 1 := hC.1.2.2.1
    have hcs : M 3 0 = M 127 2 := hC.1.2.2.2.1
    have hca : M 8 0 = M 127 3 := hC.1.2.2.2.2.1
    have hcw : M 13 0 = M 127 4 := hC.1.2.2.2.2.2.1
    have hcb : M 13 1 = M 127 5 := hC.1.2.2.2.2.2.2.1
    have hcor : M 19 0 = M 127 6 := hC.1.2.2.2.2.2.2.2.1
    have hcn : M 19 4 = M 127 7 := hC.1.2.2.2.2.2.2.2.2
    refine p_aload_n 1 dX11_harmOf_0 rfl rfl (by decide) ?_
    refine p_iload_n 2 dX11_harmOf_1 rfl rfl ?_
    refine p_callV1i 0 5 dX11_harmOf_2 (s_isSleeper_2 hW hC hR hco (by omega) (by omega)) lk_X11_125 mX11_isSleeper rfl rfl (by decide) (Nat.le_of_ble_eq_true rfl) ?_
    rintro _ _ ⟨rfl, e9⟩
    have e9 := e9.symm
    subst e9
    refine p_if_ne 14 8 dX11_harmOf_5 (by split <;> omega) (by split <;> omega) (fun h5 => ?_) (fun h5 => ?_)
    · have h5 := if_ne0 h5
      obtain ⟨n, rfl⟩ : ∃ k : Nat, s = (k : Int) := ⟨s.toNat, by omega⟩
      have h1 : M 124 14 = 1 := by omega
      have hN1 : ICn (M 129) 1 49 M := by rw [← h1]; exact hN
      refine p_aload_n 15 dX11_harmOf_14 rfl rfl (by decide) ?_
      refine p_aload_n 16 dX11_harmOf_15 rfl rfl (by decide) ?_
      refine p_getR 0 19 dX11_harmOf_16 fX11_33 rfl (hW (0, 8, 49) (by decide)) ?_
      refine p_getI 49 22 dX11_harmOf_19 fX11_170 rfl ?_
      rw [hwo]
      refine p_if_eq 29 25 dX11_harmOf_22 (by omega) (by omega) (fun h22 => ?_) (fun h22 => ?_)
      · refine p_aload_n 30 dX11_harmOf_29 rfl rfl (by decide) ?_
        refine p_getR 0 33 dX11_harmOf_30 fX11_16 rfl hco ?_
        refine p_iload_n 34 dX11_harmOf_33 rfl rfl ?_
        refine p_aload_n 35 dX11_harmOf_34 rfl rfl (by decide) ?_
        refine p_getR 0 38 dX11_harmOf_35 fX11_33 rfl (hW (0, 8, 49) (by decide)) ?_
        refine p_callV0i 49 41 dX11_harmOf_38 (s_tendedBits hW hN1 hT hR) lk_X11_173 mX3_tendedBits rfl rfl (by decide) (Nat.le_of_ble_eq_true rfl) ?_
        rintro _ _ ⟨rfl, e9⟩
        have e9 := e9.symm
        subst e9
        refine p_callV2i 2 44 dX11_harmOf_41 (s_dayHarm_2 hW hC hR (s := n) (S := q_tset (M 129)) (by omega) (q_tset_lt _)) lk_X11_177 mX0_dayHarm rfl rfl (by decide) (Nat.le_of_ble_eq_true rfl) ?_
        rintro _ _ ⟨rfl, e9⟩
        have e9 := e9.symm
        subst e9
        refine p_callV1i 0 47 dX11_harmOf_44 s_grant lk_X11_108 mX11_grant rfl rfl (by decide) (Nat.le_of_ble_eq_true rfl) ?_
        rintro _ _ ⟨rfl, rfl⟩
        refine p_iret dX11_harmOf_47 rfl ?_
        exact ⟨_, rfl, CQ.of hI hF (fun k _ => rfl) (by unfold pa_harmOf; (repeat' split) <;> first | rfl | (exfalso; omega) | (show _ = ((q_harmN (q_n (M 127)) (M 129) n : Nat) : Int); unfold q_harmN; split <;> first | rfl | (exfalso; omega))) (by unfold pa_harmOf; (repeat' split) <;> first | rfl | (exfalso; omega)) (by decide)⟩
      · refine p_iconst 26 dX11_harmOf_25 ?_
        refine p_goto 44 dX11_harmOf_26 ?_
        refine p_callV1i 0 47 dX11_harmOf_44 s_grant lk_X11_108 mX11_grant rfl rfl (by decide) (Nat.le_of_ble_eq_true rfl) ?_
        rintro _ _ ⟨rfl, rfl⟩
        refine p_iret dX11_harmOf_47 rfl ?_
        exact ⟨_, rfl, CQ.of hI hF (fun k _ => rfl) (by unfold pa_harmOf; (repeat' split) <;> first | rfl | (exfalso; omega) | (show _ = ((q_harmN (q_n (M 127)) (M 129) n : Nat) : Int); unfold q_harmN; split <;> first | rfl | (exfalso; omega))) (by unfold pa_harmOf; (repeat' split) <;> first | rfl | (exfalso; omega)) (by decide)⟩
    · refine p_aload_n 9 dX11_harmOf_8 rfl rfl (by decide) ?_
      refine p_iconst 10 dX11_harmOf_9 ?_
      refine p_callV1i 0 13 dX11_harmOf_10 s_refuse lk_X11_73 mX11_refuse rfl rfl (by decide) (Nat.le_of_ble_eq_true rfl) ?_
      rintro _ _ ⟨rfl, rfl⟩
      refine p_iret dX11_harmOf_13 rfl ?_
      have h5 := if_nne0 h5
      exact ⟨_, rfl, CQ.of hI hF (fun k _ => rfl) (by unfold pa_harmOf; (repeat' split) <;> first | rfl | (exfalso; omega)) (by unfold pa_harmOf; (repeat' split) <;> first | rfl | (exfalso; omega)) (by decide)⟩
  · have hto : M 25 0 = M 124 14 := hC.1.1
    have hla : M 25 1 = M 127 0 := hC.1.2.1
    have hsn : M 25 2 = M 127 1 := hC.1.2.2.1
    have hcs : M 26 0 = M 127 2 := hC.1.2.2.2.1
    have hca : M 31 0 = M 127 3 := hC.1.2.2.2.2.1
    have hcw : M 36 0 = M 127 4 := hC.1.2.2.2.2.2.1
    have hcb : M 36 1 = M 127 5 := hC.1.2.2.2.2.2.2.1
    have hcor : M 42 0 = M 127 6 := hC.1.2.2.2.2.2.2.2.1
    have hcn : M 42 4 = M 127 7 := hC.1.2.2.2.2.2.2.2.2
    refine p_aload_n 1 dX11_harmOf_0 rfl rfl (by decide) ?_
    refine p_iload_n 2 dX11_harmOf_1 rfl rfl ?_
    refine p_callV1i 0 5 dX11_harmOf_2 (s_isSleeper_25 hW hC hR hco (by omega) (by omega)) lk_X11_125 mX11_isSleeper rfl rfl (by decide) (Nat.le_of_ble_eq_true rfl) ?_
    rintro _ _ ⟨rfl, e9⟩
    have e9 := e9.symm
    subst e9
    refine p_if_ne 14 8 dX11_harmOf_5 (by split <;> omega) (by split <;> omega) (fun h5 => ?_) (fun h5 => ?_)
    · have h5 := if_ne0 h5
      obtain ⟨n, rfl⟩ : ∃ k : Nat, s = (k : Int) := ⟨s.toNat, by omega⟩
      have h1 : M 124 14 = 1 := by omega
      have hN1 : ICn (M 129) 1 49 M := by rw [← h1]; exact hN
      refine p_aload_n 15 dX11_harmOf_14 rfl rfl (by decide) ?_
      refine p_aload_n 16 dX11_harmOf_15 rfl rfl (by decide) ?_
      refine p_getR 0 19 dX11_harmOf_16 fX11_33 rfl (hW (0, 8, 49) (by decide)) ?_
      refine p_getI 49 22 dX11_harmOf_19 fX11_170 rfl ?_
      rw [hwo]
      refine p_if_eq 29 25 dX11_harmOf_22 (by omega) (by omega) (fun h22 => ?_) (fun h22 => ?_)
      · refine p_aload_n 30 dX11_harmOf_29 rfl rfl (by decide) ?_
        refine p_getR 0 33 dX11_harmOf_30 fX11_16 rfl hco ?_
        refine p_iload_n 34 dX11_harmOf_33 rfl rfl ?_
        refine p_aload_n 35 dX11_harmOf_34 rfl rfl (by decide) ?_
        refine p_getR 0 38 dX11_harmOf_35 fX11_33 rfl (hW (0, 8, 49) (by decide)) ?_
        refine p_callV0i 49 41 dX11_harmOf_38 (s_tendedBits hW hN1 hT hR) lk_X11_173 mX3_tendedBits rfl rfl (by decide) (Nat.le_of_ble_eq_true rfl) ?_
        rintro _ _ ⟨rfl, e9⟩
        have e9 := e9.symm
        subst e9
        refine p_callV2i 25 44 dX11_harmOf_41 (s_dayHarm_25 hW hC hR (s := n) (S := q_tset (M 129)) (by omega) (q_tset_lt _)) lk_X11_177 mX0_dayHarm rfl rfl (by decide) (Nat.le_of_ble_eq_true rfl) ?_
        rintro _ _ ⟨rfl, e9⟩
        have e9 := e9.symm
        subst e9
        refine p_callV1i 0 47 dX11_harmOf_44 s_grant lk_X11_108 mX11_grant rfl rfl (by decide) (Nat.le_of_ble_eq_true rfl) ?_
        rintro _ _ ⟨rfl, rfl⟩
        refine p_iret dX11_harmOf_47 rfl ?_
        exact ⟨_, rfl, CQ.of hI hF (fun k _ => rfl) (by unfold pa_harmOf; (repeat' split) <;> first | rfl | (exfalso; omega) | (show _ = ((q_harmN (q_n (M 127)) (M 129) n : Nat) : Int); unfold q_harmN; split <;> first | rfl | (exfalso; omega))) (by unfold pa_harmOf; (repeat' split) <;> first | rfl | (exfalso; omega)) (by decide)⟩
      · refine p_iconst 26 dX11_harmOf_25 ?_
        refine p_goto 44 dX11_harmOf_26 ?_
        refine p_callV1i 0 47 dX11_harmOf_44 s_grant lk_X11_108 mX11_grant rfl rfl (by decide) (Nat.le_of_ble_eq_true rfl) ?_
        rintro _ _ ⟨rfl, rfl⟩
        refine p_iret dX11_harmOf_47 rfl ?_
        exact ⟨_, rfl, CQ.of hI hF (fun k _ => rfl) (by unfold pa_harmOf; (repeat' split) <;> first | rfl | (exfalso; omega) | (show _ = ((q_harmN (q_n (M 127)) (M 129) n : Nat) : Int); unfold q_harmN; split <;> first | rfl | (exfalso; omega))) (by unfold pa_harmOf; (repeat' split) <;> first | rfl | (exfalso; omega)) (by decide)⟩
    · refine p_aload_n 9 dX11_harmOf_8 rfl rfl (by decide) ?_
      refine p_iconst 10 dX11_harmOf_9 ?_
      refine p_callV1i 0 13 dX11_harmOf_10 s_refuse lk_X11_73 mX11_refuse rfl rfl (by decide) (Nat.le_of_ble_eq_true rfl) ?_
      rintro _ _ ⟨rfl, rfl⟩
      refine p_iret dX11_harmOf_13 rfl ?_
      have h5 := if_nne0 h5
      exact ⟨_, rfl, CQ.of hI hF (fun k _ => rfl) (by unfold pa_harmOf; (repeat' split) <;> first | rfl | (exfalso; omega)) (by unfold pa_harmOf; (repeat' split) <;> first | rfl | (exfalso; omega)) (by decide)⟩
theorem m_harmOf {l : Launch} {X : ZX} {M : ZM} (hW : zWm M) (hF : WF M) {s : Int} (hs1 : -2147483648 ≤ s) (hs2 : s < 2147483648) : zCi l X 4 yX12_harmOf tX12_harmOf [zr 124, zi s] M (MQq M (pa_harmOf (M 124 14) (M 127) (M 129) s)) := by
  have hWg : zWm (zset (zset M 124 0 0) 124 11 0) := (hW.set (by decide +kernel)).set (by decide +kernel)
  have hR := hF.r
  have hT := hF.t
  have hh := hF.h
  have e0 : M 127 0 = (q_n (M 127) 0 : Int) := hR.n (by decide)
  have e2 : M 127 2 = (q_n (M 127) 2 : Int) := hR.n (by decide)
  have e3 : M 127 3 = (q_n (M 127) 3 : Int) := hR.n (by decide)
  have e4 : M 127 4 = (q_n (M 127) 4 : Int) := hR.n (by decide)
  have bR := hR.2.1
  have h20 : M 124 14 = 0 → M 127 2 = 0 := fun h => hF.r0 h 2 (by decide)
  have h30 : M 124 14 = 0 → M 127 3 = 0 := fun h => hF.r0 h 3 (by decide)
  have h40 : M 124 14 = 0 → M 127 4 = 0 := fun h => hF.r0 h 4 (by decide)
  refine zC.of [some (zr 124), some (zi s)] (by decide +kernel) rfl rfl (Nat.le_of_ble_eq_true rfl) rfl ?_
  refine p_aload_n 1 dX12_harmOf_0 rfl rfl (by decide) ?_
  refine p_callV0v 124 4 dX12_harmOf_1 s_good lk_X12_165 mX12_good rfl rfl (by decide) (Nat.le_of_ble_eq_true rfl) ?_
  rintro _ rfl
  refine p_aload_n 5 dX12_harmOf_4 rfl rfl (by decide) ?_
  refine p_iload_n 6 dX12_harmOf_5 rfl rfl ?_
  refine p_callV1i 124 9 dX12_harmOf_6 (s_isSleeper (ρ := M 127) hWg (fun _ _ => rfl) hR (by exact hh) (by omega) (by omega)) lk_X12_275 mX12_isSleeper rfl rfl (by decide) (Nat.le_of_ble_eq_true rfl) ?_
  rintro _ _ ⟨rfl, e9⟩
  have e9 := e9.symm
  subst e9
  refine p_if_eq 20 12 dX12_harmOf_9 (by split <;> omega) (by split <;> omega) (fun h9 => ?_) (fun h9 => ?_)
  · have h9 := if_eq0 h9
    have h9 : ¬ (M 124 14 = 1 ∧ 0 ≤ s ∧ s < M 127 2) := h9
    refine p_aload_n 21 dX12_harmOf_20 rfl rfl (by decide) ?_
    refine p_iconst 22 dX12_harmOf_21 ?_
    refine p_callV1i 124 25 dX12_harmOf_22 s_no lk_X12_168 mX12_no rfl rfl (by decide) (Nat.le_of_ble_eq_true rfl) ?_
    rintro _ _ ⟨rfl, rfl⟩
    refine p_iret dX12_harmOf_25 rfl ?_
    first | exact ⟨_, rfl, MQq.of hid_no hW (by unfold pa_harmOf; (repeat' split) <;> first | rfl | (exfalso; omega)) (by unfold pa_harmOf; (repeat' split) <;> first | rfl | (exfalso; omega))⟩ | exact ⟨_, rfl, MQq.of hid_good hW (by unfold pa_harmOf; (repeat' split) <;> first | rfl | (exfalso; omega)) (by unfold pa_harmOf; (repeat' split) <;> first | rfl | (exfalso; omega))⟩
  · have h9 := if_neq0 h9
    have h9 : M 124 14 = 1 ∧ 0 ≤ s ∧ s < M 127 2 := h9
    obtain ⟨n, rfl⟩ : ∃ k : Nat, s = (k : Int) := ⟨s.toNat, by omega⟩
    refine p_aload_n 13 dX12_harmOf_12 rfl rfl (by decide) ?_
    refine p_iload_n 14 dX12_harmOf_13 rfl rfl ?_
    refine p_callV1i 124 17 dX12_harmOf_14 (s_harmNow hWg (fun _ _ => rfl) hR (τ := M 129) (fun _ _ => rfl) hT (s := n) (by omega)) lk_X12_294 mX12_harmNow rfl rfl (by decide) (Nat.le_of_ble_eq_true rfl) ?_
    rintro _ _ ⟨rfl, e9⟩
    have e9 := e9.symm
    subst e9
    refine p_goto 25 dX12_harmOf_17 ?_
    refine p_iret dX12_harmOf_25 rfl ?_
    first | exact ⟨_, rfl, MQq.of hid_no hW (by unfold pa_harmOf; (repeat' split) <;> first | rfl | (exfalso; omega)) (by unfold pa_harmOf; (repeat' split) <;> first | rfl | (exfalso; omega))⟩ | exact ⟨_, rfl, MQq.of hid_good hW (by unfold pa_harmOf; (repeat' split) <;> first | rfl | (exfalso; omega)) (by unfold pa_harmOf; (repeat' split) <;> first | rfl | (exfalso; omega))⟩
theorem c_harm {l : Launch} {X : ZX} {M : ZM} (hI : IC M M) (hF : WF M)  : zCi l X 4 yX11_harm tX11_harm [zr 0] M (CQ M (pa_harm (M 124 14) (M 127) (M 129))) := by
  obtain ⟨hW, ⟨c, c', hcc, hco, hsp, hC⟩, ⟨j1, j2, j3, j4, j5⟩, hN, hpast, hten, ⟨hz0, hsea⟩, hfit⟩ := id hI
  have hR := hF.r
  have hT := hF.t
  have hh := hF.h
  have e0 : M 127 0 = (q_n (M 127) 0 : Int) := hR.n (by decide)
  have e2 : M 127 2 = (q_n (M 127) 2 : Int) := hR.n (by decide)
  have e3 : M 127 3 = (q_n (M 127) 3 : Int) := hR.n (by decide)
  have e4 : M 127 4 = (q_n (M 127) 4 : Int) := hR.n (by decide)
  have bR := hR.2.1
  have h20 : M 124 14 = 0 → M 127 2 = 0 := fun h => hF.r0 h 2 (by decide)
  have h30 : M 124 14 = 0 → M 127 3 = 0 := fun h => hF.r0 h 3 (by decide)
  have h40 : M 124 14 = 0 → M 127 4 = 0 := fun h => hF.r0 h 4 (by decide)
  have hwo : M 49 3 = M 129 16 := hN.2.2.2.1
  have t160 := hT.1 16 (by decide)
  have t161 := hT.2.2.2.2.1
  refine zC.of [some (zr 0)] (by decide +kernel) rfl rfl (Nat.le_of_ble_eq_true rfl) rfl ?_
  rcases hcc with ⟨rfl, rfl⟩ | ⟨rfl, rfl⟩
  · have hto : M 2 0 = M 124 14 := hC.1.1
    have hla : M 2 1 = M 127 0 := hC.1.2.1
    have hsn : M 2 2 = M 127 1 := hC.1.2.2.1
    have hcs : M 3 0 = M 127 2 := hC.1.2.2.2.1
    have hca : M 8 0 = M 127 3 := hC.1.2.2.2.2.1
    have hcw : M 13 0 = M 127 4 := hC.1.2.2.2.2.2.1
    have hcb : M 13 1 = M 127 5 := hC.1.2.2.2.2.2.2.1
    have hcor : M 19 0 = M 127 6 := hC.1.2.2.2.2.2.2.2.1
    have hcn : M 19 4 = M 127 7 := hC.1.2.2.2.2.2.2.2.2
    refine p_aload_n 1 dX11_harm_0 rfl rfl (by decide) ?_
    refine p_getR 0 4 dX11_harm_1 fX11_16 rfl hco ?_
    refine p_getI 2 7 dX11_harm_4 fX11_114 rfl ?_
    rw [hto]
    refine p_if_ne 16 10 dX11_harm_7 (by omega) (by omega) (fun h7 => ?_) (fun h7 => ?_)
    · have h1 : M 124 14 = 1 := by omega
      have hN1 : ICn (M 129) 1 49 M := by rw [← h1]; exact hN
      refine p_aload_n 17 dX11_harm_16 rfl rfl (by decide) ?_
      refine p_aload_n 18 dX11_harm_17 rfl rfl (by decide) ?_
      refine p_getR 0 21 dX11_harm_18 fX11_33 rfl (hW (0, 8, 49) (by decide)) ?_
      refine p_getI 49 24 dX11_harm_21 fX11_170 rfl ?_
      rw [hwo]
      refine p_if_eq 31 27 dX11_harm_24 (by omega) (by omega) (fun h24 => ?_) (fun h24 => ?_)
      · refine p_aload_n 32 dX11_harm_31 rfl rfl (by decide) ?_
        refine p_getR 0 35 dX11_harm_32 fX11_16 rfl hco ?_
        refine p_aload_n 36 dX11_harm_35 rfl rfl (by decide) ?_
        refine p_getR 0 39 dX11_harm_36 fX11_33 rfl (hW (0, 8, 49) (by decide)) ?_
        refine p_callV0i 49 42 dX11_harm_39 (s_tendedBits hW hN1 hT hR) lk_X11_173 mX3_tendedBits rfl rfl (by decide) (Nat.le_of_ble_eq_true rfl) ?_
        rintro _ _ ⟨rfl, e9⟩
        have e9 := e9.symm
        subst e9
        refine p_callV1i 2 45 dX11_harm_42 (s_dayHarmOfAll_2 hW hC hR (S := q_tset (M 129)) (q_tset_lt _)) lk_X11_181 mX0_dayHarmOfAll rfl rfl (by decide) (Nat.le_of_ble_eq_true rfl) ?_
        rintro _ _ ⟨rfl, e9⟩
        have e9 := e9.symm
        subst e9
        refine p_callV1i 0 48 dX11_harm_45 s_grant lk_X11_108 mX11_grant rfl rfl (by decide) (Nat.le_of_ble_eq_true rfl) ?_
        rintro _ _ ⟨rfl, rfl⟩
        refine p_iret dX11_harm_48 rfl ?_
        exact ⟨_, rfl, CQ.of hI hF (fun k _ => rfl) (by unfold pa_harm; (repeat' split) <;> first | rfl | (exfalso; omega) | (rw [q_sum_zero (fun i _ => by unfold q_harmN; rw [if_pos (by omega)])]; rfl) | (show ((q_harms (q_n (M 127)) (q_tset (M 129)) : Nat) : Int) = _; unfold q_harms; rw [q_sum_congr (fun i _ => show q_harm (q_n (M 127)) (q_tset (M 129)) i = q_harmN (q_n (M 127)) (M 129) i from by unfold q_harmN; rw [if_neg (by omega)])])) (by unfold pa_harm; (repeat' split) <;> first | rfl | (exfalso; omega)) (by decide)⟩
      · refine p_iconst 28 dX11_harm_27 ?_
        refine p_goto 45 dX11_harm_28 ?_
        refine p_callV1i 0 48 dX11_harm_45 s_grant lk_X11_108 mX11_grant rfl rfl (by decide) (Nat.le_of_ble_eq_true rfl) ?_
        rintro _ _ ⟨rfl, rfl⟩
        refine p_iret dX11_harm_48 rfl ?_
        exact ⟨_, rfl, CQ.of hI hF (fun k _ => rfl) (by unfold pa_harm; (repeat' split) <;> first | rfl | (exfalso; omega) | (rw [q_sum_zero (fun i _ => by unfold q_harmN; rw [if_pos (by omega)])]; rfl) | (show ((q_harms (q_n (M 127)) (q_tset (M 129)) : Nat) : Int) = _; unfold q_harms; rw [q_sum_congr (fun i _ => show q_harm (q_n (M 127)) (q_tset (M 129)) i = q_harmN (q_n (M 127)) (M 129) i from by unfold q_harmN; rw [if_neg (by omega)])])) (by unfold pa_harm; (repeat' split) <;> first | rfl | (exfalso; omega)) (by decide)⟩
    · refine p_aload_n 11 dX11_harm_10 rfl rfl (by decide) ?_
      refine p_iconst 12 dX11_harm_11 ?_
      refine p_callV1i 0 15 dX11_harm_12 s_refuse lk_X11_73 mX11_refuse rfl rfl (by decide) (Nat.le_of_ble_eq_true rfl) ?_
      rintro _ _ ⟨rfl, rfl⟩
      refine p_iret dX11_harm_15 rfl ?_
      exact ⟨_, rfl, CQ.of hI hF (fun k _ => rfl) (by unfold pa_harm; (repeat' split) <;> first | rfl | (exfalso; omega)) (by unfold pa_harm; (repeat' split) <;> first | rfl | (exfalso; omega)) (by decide)⟩
  · have hto : M 25 0 = M 124 14 := hC.1.1
    have hla : M 25 1 = M 127 0 := hC.1.2.1
    have hsn : M 25 2 = M 127 1 := hC.1.2.2.1
    have hcs : M 26 0 = M 127 2 := hC.1.2.2.2.1
    have hca : M 31 0 = M 127 3 := hC.1.2.2.2.2.1
    have hcw : M 36 0 = M 127 4 := hC.1.2.2.2.2.2.1
    have hcb : M 36 1 = M 127 5 := hC.1.2.2.2.2.2.2.1
    have hcor : M 42 0 = M 127 6 := hC.1.2.2.2.2.2.2.2.1
    have hcn : M 42 4 = M 127 7 := hC.1.2.2.2.2.2.2.2.2
    refine p_aload_n 1 dX11_harm_0 rfl rfl (by decide) ?_
    refine p_getR 0 4 dX11_harm_1 fX11_16 rfl hco ?_
    refine p_getI 25 7 dX11_harm_4 fX11_114 rfl ?_
    rw [hto]
    refine p_if_ne 16 10 dX11_harm_7 (by omega) (by omega) (fun h7 => ?_) (fun h7 => ?_)
    · have h1 : M 124 14 = 1 := by omega
      have hN1 : ICn (M 129) 1 49 M := by rw [← h1]; exact hN
      refine p_aload_n 17 dX11_harm_16 rfl rfl (by decide) ?_
      refine p_aload_n 18 dX11_harm_17 rfl rfl (by decide) ?_
      refine p_getR 0 21 dX11_harm_18 fX11_33 rfl (hW (0, 8, 49) (by decide)) ?_
      refine p_getI 49 24 dX11_harm_21 fX11_170 rfl ?_
      rw [hwo]
      refine p_if_eq 31 27 dX11_harm_24 (by omega) (by omega) (fun h24 => ?_) (fun h24 => ?_)
      · refine p_aload_n 32 dX11_harm_31 rfl rfl (by decide) ?_
        refine p_getR 0 35 dX11_harm_32 fX11_16 rfl hco ?_
        refine p_aload_n 36 dX11_harm_35 rfl rfl (by decide) ?_
        refine p_getR 0 39 dX11_harm_36 fX11_33 rfl (hW (0, 8, 49) (by decide)) ?_
        refine p_callV0i 49 42 dX11_harm_39 (s_tendedBits hW hN1 hT hR) lk_X11_173 mX3_tendedBits rfl rfl (by decide) (Nat.le_of_ble_eq_true rfl) ?_
        rintro _ _ ⟨rfl, e9⟩
        have e9 := e9.symm
        subst e9
        refine p_callV1i 25 45 dX11_harm_42 (s_dayHarmOfAll_25 hW hC hR (S := q_tset (M 129)) (q_tset_lt _)) lk_X11_181 mX0_dayHarmOfAll rfl rfl (by decide) (Nat.le_of_ble_eq_true rfl) ?_
        rintro _ _ ⟨rfl, e9⟩
        have e9 := e9.symm
        subst e9
        refine p_callV1i 0 48 dX11_harm_45 s_grant lk_X11_108 mX11_grant rfl rfl (by decide) (Nat.le_of_ble_eq_true rfl) ?_
        rintro _ _ ⟨rfl, rfl⟩
        refine p_iret dX11_harm_48 rfl ?_
        exact ⟨_, rfl, CQ.of hI hF (fun k _ => rfl) (by unfold pa_harm; (repeat' split) <;> first | rfl | (exfalso; omega) | (rw [q_sum_zero (fun i _ => by unfold q_harmN; rw [if_pos (by omega)])]; rfl) | (show ((q_harms (q_n (M 127)) (q_tset (M 129)) : Nat) : Int) = _; unfold q_harms; rw [q_sum_congr (fun i _ => show q_harm (q_n (M 127)) (q_tset (M 129)) i = q_harmN (q_n (M 127)) (M 129) i from by unfold q_harmN; rw [if_neg (by omega)])])) (by unfold pa_harm; (repeat' split) <;> first | rfl | (exfalso; omega)) (by decide)⟩
      · refine p_iconst 28 dX11_harm_27 ?_
        refine p_goto 45 dX11_harm_28 ?_
        refine p_callV1i 0 48 dX11_harm_45 s_grant lk_X11_108 mX11_grant rfl rfl (by decide) (Nat.le_of_ble_eq_true rfl) ?_
        rintro _ _ ⟨rfl, rfl⟩
        refine p_iret dX11_harm_48 rfl ?_
        exact ⟨_, rfl, CQ.of hI hF (fun k _ => rfl) (by unfold pa_harm; (repeat' split) <;> first | rfl | (exfalso; omega) | (rw [q_sum_zero (fun i _ => by unfold q_harmN; rw [if_pos (by omega)])]; rfl) | (show ((q_harms (q_n (M 127)) (q_tset (M 129)) : Nat) : Int) = _; unfold q_harms; rw [q_sum_congr (fun i _ => show q_harm (q_n (M 127)) (q_tset (M 129)) i = q_harmN (q_n (M 127)) (M 129) i from by unfold q_harmN; rw [if_neg (by omega)])])) (by unfold pa_harm; (repeat' split) <;> first | rfl | (exfalso; omega)) (by decide)⟩
    · refine p_aload_n 11 dX11_harm_10 rfl rfl (by decide) ?_
      refine p_iconst 12 dX11_harm_11 ?_
      refine p_callV1i 0 15 dX11_harm_12 s_refuse lk_X11_73 mX11_refuse rfl rfl (by decide) (Nat.le_of_ble_eq_true rfl) ?_
      rintro _ _ ⟨rfl, rfl⟩
      refine p_iret dX11_harm_15 rfl ?_
      exact ⟨_, rfl, CQ.of hI hF (fun k _ => rfl) (by unfold pa_harm; (repeat' split) <;> first | rfl | (exfalso; omega)) (by unfold pa_harm; (repeat' split) <;> first | rfl | (exfalso; omega)) (by decide)⟩
theorem m_harm {l : Launch} {X : ZX} {M : ZM} (hW : zWm M) (hF : WF M)  : zCi l X 5 yX12_harm tX12_harm [zr 124] M (MQq M (pa_harm (M 124 14) (M 127) (M 129))) := by
  have hWg : zWm (zset (zset M 124 0 0) 124 11 0) := (hW.set (by decide +kernel)).set (by decide +kernel)
  have hR := hF.r
  have hT := hF.t
  have hh := hF.h
  have e0 : M 127 0 = (q_n (M 127) 0 : Int) := hR.n (by decide)
  have e2 : M 127 2 = (q_n (M 127) 2 : Int) := hR.n (by decide)
  have e3 : M 127 3 = (q_n (M 127) 3 : Int) := hR.n (by decide)
  have e4 : M 127 4 = (q_n (M 127) 4 : Int) := hR.n (by decide)
  have bR := hR.2.1
  have h20 : M 124 14 = 0 → M 127 2 = 0 := fun h => hF.r0 h 2 (by decide)
  have h30 : M 124 14 = 0 → M 127 3 = 0 := fun h => hF.r0 h 3 (by decide)
  have h40 : M 124 14 = 0 → M 127 4 = 0 := fun h => hF.r0 h 4 (by decide)
  refine zC.of [some (zr 124)] (by decide +kernel) rfl rfl (Nat.le_of_ble_eq_true rfl) rfl ?_
  refine p_aload_n 1 dX12_harm_0 rfl rfl (by decide) ?_
  refine p_callV0v 124 4 dX12_harm_1 s_good lk_X12_165 mX12_good rfl rfl (by decide) (Nat.le_of_ble_eq_true rfl) ?_
  rintro _ rfl
  refine p_aload_n 5 dX12_harm_4 rfl rfl (by decide) ?_
  refine p_getI 124 8 dX12_harm_5 fX12_178 rfl ?_
  refine p_if_eq 18 11 dX12_harm_8 (by show _ ≤ M 124 14; omega) (by show M 124 14 < _; omega) (fun h8 => ?_) (fun h8 => ?_)
  · have h8 : M 124 14 = 0 := h8
    refine p_aload_n 19 dX12_harm_18 rfl rfl (by decide) ?_
    refine p_iconst 20 dX12_harm_19 ?_
    refine p_callV1i 124 23 dX12_harm_20 s_no lk_X12_168 mX12_no rfl rfl (by decide) (Nat.le_of_ble_eq_true rfl) ?_
    rintro _ _ ⟨rfl, rfl⟩
    refine p_iret dX12_harm_23 rfl ?_
    first | exact ⟨_, rfl, MQq.of hid_no hW (by unfold pa_harm; (repeat' split) <;> first | rfl | (exfalso; omega)) (by unfold pa_harm; (repeat' split) <;> first | rfl | (exfalso; omega))⟩ | exact ⟨_, rfl, MQq.of hid_good hW (by unfold pa_harm; (repeat' split) <;> first | rfl | (exfalso; omega)) (by unfold pa_harm; (repeat' split) <;> first | rfl | (exfalso; omega))⟩
  · have h8 : ¬ M 124 14 = 0 := h8
    refine p_aload_n 12 dX12_harm_11 rfl rfl (by decide) ?_
    refine p_callV0i 124 15 dX12_harm_12 (s_harmAll hWg (fun _ _ => rfl) hR (τ := M 129) (fun _ _ => rfl) hT) lk_X12_297 mX12_harmAll rfl rfl (by decide) (Nat.le_of_ble_eq_true rfl) ?_
    rintro _ _ ⟨rfl, e9⟩
    have e9 := e9.symm
    subst e9
    refine p_goto 23 dX12_harm_15 ?_
    refine p_iret dX12_harm_23 rfl ?_
    first | exact ⟨_, rfl, MQq.of hid_no hW (by unfold pa_harm; (repeat' split) <;> first | rfl | (exfalso; omega)) (by unfold pa_harm; (repeat' split) <;> first | rfl | (exfalso; omega))⟩ | exact ⟨_, rfl, MQq.of hid_good hW (by unfold pa_harm; (repeat' split) <;> first | rfl | (exfalso; omega)) (by unfold pa_harm; (repeat' split) <;> first | rfl | (exfalso; omega))⟩
theorem c_harmed {l : Launch} {X : ZX} {M : ZM} (hI : IC M M) (hF : WF M)  : zCi l X 1 yX11_harmed tX11_harmed [zr 0] M (CQ M (pa_harmed (M 124 14) (M 127) (M 129))) := by
  obtain ⟨hW, ⟨c, c', hcc, hco, hsp, hC⟩, ⟨j1, j2, j3, j4, j5⟩, hN, hpast, hten, ⟨hz0, hsea⟩, hfit⟩ := id hI
  have hR := hF.r
  have hT := hF.t
  have hh := hF.h
  have e0 : M 127 0 = (q_n (M 127) 0 : Int) := hR.n (by decide)
  have e2 : M 127 2 = (q_n (M 127) 2 : Int) := hR.n (by decide)
  have e3 : M 127 3 = (q_n (M 127) 3 : Int) := hR.n (by decide)
  have e4 : M 127 4 = (q_n (M 127) 4 : Int) := hR.n (by decide)
  have bR := hR.2.1
  have h20 : M 124 14 = 0 → M 127 2 = 0 := fun h => hF.r0 h 2 (by decide)
  have h30 : M 124 14 = 0 → M 127 3 = 0 := fun h => hF.r0 h 3 (by decide)
  have h40 : M 124 14 = 0 → M 127 4 = 0 := fun h => hF.r0 h 4 (by decide)
  have hwo : M 49 3 = M 129 16 := hN.2.2.2.1
  have t160 := hT.1 16 (by decide)
  have t161 := hT.2.2.2.2.1
  refine zC.of [some (zr 0)] (by decide +kernel) rfl rfl (Nat.le_of_ble_eq_true rfl) rfl ?_
  rcases hcc with ⟨rfl, rfl⟩ | ⟨rfl, rfl⟩
  · have hto : M 2 0 = M 124 14 := hC.1.1
    have hla : M 2 1 = M 127 0 := hC.1.2.1
    have hsn : M 2 2 = M 127 1 := hC.1.2.2.1
    have hcs : M 3 0 = M 127 2 := hC.1.2.2.2.1
    have hca : M 8 0 = M 127 3 := hC.1.2.2.2.2.1
    have hcw : M 13 0 = M 127 4 := hC.1.2.2.2.2.2.1
    have hcb : M 13 1 = M 127 5 := hC.1.2.2.2.2.2.2.1
    have hcor : M 19 0 = M 127 6 := hC.1.2.2.2.2.2.2.2.1
    have hcn : M 19 4 = M 127 7 := hC.1.2.2.2.2.2.2.2.2
    refine p_aload_n 1 dX11_harmed_0 rfl rfl (by decide) ?_
    refine p_getR 0 4 dX11_harmed_1 fX11_16 rfl hco ?_
    refine p_getI 2 7 dX11_harmed_4 fX11_114 rfl ?_
    rw [hto]
    refine p_if_ne 16 10 dX11_harmed_7 (by omega) (by omega) (fun h7 => ?_) (fun h7 => ?_)
    · have h1 : M 124 14 = 1 := by omega
      have hN1 : ICn (M 129) 1 49 M := by rw [← h1]; exact hN
      refine p_aload_n 17 dX11_harmed_16 rfl rfl (by decide) ?_
      refine p_aload_n 18 dX11_harmed_17 rfl rfl (by decide) ?_
      refine p_getR 0 21 dX11_harmed_18 fX11_33 rfl (hW (0, 8, 49) (by decide)) ?_
      refine p_callV0i 49 24 dX11_harmed_21 (s_allHarm hW hN1 hT hR) lk_X11_184 mX3_allHarm rfl rfl (by decide) (Nat.le_of_ble_eq_true rfl) ?_
      rintro _ _ ⟨rfl, e9⟩
      have e9 := e9.symm
      subst e9
      rw [q_harmed7 hR hT]
      refine p_callV1i 0 27 dX11_harmed_24 s_grant lk_X11_108 mX11_grant rfl rfl (by decide) (Nat.le_of_ble_eq_true rfl) ?_
      rintro _ _ ⟨rfl, rfl⟩
      refine p_iret dX11_harmed_27 rfl ?_
      exact ⟨_, rfl, CQ.of hI hF (fun k _ => rfl) (by unfold pa_harmed; (repeat' split) <;> first | rfl | (exfalso; omega)) (by unfold pa_harmed; (repeat' split) <;> first | rfl | (exfalso; omega)) (by decide)⟩
    · refine p_aload_n 11 dX11_harmed_10 rfl rfl (by decide) ?_
      refine p_iconst 12 dX11_harmed_11 ?_
      refine p_callV1i 0 15 dX11_harmed_12 s_refuse lk_X11_73 mX11_refuse rfl rfl (by decide) (Nat.le_of_ble_eq_true rfl) ?_
      rintro _ _ ⟨rfl, rfl⟩
      refine p_iret dX11_harmed_15 rfl ?_
      exact ⟨_, rfl, CQ.of hI hF (fun k _ => rfl) (by unfold pa_harmed; (repeat' split) <;> first | rfl | (exfalso; omega)) (by unfold pa_harmed; (repeat' split) <;> first | rfl | (exfalso; omega)) (by decide)⟩
  · have hto : M 25 0 = M 124 14 := hC.1.1
    have hla : M 25 1 = M 127 0 := hC.1.2.1
    have hsn : M 25 2 = M 127 1 := hC.1.2.2.1
    have hcs : M 26 0 = M 127 2 := hC.1.2.2.2.1
    have hca : M 31 0 = M 127 3 := hC.1.2.2.2.2.1
    have hcw : M 36 0 = M 127 4 := hC.1.2.2.2.2.2.1
    have hcb : M 36 1 = M 127 5 := hC.1.2.2.2.2.2.2.1
    have hcor : M 42 0 = M 127 6 := hC.1.2.2.2.2.2.2.2.1
    have hcn : M 42 4 = M 127 7 := hC.1.2.2.2.2.2.2.2.2
    refine p_aload_n 1 dX11_harmed_0 rfl rfl (by decide) ?_
    refine p_getR 0 4 dX11_harmed_1 fX11_16 rfl hco ?_
    refine p_getI 25 7 dX11_harmed_4 fX11_114 rfl ?_
    rw [hto]
    refine p_if_ne 16 10 dX11_harmed_7 (by omega) (by omega) (fun h7 => ?_) (fun h7 => ?_)
    · have h1 : M 124 14 = 1 := by omega
      have hN1 : ICn (M 129) 1 49 M := by rw [← h1]; exact hN
      refine p_aload_n 17 dX11_harmed_16 rfl rfl (by decide) ?_
      refine p_aload_n 18 dX11_harmed_17 rfl rfl (by decide) ?_
      refine p_getR 0 21 dX11_harmed_18 fX11_33 rfl (hW (0, 8, 49) (by decide)) ?_
      refine p_callV0i 49 24 dX11_harmed_21 (s_allHarm hW hN1 hT hR) lk_X11_184 mX3_allHarm rfl rfl (by decide) (Nat.le_of_ble_eq_true rfl) ?_
      rintro _ _ ⟨rfl, e9⟩
      have e9 := e9.symm
      subst e9
      rw [q_harmed7 hR hT]
      refine p_callV1i 0 27 dX11_harmed_24 s_grant lk_X11_108 mX11_grant rfl rfl (by decide) (Nat.le_of_ble_eq_true rfl) ?_
      rintro _ _ ⟨rfl, rfl⟩
      refine p_iret dX11_harmed_27 rfl ?_
      exact ⟨_, rfl, CQ.of hI hF (fun k _ => rfl) (by unfold pa_harmed; (repeat' split) <;> first | rfl | (exfalso; omega)) (by unfold pa_harmed; (repeat' split) <;> first | rfl | (exfalso; omega)) (by decide)⟩
    · refine p_aload_n 11 dX11_harmed_10 rfl rfl (by decide) ?_
      refine p_iconst 12 dX11_harmed_11 ?_
      refine p_callV1i 0 15 dX11_harmed_12 s_refuse lk_X11_73 mX11_refuse rfl rfl (by decide) (Nat.le_of_ble_eq_true rfl) ?_
      rintro _ _ ⟨rfl, rfl⟩
      refine p_iret dX11_harmed_15 rfl ?_
      exact ⟨_, rfl, CQ.of hI hF (fun k _ => rfl) (by unfold pa_harmed; (repeat' split) <;> first | rfl | (exfalso; omega)) (by unfold pa_harmed; (repeat' split) <;> first | rfl | (exfalso; omega)) (by decide)⟩
theorem l_harmedM {l : Launch} {X : ZX} {M : ZM} {ρ τ : Nat → Int} (hW : zWm M) (hE : ∀ i, i < 421 → M 127 i = ρ i) (hR : wfR ρ) (hU : ∀ i, i < 18 → M 129 i = τ i) (hT : wfT ρ τ) : ∀ (j i : Nat), i + j = q_n ρ 2 → zP l X 1 tX12_harmed 21 [some (zr 124), some (zi (q_sum (fun s => (τ s).toNat) i : Int)), some (zi (i : Int))] [] M (fun r M' => ∃ a, r = some (zi a) ∧ (a = (q_sum (fun s => (τ s).toNat) (q_n ρ 2) : Int) ∧ M' = M)) := by
  have e2 : ρ 2 = (q_n ρ 2 : Int) := hR.n (by decide)
  have b2 := hR.2.1.2.2.1
  intro j
  induction j with
  | zero =>
    intro i hi
    refine p_iload_n 22 dX12_harmed_21 rfl rfl ?_
    refine p_aload_n 23 dX12_harmed_22 rfl rfl (by decide) ?_
    refine p_getR 124 26 dX12_harmed_23 fX12_20 rfl (hW (124, 15, 127) (by decide)) ?_
    refine p_iconst 27 dX12_harmed_26 ?_
    refine p_iald 127 28 dX12_harmed_27 rfl (by omega) (by omega) ?_
    try simp only [Int.toNat_natCast, Int.reduceToNat]
    rw [hE 2 (by decide)]
    refine p_icmp_ge 46 31 dX12_harmed_28 (by omega) (by omega) (by omega) (by omega) (fun h28 => ?_) (fun h28 => absurd (by omega) (fun h9 : False => h9))
    refine p_iload_n 47 dX12_harmed_46 rfl rfl ?_
    refine p_iret dX12_harmed_47 rfl ?_
    rw [Nat.add_zero] at hi
    exact ⟨_, rfl, by rw [hi], rfl⟩
  | succ j ih =>
    intro i hi
    refine p_iload_n 22 dX12_harmed_21 rfl rfl ?_
    refine p_aload_n 23 dX12_harmed_22 rfl rfl (by decide) ?_
    refine p_getR 124 26 dX12_harmed_23 fX12_20 rfl (hW (124, 15, 127) (by decide)) ?_
    refine p_iconst 27 dX12_harmed_26 ?_
    refine p_iald 127 28 dX12_harmed_27 rfl (by omega) (by omega) ?_
    try simp only [Int.toNat_natCast, Int.reduceToNat]
    rw [hE 2 (by decide)]
    refine p_icmp_ge 46 31 dX12_harmed_28 (by omega) (by omega) (by omega) (by omega) (fun h28 => absurd (by omega) (fun h9 : False => h9)) (fun h28 => ?_)
    refine p_iload_n 32 dX12_harmed_31 rfl rfl ?_
    refine p_aload_n 33 dX12_harmed_32 rfl rfl (by decide) ?_
    refine p_getR 124 36 dX12_harmed_33 fX12_26 rfl (hW (124, 17, 129) (by decide)) ?_
    refine p_iload_n 37 dX12_harmed_36 rfl rfl ?_
    refine p_ialdn 129 38 (i) dX12_harmed_37 rfl (by omega) (by omega) ?_
    rw [hU _ (by omega)]
    refine p_iadd 39 dX12_harmed_38 ?_
    refine p_istore_n 40 dX12_harmed_39 rfl (Nat.le_of_ble_eq_true rfl) rfl rfl ?_
    dsimp only [List.set]
    refine p_iinc 43 dX12_harmed_40 rfl rfl rfl ?_
    dsimp only [List.set]
    refine p_goto 21 dX12_harmed_43 ?_
    have e := ih (i + 1) (by omega)
    have t0 := hT.1 i (by omega)
    have er : ((q_sum (fun s => (τ s).toNat) (i + 1) : Nat) : Int) = (q_sum (fun s => (τ s).toNat) i : Int) + τ i := by
      show ((q_sum (fun s => (τ s).toNat) i + (τ i).toNat : Nat) : Int) = _
      omega
    rw [er] at e
    exact e
theorem m_harmed {l : Launch} {X : ZX} {M : ZM} (hW : zWm M) (hF : WF M)  : zCi l X 1 yX12_harmed tX12_harmed [zr 124] M (MQq M (pa_harmed (M 124 14) (M 127) (M 129))) := by
  have hWg : zWm (zset (zset M 124 0 0) 124 11 0) := (hW.set (by decide +kernel)).set (by decide +kernel)
  have hR := hF.r
  have hT := hF.t
  have hh := hF.h
  have e0 : M 127 0 = (q_n (M 127) 0 : Int) := hR.n (by decide)
  have e2 : M 127 2 = (q_n (M 127) 2 : Int) := hR.n (by decide)
  have e3 : M 127 3 = (q_n (M 127) 3 : Int) := hR.n (by decide)
  have e4 : M 127 4 = (q_n (M 127) 4 : Int) := hR.n (by decide)
  have bR := hR.2.1
  have h20 : M 124 14 = 0 → M 127 2 = 0 := fun h => hF.r0 h 2 (by decide)
  have h30 : M 124 14 = 0 → M 127 3 = 0 := fun h => hF.r0 h 3 (by decide)
  have h40 : M 124 14 = 0 → M 127 4 = 0 := fun h => hF.r0 h 4 (by decide)
  refine zC.of [some (zr 124), none, none] (by decide +kernel) rfl rfl (Nat.le_of_ble_eq_true rfl) rfl ?_
  refine p_aload_n 1 dX12_harmed_0 rfl rfl (by decide) ?_
  refine p_callV0v 124 4 dX12_harmed_1 s_good lk_X12_165 mX12_good rfl rfl (by decide) (Nat.le_of_ble_eq_true rfl) ?_
  rintro _ rfl
  refine p_aload_n 5 dX12_harmed_4 rfl rfl (by decide) ?_
  refine p_getI 124 8 dX12_harmed_5 fX12_178 rfl ?_
  refine p_if_ne 17 11 dX12_harmed_8 (by show _ ≤ M 124 14; omega) (by show M 124 14 < _; omega) (fun h8 => ?_) (fun h8 => ?_)
  · have h8 : ¬ M 124 14 = 0 := h8
    refine p_iconst 18 dX12_harmed_17 ?_
    refine p_istore_n 19 dX12_harmed_18 rfl (Nat.le_of_ble_eq_true rfl) rfl rfl ?_
    dsimp only [List.set]
    refine p_iconst 20 dX12_harmed_19 ?_
    refine p_istore_n 21 dX12_harmed_20 rfl (Nat.le_of_ble_eq_true rfl) rfl rfl ?_
    dsimp only [List.set]
    refine (l_harmedM hWg (ρ := M 127) (fun _ _ => rfl) hR (τ := M 129) (fun _ _ => rfl) hT (q_n (M 127) 2) 0 (Nat.zero_add _)).mono (fun r M9 h9 => ?_)
    obtain ⟨a9, ea, eb, ec⟩ := h9
    subst ec
    refine ⟨a9, ea, MQq.of hid_good hW (eb.trans ?_) (by unfold pa_harmed; (repeat' split) <;> first | rfl | (exfalso; omega))⟩
    unfold pa_harmed
    (repeat' split) <;> first | rfl | (exfalso; omega)
  · have h8 : ¬ M 124 14 ≠ 0 := h8
    refine p_aload_n 12 dX12_harmed_11 rfl rfl (by decide) ?_
    refine p_iconst 13 dX12_harmed_12 ?_
    refine p_callV1i 124 16 dX12_harmed_13 s_no lk_X12_168 mX12_no rfl rfl (by decide) (Nat.le_of_ble_eq_true rfl) ?_
    rintro _ _ ⟨rfl, rfl⟩
    refine p_iret dX12_harmed_16 rfl ?_
    exact ⟨_, rfl, MQq.of hid_no hW (by unfold pa_harmed; (repeat' split) <;> first | rfl | (exfalso; omega)) (by unfold pa_harmed; (repeat' split) <;> first | rfl | (exfalso; omega))⟩
theorem l_worstC {l : Launch} {X : ZX} {M : ZM} {τ ρ : Nat → Int} (hW : zWc M) (hN : ICn τ 1 49 M) (hT : wfT ρ τ) {Q : Option ZV → ZM → Prop} (kk : ∀ o : List (Option ZV), o = [some (zr 0), some (zi (q_worst τ 7).1), some (zi (q_worst τ 7).2), some (zi ((7 : Nat) : Int))] → zP l X 1 tX11_worst 60 o [] M Q) : ∀ (j i : Nat), i + j = 7 → zP l X 1 tX11_worst 23 [some (zr 0), some (zi (q_worst τ i).1), some (zi (q_worst τ i).2), some (zi (i : Int))] [] M (Q) := by
  intro j
  induction j with
  | zero =>
    intro i hi
    refine p_iload_n 24 dX11_worst_23 rfl rfl ?_
    refine p_bipush 26 dX11_worst_24 rfl ?_
    refine p_icmp_ge 60 29 dX11_worst_26 (by omega) (by omega) (by omega) (by omega) (fun h26 => ?_) (fun h26 => absurd (by omega) (fun h9 : False => h9))
    rw [Nat.add_zero] at hi
    subst hi
    exact kk _ rfl
  | succ j ih =>
    intro i hi
    have gh : M 50 i = τ i := hN.2.2.2.2.1 i (by omega)
    have t0 := hT.1 i (by omega)
    have t1 := (hT.2.1 i (by omega)).1
    have t2 := hT.2.2.2.1
    obtain ⟨w1, w2, -⟩ := q_worst_ok (τ := τ) i (fun k hk => ⟨hT.1 k (by omega), by have := (hT.2.1 k (by omega)).1; omega⟩)
    refine p_iload_n 24 dX11_worst_23 rfl rfl ?_
    refine p_bipush 26 dX11_worst_24 rfl ?_
    refine p_icmp_ge 60 29 dX11_worst_26 (by omega) (by omega) (by omega) (by omega) (fun h26 => absurd (by omega) (fun h9 : False => h9)) (fun h26 => ?_)
    refine p_aload_n 30 dX11_worst_29 rfl rfl (by decide) ?_
    refine p_getR 0 33 dX11_worst_30 fX11_33 rfl (hW (0, 8, 49) (by decide)) ?_
    refine p_getR 49 36 dX11_worst_33 fX11_139 rfl (hW (49, 4, 50) (by decide)) ?_
    refine p_iload_n 37 dX11_worst_36 rfl rfl ?_
    refine p_ialdn 50 38 (i) dX11_worst_37 rfl (by omega) (by omega) ?_
    rw [gh]
    refine p_iload_n 39 dX11_worst_38 rfl rfl ?_
    refine p_icmp_le 54 42 dX11_worst_39 (by omega) (by omega) (by omega) (by omega) (fun h39 => ?_) (fun h39 => ?_)
    · refine p_iinc 57 dX11_worst_54 rfl rfl rfl ?_
      dsimp only [List.set]
      refine p_goto 23 dX11_worst_57 ?_
      have e := ih (i + 1) (by omega)
      have er : q_worst τ (i + 1) = if (q_worst τ i).1 < τ i then (τ i, (i : Int)) else q_worst τ i := rfl
      first
        | (rw [er, if_pos (by omega)] at e; exact e)
        | (rw [er, if_neg (by omega)] at e; exact e)
    · refine p_aload_n 43 dX11_worst_42 rfl rfl (by decide) ?_
      refine p_getR 0 46 dX11_worst_43 fX11_33 rfl (hW (0, 8, 49) (by decide)) ?_
      refine p_getR 49 49 dX11_worst_46 fX11_139 rfl (hW (49, 4, 50) (by decide)) ?_
      refine p_iload_n 50 dX11_worst_49 rfl rfl ?_
      refine p_ialdn 50 51 (i) dX11_worst_50 rfl (by omega) (by omega) ?_
      rw [gh]
      refine p_istore_n 52 dX11_worst_51 rfl (Nat.le_of_ble_eq_true rfl) rfl rfl ?_
      dsimp only [List.set]
      refine p_iload_n 53 dX11_worst_52 rfl rfl ?_
      refine p_istore_n 54 dX11_worst_53 rfl (Nat.le_of_ble_eq_true rfl) rfl rfl ?_
      dsimp only [List.set]
      refine p_iinc 57 dX11_worst_54 rfl rfl rfl ?_
      dsimp only [List.set]
      refine p_goto 23 dX11_worst_57 ?_
      have e := ih (i + 1) (by omega)
      have er : q_worst τ (i + 1) = if (q_worst τ i).1 < τ i then (τ i, (i : Int)) else q_worst τ i := rfl
      first
        | (rw [er, if_pos (by omega)] at e; exact e)
        | (rw [er, if_neg (by omega)] at e; exact e)
theorem c_worst {l : Launch} {X : ZX} {M : ZM} (hI : IC M M) (hF : WF M)  : zCi l X 1 yX11_worst tX11_worst [zr 0] M (CQ M (pa_worst (M 124 14) (M 127) (M 129))) := by
  obtain ⟨hW, ⟨c, c', hcc, hco, hsp, hC⟩, ⟨j1, j2, j3, j4, j5⟩, hN, hpast, hten, ⟨hz0, hsea⟩, hfit⟩ := id hI
  have hR := hF.r
  have hT := hF.t
  have hh := hF.h
  have e0 : M 127 0 = (q_n (M 127) 0 : Int) := hR.n (by decide)
  have e2 : M 127 2 = (q_n (M 127) 2 : Int) := hR.n (by decide)
  have e3 : M 127 3 = (q_n (M 127) 3 : Int) := hR.n (by decide)
  have e4 : M 127 4 = (q_n (M 127) 4 : Int) := hR.n (by decide)
  have bR := hR.2.1
  have h20 : M 124 14 = 0 → M 127 2 = 0 := fun h => hF.r0 h 2 (by decide)
  have h30 : M 124 14 = 0 → M 127 3 = 0 := fun h => hF.r0 h 3 (by decide)
  have h40 : M 124 14 = 0 → M 127 4 = 0 := fun h => hF.r0 h 4 (by decide)
  have hwo : M 49 3 = M 129 16 := hN.2.2.2.1
  have t160 := hT.1 16 (by decide)
  have t161 := hT.2.2.2.2.1
  refine zC.of [some (zr 0), none, none, none] (by decide +kernel) rfl rfl (Nat.le_of_ble_eq_true rfl) rfl ?_
  rcases hcc with ⟨rfl, rfl⟩ | ⟨rfl, rfl⟩
  · have hto : M 2 0 = M 124 14 := hC.1.1
    have hla : M 2 1 = M 127 0 := hC.1.2.1
    have hsn : M 2 2 = M 127 1 := hC.1.2.2.1
    have hcs : M 3 0 = M 127 2 := hC.1.2.2.2.1
    have hca : M 8 0 = M 127 3 := hC.1.2.2.2.2.1
    have hcw : M 13 0 = M 127 4 := hC.1.2.2.2.2.2.1
    have hcb : M 13 1 = M 127 5 := hC.1.2.2.2.2.2.2.1
    have hcor : M 19 0 = M 127 6 := hC.1.2.2.2.2.2.2.2.1
    have hcn : M 19 4 = M 127 7 := hC.1.2.2.2.2.2.2.2.2
    refine p_aload_n 1 dX11_worst_0 rfl rfl (by decide) ?_
    refine p_getR 0 4 dX11_worst_1 fX11_16 rfl hco ?_
    refine p_getI 2 7 dX11_worst_4 fX11_114 rfl ?_
    rw [hto]
    refine p_if_ne 16 10 dX11_worst_7 (by omega) (by omega) (fun h7 => ?_) (fun h7 => ?_)
    · have h1 : M 124 14 = 1 := by omega
      have hN1 : ICn (M 129) 1 49 M := by rw [← h1]; exact hN
      refine p_iconst 17 dX11_worst_16 ?_
      refine p_istore_n 18 dX11_worst_17 rfl (Nat.le_of_ble_eq_true rfl) rfl rfl ?_
      dsimp only [List.set]
      refine p_bipush 20 dX11_worst_18 rfl ?_
      refine p_istore_n 21 dX11_worst_20 rfl (Nat.le_of_ble_eq_true rfl) rfl rfl ?_
      dsimp only [List.set]
      refine p_iconst 22 dX11_worst_21 ?_
      refine p_istore_n 23 dX11_worst_22 rfl (Nat.le_of_ble_eq_true rfl) rfl rfl ?_
      dsimp only [List.set]
      refine l_worstC hW hN1 hT (fun o ho => ?_) 7 0 rfl
      subst ho
      refine p_aload_n 61 dX11_worst_60 rfl rfl (by decide) ?_
      refine p_iload_n 62 dX11_worst_61 rfl rfl ?_
      refine p_callV1i 0 65 dX11_worst_62 s_grant lk_X11_108 mX11_grant rfl rfl (by decide) (Nat.le_of_ble_eq_true rfl) ?_
      rintro _ _ ⟨rfl, rfl⟩
      refine p_iret dX11_worst_65 rfl ?_
      have hw := q_worst7 hR hT (7 - q_n (M 127) 2) (by omega)
      rw [show q_n (M 127) 2 + (7 - q_n (M 127) 2) = 7 by omega] at hw
      rw [hw]
      exact ⟨_, rfl, CQ.of hI hF (fun k _ => rfl) (by unfold pa_worst; (repeat' split) <;> first | rfl | (exfalso; omega)) (by unfold pa_worst; (repeat' split) <;> first | rfl | (exfalso; omega)) (by decide)⟩
    · refine p_aload_n 11 dX11_worst_10 rfl rfl (by decide) ?_
      refine p_iconst 12 dX11_worst_11 ?_
      refine p_callV1i 0 15 dX11_worst_12 s_refuse lk_X11_73 mX11_refuse rfl rfl (by decide) (Nat.le_of_ble_eq_true rfl) ?_
      rintro _ _ ⟨rfl, rfl⟩
      refine p_iret dX11_worst_15 rfl ?_
      exact ⟨_, rfl, CQ.of hI hF (fun k _ => rfl) (by unfold pa_worst; (repeat' split) <;> first | rfl | (exfalso; omega)) (by unfold pa_worst; (repeat' split) <;> first | rfl | (exfalso; omega)) (by decide)⟩
  · have hto : M 25 0 = M 124 14 := hC.1.1
    have hla : M 25 1 = M 127 0 := hC.1.2.1
    have hsn : M 25 2 = M 127 1 := hC.1.2.2.1
    have hcs : M 26 0 = M 127 2 := hC.1.2.2.2.1
    have hca : M 31 0 = M 127 3 := hC.1.2.2.2.2.1
    have hcw : M 36 0 = M 127 4 := hC.1.2.2.2.2.2.1
    have hcb : M 36 1 = M 127 5 := hC.1.2.2.2.2.2.2.1
    have hcor : M 42 0 = M 127 6 := hC.1.2.2.2.2.2.2.2.1
    have hcn : M 42 4 = M 127 7 := hC.1.2.2.2.2.2.2.2.2
    refine p_aload_n 1 dX11_worst_0 rfl rfl (by decide) ?_
    refine p_getR 0 4 dX11_worst_1 fX11_16 rfl hco ?_
    refine p_getI 25 7 dX11_worst_4 fX11_114 rfl ?_
    rw [hto]
    refine p_if_ne 16 10 dX11_worst_7 (by omega) (by omega) (fun h7 => ?_) (fun h7 => ?_)
    · have h1 : M 124 14 = 1 := by omega
      have hN1 : ICn (M 129) 1 49 M := by rw [← h1]; exact hN
      refine p_iconst 17 dX11_worst_16 ?_
      refine p_istore_n 18 dX11_worst_17 rfl (Nat.le_of_ble_eq_true rfl) rfl rfl ?_
      dsimp only [List.set]
      refine p_bipush 20 dX11_worst_18 rfl ?_
      refine p_istore_n 21 dX11_worst_20 rfl (Nat.le_of_ble_eq_true rfl) rfl rfl ?_
      dsimp only [List.set]
      refine p_iconst 22 dX11_worst_21 ?_
      refine p_istore_n 23 dX11_worst_22 rfl (Nat.le_of_ble_eq_true rfl) rfl rfl ?_
      dsimp only [List.set]
      refine l_worstC hW hN1 hT (fun o ho => ?_) 7 0 rfl
      subst ho
      refine p_aload_n 61 dX11_worst_60 rfl rfl (by decide) ?_
      refine p_iload_n 62 dX11_worst_61 rfl rfl ?_
      refine p_callV1i 0 65 dX11_worst_62 s_grant lk_X11_108 mX11_grant rfl rfl (by decide) (Nat.le_of_ble_eq_true rfl) ?_
      rintro _ _ ⟨rfl, rfl⟩
      refine p_iret dX11_worst_65 rfl ?_
      have hw := q_worst7 hR hT (7 - q_n (M 127) 2) (by omega)
      rw [show q_n (M 127) 2 + (7 - q_n (M 127) 2) = 7 by omega] at hw
      rw [hw]
      exact ⟨_, rfl, CQ.of hI hF (fun k _ => rfl) (by unfold pa_worst; (repeat' split) <;> first | rfl | (exfalso; omega)) (by unfold pa_worst; (repeat' split) <;> first | rfl | (exfalso; omega)) (by decide)⟩
    · refine p_aload_n 11 dX11_worst_10 rfl rfl (by decide) ?_
      refine p_iconst 12 dX11_worst_11 ?_
      refine p_callV1i 0 15 dX11_worst_12 s_refuse lk_X11_73 mX11_refuse rfl rfl (by decide) (Nat.le_of_ble_eq_true rfl) ?_
      rintro _ _ ⟨rfl, rfl⟩
      refine p_iret dX11_worst_15 rfl ?_
      exact ⟨_, rfl, CQ.of hI hF (fun k _ => rfl) (by unfold pa_worst; (repeat' split) <;> first | rfl | (exfalso; omega)) (by unfold pa_worst; (repeat' split) <;> first | rfl | (exfalso; omega)) (by decide)⟩
theorem l_worstM {l : Launch} {X : ZX} {M : ZM} {ρ τ : Nat → Int} (hW : zWm M) (hE : ∀ i, i < 421 → M 127 i = ρ i) (hR : wfR ρ) (hU : ∀ i, i < 18 → M 129 i = τ i) (hT : wfT ρ τ) : ∀ (j i : Nat), i + j = q_n ρ 2 → zP l X 1 tX12_worst 22 [some (zr 124), some (zi (q_worst τ i).2), some (zi (i : Int))] [] M (fun r M' => ∃ a, r = some (zi a) ∧ (a = (q_worst τ (q_n ρ 2)).2 ∧ M' = M)) := by
  have e2 : ρ 2 = (q_n ρ 2 : Int) := hR.n (by decide)
  have b2 := hR.2.1.2.2.1
  intro j
  induction j with
  | zero =>
    intro i hi
    refine p_iload_n 23 dX12_worst_22 rfl rfl ?_
    refine p_aload_n 24 dX12_worst_23 rfl rfl (by decide) ?_
    refine p_getR 124 27 dX12_worst_24 fX12_20 rfl (hW (124, 15, 127) (by decide)) ?_
    refine p_iconst 28 dX12_worst_27 ?_
    refine p_iald 127 29 dX12_worst_28 rfl (by omega) (by omega) ?_
    try simp only [Int.toNat_natCast, Int.reduceToNat]
    rw [hE 2 (by decide)]
    refine p_icmp_ge 63 32 dX12_worst_29 (by omega) (by omega) (by omega) (by omega) (fun h29 => ?_) (fun h29 => absurd (by omega) (fun h9 : False => h9))
    refine p_iload_n 64 dX12_worst_63 rfl rfl ?_
    refine p_iret dX12_worst_64 rfl ?_
    rw [Nat.add_zero] at hi
    exact ⟨_, rfl, by rw [hi], rfl⟩
  | succ j ih =>
    intro i hi
    have t0 := hT.1 i (by omega)
    have t1 := (hT.2.1 i (by omega)).1
    have t2 := hT.2.2.2.1
    obtain ⟨w1, w2, w3⟩ := q_worst_ok (τ := τ) i (fun k hk => ⟨hT.1 k (by omega), by have := (hT.2.1 k (by omega)).1; omega⟩)
    have w4 : ((q_worst τ i).2 = -2 ∧ (q_worst τ i).1 = 0) ∨ (0 ≤ (q_worst τ i).2 ∧ (q_worst τ i).2 < (i : Int) ∧ τ (q_worst τ i).2.toNat = (q_worst τ i).1) := by
      rcases w3 with w3 | ⟨k, k1, k2, k3⟩
      · exact Or.inl w3
      · refine Or.inr ⟨by omega, by omega, ?_⟩
        rw [k2, k3, Int.toNat_natCast]
    refine p_iload_n 23 dX12_worst_22 rfl rfl ?_
    refine p_aload_n 24 dX12_worst_23 rfl rfl (by decide) ?_
    refine p_getR 124 27 dX12_worst_24 fX12_20 rfl (hW (124, 15, 127) (by decide)) ?_
    refine p_iconst 28 dX12_worst_27 ?_
    refine p_iald 127 29 dX12_worst_28 rfl (by omega) (by omega) ?_
    try simp only [Int.toNat_natCast, Int.reduceToNat]
    rw [hE 2 (by decide)]
    refine p_icmp_ge 63 32 dX12_worst_29 (by omega) (by omega) (by omega) (by omega) (fun h29 => absurd (by omega) (fun h9 : False => h9)) (fun h29 => ?_)
    refine p_aload_n 33 dX12_worst_32 rfl rfl (by decide) ?_
    refine p_getR 124 36 dX12_worst_33 fX12_26 rfl (hW (124, 17, 129) (by decide)) ?_
    refine p_iload_n 37 dX12_worst_36 rfl rfl ?_
    refine p_ialdn 129 38 (i) dX12_worst_37 rfl (by omega) (by omega) ?_
    rw [hU i (by omega)]
    refine p_iload_n 39 dX12_worst_38 rfl rfl ?_
    refine p_if_ge 46 42 dX12_worst_39 (by omega) (by omega) (fun h39 => ?_) (fun h39 => ?_)
    · refine p_aload_n 47 dX12_worst_46 rfl rfl (by decide) ?_
      refine p_getR 124 50 dX12_worst_47 fX12_26 rfl (hW (124, 17, 129) (by decide)) ?_
      refine p_iload_n 51 dX12_worst_50 rfl rfl ?_
      refine p_ialdn 129 52 ((q_worst τ i).2.toNat) dX12_worst_51 rfl (by omega) (by omega) ?_
      refine p_icmp_le 57 55 dX12_worst_52 (by omega) (by omega) (by first | omega | (rw [hU _ (by omega)]; omega)) (by first | omega | (rw [hU _ (by omega)]; omega)) (fun h52 => ?_) (fun h52 => ?_)
      · refine p_iinc 60 dX12_worst_57 rfl rfl rfl ?_
        dsimp only [List.set]
        refine p_goto 22 dX12_worst_60 ?_
        have e := ih (i + 1) (by omega)
        have er : q_worst τ (i + 1) = if (q_worst τ i).1 < τ i then (τ i, (i : Int)) else q_worst τ i := rfl
        try rw [hU _ (by omega)] at h52
        first
          | (rw [er, if_pos (by omega)] at e; exact e)
          | (rw [er, if_neg (by omega)] at e; exact e)
      · refine p_iload_n 56 dX12_worst_55 rfl rfl ?_
        refine p_istore_n 57 dX12_worst_56 rfl (Nat.le_of_ble_eq_true rfl) rfl rfl ?_
        dsimp only [List.set]
        refine p_iinc 60 dX12_worst_57 rfl rfl rfl ?_
        dsimp only [List.set]
        refine p_goto 22 dX12_worst_60 ?_
        have e := ih (i + 1) (by omega)
        have er : q_worst τ (i + 1) = if (q_worst τ i).1 < τ i then (τ i, (i : Int)) else q_worst τ i := rfl
        try rw [hU _ (by omega)] at h52
        first
          | (rw [er, if_pos (by omega)] at e; exact e)
          | (rw [er, if_neg (by omega)] at e; exact e)
    · refine p_iconst 43 dX12_worst_42 ?_
      refine p_goto 52 dX12_worst_43 ?_
      refine p_icmp_le 57 55 dX12_worst_52 (by omega) (by omega) (by first | omega | (rw [hU _ (by omega)]; omega)) (by first | omega | (rw [hU _ (by omega)]; omega)) (fun h52 => ?_) (fun h52 => ?_)
      · refine p_iinc 60 dX12_worst_57 rfl rfl rfl ?_
        dsimp only [List.set]
        refine p_goto 22 dX12_worst_60 ?_
        have e := ih (i + 1) (by omega)
        have er : q_worst τ (i + 1) = if (q_worst τ i).1 < τ i then (τ i, (i : Int)) else q_worst τ i := rfl
        try rw [hU _ (by omega)] at h52
        first
          | (rw [er, if_pos (by omega)] at e; exact e)
          | (rw [er, if_neg (by omega)] at e; exact e)
      · refine p_iload_n 56 dX12_worst_55 rfl rfl ?_
        refine p_istore_n 57 dX12_worst_56 rfl (Nat.le_of_ble_eq_true rfl) rfl rfl ?_
        dsimp only [List.set]
        refine p_iinc 60 dX12_worst_57 rfl rfl rfl ?_
        dsimp only [List.set]
        refine p_goto 22 dX12_worst_60 ?_
        have e := ih (i + 1) (by omega)
        have er : q_worst τ (i + 1) = if (q_worst τ i).1 < τ i then (τ i, (i : Int)) else q_worst τ i := rfl
        try rw [hU _ (by omega)] at h52
        first
          | (rw [er, if_pos (by omega)] at e; exact e)
          | (rw [er, if_neg (by omega)] at e; exact e)
theorem m_worst {l : Launch} {X : ZX} {M : ZM} (hW : zWm M) (hF : WF M)  : zCi l X 1 yX12_worst tX12_worst [zr 124] M (MQq M (pa_worst (M 124 14) (M 127) (M 129))) := by
  have hWg : zWm (zset (zset M 124 0 0) 124 11 0) := (hW.set (by decide +kernel)).set (by decide +kernel)
  have hR := hF.r
  have hT := hF.t
  have hh := hF.h
  have e0 : M 127 0 = (q_n (M 127) 0 : Int) := hR.n (by decide)
  have e2 : M 127 2 = (q_n (M 127) 2 : Int) := hR.n (by decide)
  have e3 : M 127 3 = (q_n (M 127) 3 : Int) := hR.n (by decide)
  have e4 : M 127 4 = (q_n (M 127) 4 : Int) := hR.n (by decide)
  have bR := hR.2.1
  have h20 : M 124 14 = 0 → M 127 2 = 0 := fun h => hF.r0 h 2 (by decide)
  have h30 : M 124 14 = 0 → M 127 3 = 0 := fun h => hF.r0 h 3 (by decide)
  have h40 : M 124 14 = 0 → M 127 4 = 0 := fun h => hF.r0 h 4 (by decide)
  refine zC.of [some (zr 124), none, none] (by decide +kernel) rfl rfl (Nat.le_of_ble_eq_true rfl) rfl ?_
  refine p_aload_n 1 dX12_worst_0 rfl rfl (by decide) ?_
  refine p_callV0v 124 4 dX12_worst_1 s_good lk_X12_165 mX12_good rfl rfl (by decide) (Nat.le_of_ble_eq_true rfl) ?_
  rintro _ rfl
  refine p_aload_n 5 dX12_worst_4 rfl rfl (by decide) ?_
  refine p_getI 124 8 dX12_worst_5 fX12_178 rfl ?_
  refine p_if_ne 17 11 dX12_worst_8 (by show _ ≤ M 124 14; omega) (by show M 124 14 < _; omega) (fun h8 => ?_) (fun h8 => ?_)
  · have h8 : ¬ M 124 14 = 0 := h8
    refine p_bipush 19 dX12_worst_17 rfl ?_
    refine p_istore_n 20 dX12_worst_19 rfl (Nat.le_of_ble_eq_true rfl) rfl rfl ?_
    dsimp only [List.set]
    refine p_iconst 21 dX12_worst_20 ?_
    refine p_istore_n 22 dX12_worst_21 rfl (Nat.le_of_ble_eq_true rfl) rfl rfl ?_
    dsimp only [List.set]
    refine (l_worstM hWg (ρ := M 127) (fun _ _ => rfl) hR (τ := M 129) (fun _ _ => rfl) hT (q_n (M 127) 2) 0 (Nat.zero_add _)).mono (fun r M9 h9 => ?_)
    obtain ⟨a9, ea, eb, ec⟩ := h9
    subst ec
    refine ⟨a9, ea, MQq.of hid_good hW (eb.trans ?_) (by unfold pa_worst; (repeat' split) <;> first | rfl | (exfalso; omega))⟩
    unfold pa_worst
    (repeat' split) <;> first | rfl | (exfalso; omega)
  · have h8 : ¬ M 124 14 ≠ 0 := h8
    refine p_aload_n 12 dX12_worst_11 rfl rfl (by decide) ?_
    refine p_iconst 13 dX12_worst_12 ?_
    refine p_callV1i 124 16 dX12_worst_13 s_no lk_X12_168 mX12_no rfl rfl (by decide) (Nat.le_of_ble_eq_true rfl) ?_
    rintro _ _ ⟨rfl, rfl⟩
    refine p_iret dX12_worst_16 rfl ?_
    exact ⟨_, rfl, MQq.of hid_no hW (by unfold pa_worst; (repeat' split) <;> first | rfl | (exfalso; omega)) (by unfold pa_worst; (repeat' split) <;> first | rfl | (exfalso; omega))⟩
