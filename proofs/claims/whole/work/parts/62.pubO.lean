theorem IC.learnF {s M M' : ZM} (h : IC s M) (hF : WF s) (h1 : ∀ a, a < 121 ∨ 123 < a → M' a = M a) (h2 : ∀ k, 6 ≤ k → M' 121 k = M 121 k) (h3 : M' 121 0 = 1) (h4 : ICf (s 127) M') : IC s M' := by
  obtain ⟨i1, ⟨c, c', hcc, hc1, hc2, hc3⟩, ⟨j1, j2, j3, j4, j5⟩, i4, ⟨p1, p2, top, ht, p3, p4, p5⟩, i6, ⟨⟨z1, z2, z3, z4⟩, i7⟩, i8⟩ := id h
  have hm3 := hF.m
  refine ⟨?_, ⟨c, c', hcc, ?_, ?_, hc3.congr (fun a g1 g2 => h1 a (by omega))⟩, ⟨?_, fun i hi => ?_, ?_, ?_, fun h9 => ?_⟩, i4.congr (h1 _ (by omega)) (h1 _ (by omega)) (h1 _ (by omega)), ⟨?_, ?_, top, ht, ?_, fun j hj => ?_, fun j hj => ?_⟩, ?_, ⟨⟨?_, ?_, ?_, ?_⟩, ?_⟩, Or.inr ⟨h3, h4⟩⟩
  · refine i1.fr (fun q hq => ?_)
    have hr : ∀ q ∈ zwC, q.1 < 122 ∨ 123 < q.1 := by decide +kernel
    have hr2 : ∀ q ∈ zwC, q.1 = 121 → 6 ≤ q.2.1 := by decide +kernel
    have g := hr q hq
    by_cases e : q.1 = 121
    · rw [e]
      exact h2 _ (hr2 q hq e)
    · rw [h1 _ (by omega)]
  · rw [h1 0 (by omega)]; exact hc1
  · rw [h1 0 (by omega)]; exact hc2
  · rw [h1 0 (by omega)]; exact j1
  · rw [h1 1 (by omega)]; exact j2 i hi
  · rw [h1 0 (by omega)]; exact j3
  · rw [h1 0 (by omega)]; exact j4
  · rw [h1 0 (by omega)]; exact j5 h9
  · rw [h1 52 (by omega)]; exact p1
  · rw [h1 52 (by omega)]; exact p2
  · rw [h1 52 (by omega)]; exact p3
  · have hm : (top + 16 - (s 124 20).toNat + j) % 16 < 16 := Nat.mod_lt _ (by decide)
    exact (p4 j hj).congr (h1 _ (by omega)) (h1 _ (by omega)) (h1 _ (by omega))
  · exact (p5 j hj).congr (h1 _ (by omega)) (h1 _ (by omega)) (h1 _ (by omega))
  · rw [h1 112 (by omega)]
    exact i6.imp id (fun g => ⟨g.1, g.2.congr (h1 _ (by omega)) (h1 _ (by omega)) (h1 _ (by omega))⟩)
  · rw [h1 116 (by omega)]; exact z1
  · rw [h1 117 (by omega)]; exact z2
  · rw [h1 118 (by omega)]; exact z3
  · rw [h1 119 (by omega)]; exact z4
  · rw [h1 115 (by omega)]
    exact i7.imp id (fun g => ⟨g.1, g.2.congr (h1 _ (by omega)) (h1 _ (by omega)) (h1 _ (by omega)) (h1 _ (by omega)) (h1 _ (by omega))⟩)
def pa_fits (h : Int) (ρ : Nat → Int) : Int × Int := if h = 0 then (-1, 1) else ((q_fits ρ : Int), 0)
def pa_could (h : Int) (ρ : Nat → Int) : Int × Int := if h = 0 then (-1, 1) else ((q_could ρ : Int), 0)
def pa_surely (h : Int) (ρ : Nat → Int) : Int × Int := if h = 0 then (-1, 1) else ((q_surely ρ : Int), 0)
def pa_ask (h : Int) (ρ : Nat → Int) : Int × Int := if h = 0 then (-1, 1) else ((q_asked ρ).1, 0)
def pa_askLeaves (h : Int) (ρ : Nat → Int) : Int × Int := if h = 0 then (-1, 1) else ((q_asked ρ).2, 0)
def pa_judge (h : Int) (ρ : Nat → Int) : Int × Int := if h = 0 then (-1, 1) else (q_fv (q_unl ρ (2 ^ q_n ρ 6 - 1)), 0)
def pa_together (h : Int) (ρ : Nat → Int) (v : Int) : Int × Int := if h = 0 ∨ v < 0 ∨ ((2 ^ q_n ρ 6 - 1 : Nat) : Int) < v then (-1, 1) else ((q_tog ρ v.toNat (q_n ρ 6)).2, 0)
def pa_clash (h : Int) (ρ : Nat → Int) : Int × Int := if h = 0 then (-1, 1) else (q_clash ρ, 0)
theorem c_fits {l : Launch} {X : ZX} {M : ZM} (hI : IC M M) (hF : WF M)  : zCi l X 6 yX11_fits tX11_fits [zr 0] M (CQ M (pa_fits (M 124 14) (M 127))) := by
  obtain ⟨hW, ⟨c, c', hcc, hco, hsp, hC⟩, ⟨j1, j2, j3, j4, j5⟩, hN, hpast, hten, ⟨hz0, hsea⟩, hfit⟩ := id hI
  have hR := hF.r
  have hT := hF.t
  have hh := hF.h
  have e0 : M 127 0 = (q_n (M 127) 0 : Int) := hR.n (by decide)
  have e2 : M 127 2 = (q_n (M 127) 2 : Int) := hR.n (by decide)
  have e3 : M 127 3 = (q_n (M 127) 3 : Int) := hR.n (by decide)
  have e4 : M 127 4 = (q_n (M 127) 4 : Int) := hR.n (by decide)
  have bR := hR.2.1
  have h20 : M 124 14 = 0 → M 127 2 = 0 := fun h => hF.r0 h 2 (by decide)
  have h30 : M 124 14 = 0 → M 127 3 = 0 := fun h => hF.r0 h 3 (by decide)
  have h40 : M 124 14 = 0 → M 127 4 = 0 := fun h => hF.r0 h 4 (by decide)
  have hwo : M 49 3 = M 129 16 := hN.2.2.2.1
  have t160 := hT.1 16 (by decide)
  have t161 := hT.2.2.2.2.1
  refine zC.of [some (zr 0)] (by decide +kernel) rfl rfl (Nat.le_of_ble_eq_true rfl) rfl ?_
  rcases hcc with ⟨rfl, rfl⟩ | ⟨rfl, rfl⟩
  · have hto : M 2 0 = M 124 14 := hC.1.1
    have hla : M 2 1 = M 127 0 := hC.1.2.1
    have hsn : M 2 2 = M 127 1 := hC.1.2.2.1
    have hcs : M 3 0 = M 127 2 := hC.1.2.2.2.1
    have hca : M 8 0 = M 127 3 := hC.1.2.2.2.2.1
    have hcw : M 13 0 = M 127 4 := hC.1.2.2.2.2.2.1
    have hcb : M 13 1 = M 127 5 := hC.1.2.2.2.2.2.2.1
    have hcor : M 19 0 = M 127 6 := hC.1.2.2.2.2.2.2.2.1
    have hcn : M 19 4 = M 127 7 := hC.1.2.2.2.2.2.2.2.2
    have e6 : M 127 6 = (q_n (M 127) 6 : Int) := hR.n (by decide)
    have b6 := bR.2.2.2.2.2.2.1
    have e7 : M 127 7 = (q_n (M 127) 7 : Int) := hR.n (by decide)
    have b7 := bR.2.2.2.2.2.2.2
    have hp6 := p6 (n := q_n (M 127) 6) (by omega)
    have hp0 : 0 < 2 ^ q_n (M 127) 6 := Nat.two_pow_pos _
    refine p_aload_n 1 dX11_fits_0 rfl rfl (by decide) ?_
    refine p_getR 0 4 dX11_fits_1 fX11_16 rfl hco ?_
    refine p_getI 2 7 dX11_fits_4 fX11_114 rfl ?_
    rw [hto]
    refine p_if_ne 16 10 dX11_fits_7 (by omega) (by omega) (fun h7 => ?_) (fun h7 => ?_)
    · have h1 : M 124 14 = 1 := by omega
      have hR1 := hF.r1 h1
      refine p_aload_n 17 dX11_fits_16 rfl rfl (by decide) ?_
      refine p_getR 0 20 dX11_fits_17 fX11_61 rfl (hW (0, 12, 121) (by decide)) ?_
      refine p_aload_n 21 dX11_fits_20 rfl rfl (by decide) ?_
      refine p_getR 0 24 dX11_fits_21 fX11_16 rfl hco ?_
      refine p_getR 2 27 dX11_fits_24 fX11_273 rfl (hW (2, 6, 19) (by decide)) ?_
      refine p_callV1v 121 30 dX11_fits_27 (s_learnF (Or.inl rfl : isC 2) hW hC hR hfit) lk_X11_277 mX1_learn rfl rfl (by decide) (Nat.le_of_ble_eq_true rfl) ?_
      intro M9 h9
      obtain ⟨g1, g2, g3, g4⟩ := h9
      have hI9 : IC M M9 := hI.learnF hF g1 g2 g3 g4
      have hk9 : ∀ k, 124 ≤ k → M9 k = M k := fun k hk => g1 k (by omega)
      have hW := hI9.1
      refine p_aload_n 31 dX11_fits_30 rfl rfl (by decide) ?_
      refine p_aload_n 32 dX11_fits_31 rfl rfl (by decide) ?_
      refine p_getR 0 35 dX11_fits_32 fX11_61 rfl (hW (0, 12, 121) (by decide)) ?_
      refine p_getI 121 38 dX11_fits_35 fX11_280 rfl ?_
      rw [g4.1]
      refine p_callV1i 0 41 dX11_fits_38 s_grant lk_X11_108 mX11_grant rfl rfl (by decide) (Nat.le_of_ble_eq_true rfl) ?_
      rintro _ _ ⟨rfl, rfl⟩
      refine p_iret dX11_fits_41 rfl ?_
      exact ⟨_, rfl, CQ.of hI9 hF hk9 (by unfold pa_fits; (repeat' split) <;> first | rfl | (exfalso; omega)) (by unfold pa_fits; (repeat' split) <;> first | rfl | (exfalso; omega)) (by decide)⟩
    · refine p_aload_n 11 dX11_fits_10 rfl rfl (by decide) ?_
      refine p_iconst 12 dX11_fits_11 ?_
      refine p_callV1i 0 15 dX11_fits_12 s_refuse lk_X11_73 mX11_refuse rfl rfl (by decide) (Nat.le_of_ble_eq_true rfl) ?_
      rintro _ _ ⟨rfl, rfl⟩
      refine p_iret dX11_fits_15 rfl ?_
      exact ⟨_, rfl, CQ.of hI hF (fun k _ => rfl) (by unfold pa_fits; (repeat' split) <;> first | rfl | (exfalso; omega)) (by unfold pa_fits; (repeat' split) <;> first | rfl | (exfalso; omega)) (by decide)⟩
  · have hto : M 25 0 = M 124 14 := hC.1.1
    have hla : M 25 1 = M 127 0 := hC.1.2.1
    have hsn : M 25 2 = M 127 1 := hC.1.2.2.1
    have hcs : M 26 0 = M 127 2 := hC.1.2.2.2.1
    have hca : M 31 0 = M 127 3 := hC.1.2.2.2.2.1
    have hcw : M 36 0 = M 127 4 := hC.1.2.2.2.2.2.1
    have hcb : M 36 1 = M 127 5 := hC.1.2.2.2.2.2.2.1
    have hcor : M 42 0 = M 127 6 := hC.1.2.2.2.2.2.2.2.1
    have hcn : M 42 4 = M 127 7 := hC.1.2.2.2.2.2.2.2.2
    have e6 : M 127 6 = (q_n (M 127) 6 : Int) := hR.n (by decide)
    have b6 := bR.2.2.2.2.2.2.1
    have e7 : M 127 7 = (q_n (M 127) 7 : Int) := hR.n (by decide)
    have b7 := bR.2.2.2.2.2.2.2
    have hp6 := p6 (n := q_n (M 127) 6) (by omega)
    have hp0 : 0 < 2 ^ q_n (M 127) 6 := Nat.two_pow_pos _
    refine p_aload_n 1 dX11_fits_0 rfl rfl (by decide) ?_
    refine p_getR 0 4 dX11_fits_1 fX11_16 rfl hco ?_
    refine p_getI 25 7 dX11_fits_4 fX11_114 rfl ?_
    rw [hto]
    refine p_if_ne 16 10 dX11_fits_7 (by omega) (by omega) (fun h7 => ?_) (fun h7 => ?_)
    · have h1 : M 124 14 = 1 := by omega
      have hR1 := hF.r1 h1
      refine p_aload_n 17 dX11_fits_16 rfl rfl (by decide) ?_
      refine p_getR 0 20 dX11_fits_17 fX11_61 rfl (hW (0, 12, 121) (by decide)) ?_
      refine p_aload_n 21 dX11_fits_20 rfl rfl (by decide) ?_
      refine p_getR 0 24 dX11_fits_21 fX11_16 rfl hco ?_
      refine p_getR 25 27 dX11_fits_24 fX11_273 rfl (hW (25, 6, 42) (by decide)) ?_
      refine p_callV1v 121 30 dX11_fits_27 (s_learnF (Or.inr rfl : isC 25) hW hC hR hfit) lk_X11_277 mX1_learn rfl rfl (by decide) (Nat.le_of_ble_eq_true rfl) ?_
      intro M9 h9
      obtain ⟨g1, g2, g3, g4⟩ := h9
      have hI9 : IC M M9 := hI.learnF hF g1 g2 g3 g4
      have hk9 : ∀ k, 124 ≤ k → M9 k = M k := fun k hk => g1 k (by omega)
      have hW := hI9.1
      refine p_aload_n 31 dX11_fits_30 rfl rfl (by decide) ?_
      refine p_aload_n 32 dX11_fits_31 rfl rfl (by decide) ?_
      refine p_getR 0 35 dX11_fits_32 fX11_61 rfl (hW (0, 12, 121) (by decide)) ?_
      refine p_getI 121 38 dX11_fits_35 fX11_280 rfl ?_
      rw [g4.1]
      refine p_callV1i 0 41 dX11_fits_38 s_grant lk_X11_108 mX11_grant rfl rfl (by decide) (Nat.le_of_ble_eq_true rfl) ?_
      rintro _ _ ⟨rfl, rfl⟩
      refine p_iret dX11_fits_41 rfl ?_
      exact ⟨_, rfl, CQ.of hI9 hF hk9 (by unfold pa_fits; (repeat' split) <;> first | rfl | (exfalso; omega)) (by unfold pa_fits; (repeat' split) <;> first | rfl | (exfalso; omega)) (by decide)⟩
    · refine p_aload_n 11 dX11_fits_10 rfl rfl (by decide) ?_
      refine p_iconst 12 dX11_fits_11 ?_
      refine p_callV1i 0 15 dX11_fits_12 s_refuse lk_X11_73 mX11_refuse rfl rfl (by decide) (Nat.le_of_ble_eq_true rfl) ?_
      rintro _ _ ⟨rfl, rfl⟩
      refine p_iret dX11_fits_15 rfl ?_
      exact ⟨_, rfl, CQ.of hI hF (fun k _ => rfl) (by unfold pa_fits; (repeat' split) <;> first | rfl | (exfalso; omega)) (by unfold pa_fits; (repeat' split) <;> first | rfl | (exfalso; omega)) (by decide)⟩
theorem c_could {l : Launch} {X : ZX} {M : ZM} (hI : IC M M) (hF : WF M)  : zCi l X 6 yX11_could tX11_could [zr 0] M (CQ M (pa_could (M 124 14) (M 127))) := by
  obtain ⟨hW, ⟨c, c', hcc, hco, hsp, hC⟩, ⟨j1, j2, j3, j4, j5⟩, hN, hpast, hten, ⟨hz0, hsea⟩, hfit⟩ := id hI
  have hR := hF.r
  have hT := hF.t
  have hh := hF.h
  have e0 : M 127 0 = (q_n (M 127) 0 : Int) := hR.n (by decide)
  have e2 : M 127 2 = (q_n (M 127) 2 : Int) := hR.n (by decide)
  have e3 : M 127 3 = (q_n (M 127) 3 : Int) := hR.n (by decide)
  have e4 : M 127 4 = (q_n (M 127) 4 : Int) := hR.n (by decide)
  have bR := hR.2.1
  have h20 : M 124 14 = 0 → M 127 2 = 0 := fun h => hF.r0 h 2 (by decide)
  have h30 : M 124 14 = 0 → M 127 3 = 0 := fun h => hF.r0 h 3 (by decide)
  have h40 : M 124 14 = 0 → M 127 4 = 0 := fun h => hF.r0 h 4 (by decide)
  have hwo : M 49 3 = M 129 16 := hN.2.2.2.1
  have t160 := hT.1 16 (by decide)
  have t161 := hT.2.2.2.2.1
  refine zC.of [some (zr 0)] (by decide +kernel) rfl rfl (Nat.le_of_ble_eq_true rfl) rfl ?_
  rcases hcc with ⟨rfl, rfl⟩ | ⟨rfl, rfl⟩
  · have hto : M 2 0 = M 124 14 := hC.1.1
    have hla : M 2 1 = M 127 0 := hC.1.2.1
    have hsn : M 2 2 = M 127 1 := hC.1.2.2.1
    have hcs : M 3 0 = M 127 2 := hC.1.2.2.2.1
    have hca : M 8 0 = M 127 3 := hC.1.2.2.2.2.1
    have hcw : M 13 0 = M 127 4 := hC.1.2.2.2.2.2.1
    have hcb : M 13 1 = M 127 5 := hC.1.2.2.2.2.2.2.1
    have hcor : M 19 0 = M 127 6 := hC.1.2.2.2.2.2.2.2.1
    have hcn : M 19 4 = M 127 7 := hC.1.2.2.2.2.2.2.2.2
    have e6 : M 127 6 = (q_n (M 127) 6 : Int) := hR.n (by decide)
    have b6 := bR.2.2.2.2.2.2.1
    have e7 : M 127 7 = (q_n (M 127) 7 : Int) := hR.n (by decide)
    have b7 := bR.2.2.2.2.2.2.2
    have hp6 := p6 (n := q_n (M 127) 6) (by omega)
    have hp0 : 0 < 2 ^ q_n (M 127) 6 := Nat.two_pow_pos _
    refine p_aload_n 1 dX11_could_0 rfl rfl (by decide) ?_
    refine p_getR 0 4 dX11_could_1 fX11_16 rfl hco ?_
    refine p_getI 2 7 dX11_could_4 fX11_114 rfl ?_
    rw [hto]
    refine p_if_ne 16 10 dX11_could_7 (by omega) (by omega) (fun h7 => ?_) (fun h7 => ?_)
    · have h1 : M 124 14 = 1 := by omega
      have hR1 := hF.r1 h1
      refine p_aload_n 17 dX11_could_16 rfl rfl (by decide) ?_
      refine p_getR 0 20 dX11_could_17 fX11_61 rfl (hW (0, 12, 121) (by decide)) ?_
      refine p_aload_n 21 dX11_could_20 rfl rfl (by decide) ?_
      refine p_getR 0 24 dX11_could_21 fX11_16 rfl hco ?_
      refine p_getR 2 27 dX11_could_24 fX11_273 rfl (hW (2, 6, 19) (by decide)) ?_
      refine p_callV1v 121 30 dX11_could_27 (s_learnF (Or.inl rfl : isC 2) hW hC hR hfit) lk_X11_277 mX1_learn rfl rfl (by decide) (Nat.le_of_ble_eq_true rfl) ?_
      intro M9 h9
      obtain ⟨g1, g2, g3, g4⟩ := h9
      have hI9 : IC M M9 := hI.learnF hF g1 g2 g3 g4
      have hk9 : ∀ k, 124 ≤ k → M9 k = M k := fun k hk => g1 k (by omega)
      have hW := hI9.1
      refine p_aload_n 31 dX11_could_30 rfl rfl (by decide) ?_
      refine p_aload_n 32 dX11_could_31 rfl rfl (by decide) ?_
      refine p_getR 0 35 dX11_could_32 fX11_61 rfl (hW (0, 12, 121) (by decide)) ?_
      refine p_getI 121 38 dX11_could_35 fX11_281 rfl ?_
      rw [g4.2.1]
      refine p_callV1i 0 41 dX11_could_38 s_grant lk_X11_108 mX11_grant rfl rfl (by decide) (Nat.le_of_ble_eq_true rfl) ?_
      rintro _ _ ⟨rfl, rfl⟩
      refine p_iret dX11_could_41 rfl ?_
      exact ⟨_, rfl, CQ.of hI9 hF hk9 (by unfold pa_could; (repeat' split) <;> first | rfl | (exfalso; omega)) (by unfold pa_could; (repeat' split) <;> first | rfl | (exfalso; omega)) (by decide)⟩
    · refine p_aload_n 11 dX11_could_10 rfl rfl (by decide) ?_
      refine p_iconst 12 dX11_could_11 ?_
      refine p_callV1i 0 15 dX11_could_12 s_refuse lk_X11_73 mX11_refuse rfl rfl (by decide) (Nat.le_of_ble_eq_true rfl) ?_
      rintro _ _ ⟨rfl, rfl⟩
      refine p_iret dX11_could_15 rfl ?_
      exact ⟨_, rfl, CQ.of hI hF (fun k _ => rfl) (by unfold pa_could; (repeat' split) <;> first | rfl | (exfalso; omega)) (by unfold pa_could; (repeat' split) <;> first | rfl | (exfalso; omega)) (by decide)⟩
  · have hto : M 25 0 = M 124 14 := hC.1.1
    have hla : M 25 1 = M 127 0 := hC.1.2.1
    have hsn : M 25 2 = M 127 1 := hC.1.2.2.1
    have hcs : M 26 0 = M 127 2 := hC.1.2.2.2.1
    have hca : M 31 0 = M 127 3 := hC.1.2.2.2.2.1
    have hcw : M 36 0 = M 127 4 := hC.1.2.2.2.2.2.1
    have hcb : M 36 1 = M 127 5 := hC.1.2.2.2.2.2.2.1
    have hcor : M 42 0 = M 127 6 := hC.1.2.2.2.2.2.2.2.1
    have hcn : M 42 4 = M 127 7 := hC.1.2.2.2.2.2.2.2.2
    have e6 : M 127 6 = (q_n (M 127) 6 : Int) := hR.n (by decide)
    have b6 := bR.2.2.2.2.2.2.1
    have e7 : M 127 7 = (q_n (M 127) 7 : Int) := hR.n (by decide)
    have b7 := bR.2.2.2.2.2.2.2
    have hp6 := p6 (n := q_n (M 127) 6) (by omega)
    have hp0 : 0 < 2 ^ q_n (M 127) 6 := Nat.two_pow_pos _
    refine p_aload_n 1 dX11_could_0 rfl rfl (by decide) ?_
    refine p_getR 0 4 dX11_could_1 fX11_16 rfl hco ?_
    refine p_getI 25 7 dX11_could_4 fX11_114 rfl ?_
    rw [hto]
    refine p_if_ne 16 10 dX11_could_7 (by omega) (by omega) (fun h7 => ?_) (fun h7 => ?_)
    · have h1 : M 124 14 = 1 := by omega
      have hR1 := hF.r1 h1
      refine p_aload_n 17 dX11_could_16 rfl rfl (by decide) ?_
      refine p_getR 0 20 dX11_could_17 fX11_61 rfl (hW (0, 12, 121) (by decide)) ?_
      refine p_aload_n 21 dX11_could_20 rfl rfl (by decide) ?_
      refine p_getR 0 24 dX11_could_21 fX11_16 rfl hco ?_
      refine p_getR 25 27 dX11_could_24 fX11_273 rfl (hW (25, 6, 42) (by decide)) ?_
      refine p_callV1v 121 30 dX11_could_27 (s_learnF (Or.inr rfl : isC 25) hW hC hR hfit) lk_X11_277 mX1_learn rfl rfl (by decide) (Nat.le_of_ble_eq_true rfl) ?_
      intro M9 h9
      obtain ⟨g1, g2, g3, g4⟩ := h9
      have hI9 : IC M M9 := hI.learnF hF g1 g2 g3 g4
      have hk9 : ∀ k, 124 ≤ k → M9 k = M k := fun k hk => g1 k (by omega)
      have hW := hI9.1
      refine p_aload_n 31 dX11_could_30 rfl rfl (by decide) ?_
      refine p_aload_n 32 dX11_could_31 rfl rfl (by decide) ?_
      refine p_getR 0 35 dX11_could_32 fX11_61 rfl (hW (0, 12, 121) (by decide)) ?_
      refine p_getI 121 38 dX11_could_35 fX11_281 rfl ?_
      rw [g4.2.1]
      refine p_callV1i 0 41 dX11_could_38 s_grant lk_X11_108 mX11_grant rfl rfl (by decide) (Nat.le_of_ble_eq_true rfl) ?_
      rintro _ _ ⟨rfl, rfl⟩
      refine p_iret dX11_could_41 rfl ?_
      exact ⟨_, rfl, CQ.of hI9 hF hk9 (by unfold pa_could; (repeat' split) <;> first | rfl | (exfalso; omega)) (by unfold pa_could; (repeat' split) <;> first | rfl | (exfalso; omega)) (by decide)⟩
    · refine p_aload_n 11 dX11_could_10 rfl rfl (by decide) ?_
      refine p_iconst 12 dX11_could_11 ?_
      refine p_callV1i 0 15 dX11_could_12 s_refuse lk_X11_73 mX11_refuse rfl rfl (by decide) (Nat.le_of_ble_eq_true rfl) ?_
      rintro _ _ ⟨rfl, rfl⟩
      refine p_iret dX11_could_15 rfl ?_
      exact ⟨_, rfl, CQ.of hI hF (fun k _ => rfl) (by unfold pa_could; (repeat' split) <;> first | rfl | (exfalso; omega)) (by unfold pa_could; (repeat' split) <;> first | rfl | (exfalso; omega)) (by decide)⟩
theorem c_surely {l : Launch} {X : ZX} {M : ZM} (hI : IC M M) (hF : WF M)  : zCi l X 6 yX11_surely tX11_surely [zr 0] M (CQ M (pa_surely (M 124 14) (M 127))) := by
  obtain ⟨hW, ⟨c, c', hcc, hco, hsp, hC⟩, ⟨j1, j2, j3, j4, j5⟩, hN, hpast, hten, ⟨hz0, hsea⟩, hfit⟩ := id hI
  have hR := hF.r
  have hT := hF.t
  have hh := hF.h
  have e0 : M 127 0 = (q_n (M 127) 0 : Int) := hR.n (by decide)
  have e2 : M 127 2 = (q_n (M 127) 2 : Int) := hR.n (by decide)
  have e3 : M 127 3 = (q_n (M 127) 3 : Int) := hR.n (by decide)
  have e4 : M 127 4 = (q_n (M 127) 4 : Int) := hR.n (by decide)
  have bR := hR.2.1
  have h20 : M 124 14 = 0 → M 127 2 = 0 := fun h => hF.r0 h 2 (by decide)
  have h30 : M 124 14 = 0 → M 127 3 = 0 := fun h => hF.r0 h 3 (by decide)
  have h40 : M 124 14 = 0 → M 127 4 = 0 := fun h => hF.r0 h 4 (by decide)
  have hwo : M 49 3 = M 129 16 := hN.2.2.2.1
  have t160 := hT.1 16 (by decide)
  have t161 := hT.2.2.2.2.1
  refine zC.of [some (zr 0)] (by decide +kernel) rfl rfl (Nat.le_of_ble_eq_true rfl) rfl ?_
  rcases hcc with ⟨rfl, rfl⟩ | ⟨rfl, rfl⟩
  · have hto : M 2 0 = M 124 14 := hC.1.1
    have hla : M 2 1 = M 127 0 := hC.1.2.1
    have hsn : M 2 2 = M 127 1 := hC.1.2.2.1
    have hcs : M 3 0 = M 127 2 := hC.1.2.2.2.1
    have hca : M 8 0 = M 127 3 := hC.1.2.2.2.2.1
    have hcw : M 13 0 = M 127 4 := hC.1.2.2.2.2.2.1
    have hcb : M 13 1 = M 127 5 := hC.1.2.2.2.2.2.2.1
    have hcor : M 19 0 = M 127 6 := hC.1.2.2.2.2.2.2.2.1
    have hcn : M 19 4 = M 127 7 := hC.1.2.2.2.2.2.2.2.2
    have e6 : M 127 6 = (q_n (M 127) 6 : Int) := hR.n (by decide)
    have b6 := bR.2.2.2.2.2.2.1
    have e7 : M 127 7 = (q_n (M 127) 7 : Int) := hR.n (by decide)
    have b7 := bR.2.2.2.2.2.2.2
    have hp6 := p6 (n := q_n (M 127) 6) (by omega)
    have hp0 : 0 < 2 ^ q_n (M 127) 6 := Nat.two_pow_pos _
    refine p_aload_n 1 dX11_surely_0 rfl rfl (by decide) ?_
    refine p_getR 0 4 dX11_surely_1 fX11_16 rfl hco ?_
    refine p_getI 2 7 dX11_surely_4 fX11_114 rfl ?_
    rw [hto]
    refine p_if_ne 16 10 dX11_surely_7 (by omega) (by omega) (fun h7 => ?_) (fun h7 => ?_)
    · have h1 : M 124 14 = 1 := by omega
      have hR1 := hF.r1 h1
      refine p_aload_n 17 dX11_surely_16 rfl rfl (by decide) ?_
      refine p_getR 0 20 dX11_surely_17 fX11_61 rfl (hW (0, 12, 121) (by decide)) ?_
      refine p_aload_n 21 dX11_surely_20 rfl rfl (by decide) ?_
      refine p_getR 0 24 dX11_surely_21 fX11_16 rfl hco ?_
      refine p_getR 2 27 dX11_surely_24 fX11_273 rfl (hW (2, 6, 19) (by decide)) ?_
      refine p_callV1v 121 30 dX11_surely_27 (s_learnF (Or.inl rfl : isC 2) hW hC hR hfit) lk_X11_277 mX1_learn rfl rfl (by decide) (Nat.le_of_ble_eq_true rfl) ?_
      intro M9 h9
      obtain ⟨g1, g2, g3, g4⟩ := h9
      have hI9 : IC M M9 := hI.learnF hF g1 g2 g3 g4
      have hk9 : ∀ k, 124 ≤ k → M9 k = M k := fun k hk => g1 k (by omega)
      have hW := hI9.1
      refine p_aload_n 31 dX11_surely_30 rfl rfl (by decide) ?_
      refine p_aload_n 32 dX11_surely_31 rfl rfl (by decide) ?_
      refine p_getR 0 35 dX11_surely_32 fX11_61 rfl (hW (0, 12, 121) (by decide)) ?_
      refine p_getI 121 38 dX11_surely_35 fX11_284 rfl ?_
      rw [g4.2.2.1]
      refine p_callV1i 0 41 dX11_surely_38 s_grant lk_X11_108 mX11_grant rfl rfl (by decide) (Nat.le_of_ble_eq_true rfl) ?_
      rintro _ _ ⟨rfl, rfl⟩
      refine p_iret dX11_surely_41 rfl ?_
      exact ⟨_, rfl, CQ.of hI9 hF hk9 (by unfold pa_surely; (repeat' split) <;> first | rfl | (exfalso; omega)) (by unfold pa_surely; (repeat' split) <;> first | rfl | (exfalso; omega)) (by decide)⟩
    · refine p_aload_n 11 dX11_surely_10 rfl rfl (by decide) ?_
      refine p_iconst 12 dX11_surely_11 ?_
      refine p_callV1i 0 15 dX11_surely_12 s_refuse lk_X11_73 mX11_refuse rfl rfl (by decide) (Nat.le_of_ble_eq_true rfl) ?_
      rintro _ _ ⟨rfl, rfl⟩
      refine p_iret dX11_surely_15 rfl ?_
      exact ⟨_, rfl, CQ.of hI hF (fun k _ => rfl) (by unfold pa_surely; (repeat' split) <;> first | rfl | (exfalso; omega)) (by unfold pa_surely; (repeat' split) <;> first | rfl | (exfalso; omega)) (by decide)⟩
  · have hto : M 25 0 = M 124 14 := hC.1.1
    have hla : M 25 1 = M 127 0 := hC.1.2.1
    have hsn : M 25 2 = M 127 1 := hC.1.2.2.1
    have hcs : M 26 0 = M 127 2 := hC.1.2.2.2.1
    have hca : M 31 0 = M 127 3 := hC.1.2.2.2.2.1
    have hcw : M 36 0 = M 127 4 := hC.1.2.2.2.2.2.1
    have hcb : M 36 1 = M 127 5 := hC.1.2.2.2.2.2.2.1
    have hcor : M 42 0 = M 127 6 := hC.1.2.2.2.2.2.2.2.1
    have hcn : M 42 4 = M 127 7 := hC.1.2.2.2.2.2.2.2.2
    have e6 : M 127 6 = (q_n (M 127) 6 : Int) := hR.n (by decide)
    have b6 := bR.2.2.2.2.2.2.1
    have e7 : M 127 7 = (q_n (M 127) 7 : Int) := hR.n (by decide)
    have b7 := bR.2.2.2.2.2.2.2
    have hp6 := p6 (n := q_n (M 127) 6) (by omega)
    have hp0 : 0 < 2 ^ q_n (M 127) 6 := Nat.two_pow_pos _
    refine p_aload_n 1 dX11_surely_0 rfl rfl (by decide) ?_
    refine p_getR 0 4 dX11_surely_1 fX11_16 rfl hco ?_
    refine p_getI 25 7 dX11_surely_4 fX11_114 rfl ?_
    rw [hto]
    refine p_if_ne 16 10 dX11_surely_7 (by omega) (by omega) (fun h7 => ?_) (fun h7 => ?_)
    · have h1 : M 124 14 = 1 := by omega
      have hR1 := hF.r1 h1
      refine p_aload_n 17 dX11_surely_16 rfl rfl (by decide) ?_
      refine p_getR 0 20 dX11_surely_17 fX11_61 rfl (hW (0, 12, 121) (by decide)) ?_
      refine p_aload_n 21 dX11_surely_20 rfl rfl (by decide) ?_
      refine p_getR 0 24 dX11_surely_21 fX11_16 rfl hco ?_
      refine p_getR 25 27 dX11_surely_24 fX11_273 rfl (hW (25, 6, 42) (by decide)) ?_
      refine p_callV1v 121 30 dX11_surely_27 (s_learnF (Or.inr rfl : isC 25) hW hC hR hfit) lk_X11_277 mX1_learn rfl rfl (by decide) (Nat.le_of_ble_eq_true rfl) ?_
      intro M9 h9
      obtain ⟨g1, g2, g3, g4⟩ := h9
      have hI9 : IC M M9 := hI.learnF hF g1 g2 g3 g4
      have hk9 : ∀ k, 124 ≤ k → M9 k = M k := fun k hk => g1 k (by omega)
      have hW := hI9.1
      refine p_aload_n 31 dX11_surely_30 rfl rfl (by decide) ?_
      refine p_aload_n 32 dX11_surely_31 rfl rfl (by decide) ?_
      refine p_getR 0 35 dX11_surely_32 fX11_61 rfl (hW (0, 12, 121) (by decide)) ?_
      refine p_getI 121 38 dX11_surely_35 fX11_284 rfl ?_
      rw [g4.2.2.1]
      refine p_callV1i 0 41 dX11_surely_38 s_grant lk_X11_108 mX11_grant rfl rfl (by decide) (Nat.le_of_ble_eq_true rfl) ?_
      rintro _ _ ⟨rfl, rfl⟩
      refine p_iret dX11_surely_41 rfl ?_
      exact ⟨_, rfl, CQ.of hI9 hF hk9 (by unfold pa_surely; (repeat' split) <;> first | rfl | (exfalso; omega)) (by unfold pa_surely; (repeat' split) <;> first | rfl | (exfalso; omega)) (by decide)⟩
    · refine p_aload_n 11 dX11_surely_10 rfl rfl (by decide) ?_
      refine p_iconst 12 dX11_surely_11 ?_
      refine p_callV1i 0 15 dX11_surely_12 s_refuse lk_X11_73 mX11_refuse rfl rfl (by decide) (Nat.le_of_ble_eq_true rfl) ?_
      rintro _ _ ⟨rfl, rfl⟩
      refine p_iret dX11_surely_15 rfl ?_
      exact ⟨_, rfl, CQ.of hI hF (fun k _ => rfl) (by unfold pa_surely; (repeat' split) <;> first | rfl | (exfalso; omega)) (by unfold pa_surely; (repeat' split) <;> first | rfl | (exfalso; omega)) (by decide)⟩
theorem c_ask {l : Launch} {X : ZX} {M : ZM} (hI : IC M M) (hF : WF M)  : zCi l X 6 yX11_ask tX11_ask [zr 0] M (CQ M (pa_ask (M 124 14) (M 127))) := by
  obtain ⟨hW, ⟨c, c', hcc, hco, hsp, hC⟩, ⟨j1, j2, j3, j4, j5⟩, hN, hpast, hten, ⟨hz0, hsea⟩, hfit⟩ := id hI
  have hR := hF.r
  have hT := hF.t
  have hh := hF.h
  have e0 : M 127 0 = (q_n (M 127) 0 : Int) := hR.n (by decide)
  have e2 : M 127 2 = (q_n (M 127) 2 : Int) := hR.n (by decide)
  have e3 : M 127 3 = (q_n (M 127) 3 : Int) := hR.n (by decide)
  have e4 : M 127 4 = (q_n (M 127) 4 : Int) := hR.n (by decide)
  have bR := hR.2.1
  have h20 : M 124 14 = 0 → M 127 2 = 0 := fun h => hF.r0 h 2 (by decide)
  have h30 : M 124 14 = 0 → M 127 3 = 0 := fun h => hF.r0 h 3 (by decide)
  have h40 : M 124 14 = 0 → M 127 4 = 0 := fun h => hF.r0 h 4 (by decide)
  have hwo : M 49 3 = M 129 16 := hN.2.2.2.1
  have t160 := hT.1 16 (by decide)
  have t161 := hT.2.2.2.2.1
  refine zC.of [some (zr 0)] (by decide +kernel) rfl rfl (Nat.le_of_ble_eq_true rfl) rfl ?_
  rcases hcc with ⟨rfl, rfl⟩ | ⟨rfl, rfl⟩
  · have hto : M 2 0 = M 124 14 := hC.1.1
    have hla : M 2 1 = M 127 0 := hC.1.2.1
    have hsn : M 2 2 = M 127 1 := hC.1.2.2.1
    have hcs : M 3 0 = M 127 2 := hC.1.2.2.2.1
    have hca : M 8 0 = M 127 3 := hC.1.2.2.2.2.1
    have hcw : M 13 0 = M 127 4 := hC.1.2.2.2.2.2.1
    have hcb : M 13 1 = M 127 5 := hC.1.2.2.2.2.2.2.1
    have hcor : M 19 0 = M 127 6 := hC.1.2.2.2.2.2.2.2.1
    have hcn : M 19 4 = M 127 7 := hC.1.2.2.2.2.2.2.2.2
    have e6 : M 127 6 = (q_n (M 127) 6 : Int) := hR.n (by decide)
    have b6 := bR.2.2.2.2.2.2.1
    have e7 : M 127 7 = (q_n (M 127) 7 : Int) := hR.n (by decide)
    have b7 := bR.2.2.2.2.2.2.2
    have hp6 := p6 (n := q_n (M 127) 6) (by omega)
    have hp0 : 0 < 2 ^ q_n (M 127) 6 := Nat.two_pow_pos _
    refine p_aload_n 1 dX11_ask_0 rfl rfl (by decide) ?_
    refine p_getR 0 4 dX11_ask_1 fX11_16 rfl hco ?_
    refine p_getI 2 7 dX11_ask_4 fX11_114 rfl ?_
    rw [hto]
    refine p_if_ne 16 10 dX11_ask_7 (by omega) (by omega) (fun h7 => ?_) (fun h7 => ?_)
    · have h1 : M 124 14 = 1 := by omega
      have hR1 := hF.r1 h1
      refine p_aload_n 17 dX11_ask_16 rfl rfl (by decide) ?_
      refine p_getR 0 20 dX11_ask_17 fX11_61 rfl (hW (0, 12, 121) (by decide)) ?_
      refine p_aload_n 21 dX11_ask_20 rfl rfl (by decide) ?_
      refine p_getR 0 24 dX11_ask_21 fX11_16 rfl hco ?_
      refine p_getR 2 27 dX11_ask_24 fX11_273 rfl (hW (2, 6, 19) (by decide)) ?_
      refine p_callV1v 121 30 dX11_ask_27 (s_learnF (Or.inl rfl : isC 2) hW hC hR hfit) lk_X11_277 mX1_learn rfl rfl (by decide) (Nat.le_of_ble_eq_true rfl) ?_
      intro M9 h9
      obtain ⟨g1, g2, g3, g4⟩ := h9
      have hI9 : IC M M9 := hI.learnF hF g1 g2 g3 g4
      have hk9 : ∀ k, 124 ≤ k → M9 k = M k := fun k hk => g1 k (by omega)
      have hW := hI9.1
      refine p_aload_n 31 dX11_ask_30 rfl rfl (by decide) ?_
      refine p_aload_n 32 dX11_ask_31 rfl rfl (by decide) ?_
      refine p_getR 0 35 dX11_ask_32 fX11_61 rfl (hW (0, 12, 121) (by decide)) ?_
      refine p_getI 121 38 dX11_ask_35 fX11_287 rfl ?_
      rw [g4.2.2.2.1]
      refine p_callV1i 0 41 dX11_ask_38 s_grant lk_X11_108 mX11_grant rfl rfl (by decide) (Nat.le_of_ble_eq_true rfl) ?_
      rintro _ _ ⟨rfl, rfl⟩
      refine p_iret dX11_ask_41 rfl ?_
      exact ⟨_, rfl, CQ.of hI9 hF hk9 (by unfold pa_ask; (repeat' split) <;> first | rfl | (exfalso; omega)) (by unfold pa_ask; (repeat' split) <;> first | rfl | (exfalso; omega)) (by decide)⟩
    · refine p_aload_n 11 dX11_ask_10 rfl rfl (by decide) ?_
      refine p_iconst 12 dX11_ask_11 ?_
      refine p_callV1i 0 15 dX11_ask_12 s_refuse lk_X11_73 mX11_refuse rfl rfl (by decide) (Nat.le_of_ble_eq_true rfl) ?_
      rintro _ _ ⟨rfl, rfl⟩
      refine p_iret dX11_ask_15 rfl ?_
      exact ⟨_, rfl, CQ.of hI hF (fun k _ => rfl) (by unfold pa_ask; (repeat' split) <;> first | rfl | (exfalso; omega)) (by unfold pa_ask; (repeat' split) <;> first | rfl | (exfalso; omega)) (by decide)⟩
  · have hto : M 25 0 = M 124 14 := hC.1.1
    have hla : M 25 1 = M 127 0 := hC.1.2.1
    have hsn : M 25 2 = M 127 1 := hC.1.2.2.1
    have hcs : M 26 0 = M 127 2 := hC.1.2.2.2.1
    have hca : M 31 0 = M 127 3 := hC.1.2.2.2.2.1
    have hcw : M 36 0 = M 127 4 := hC.1.2.2.2.2.2.1
    have hcb : M 36 1 = M 127 5 := hC.1.2.2.2.2.2.2.1
    have hcor : M 42 0 = M 127 6 := hC.1.2.2.2.2.2.2.2.1
    have hcn : M 42 4 = M 127 7 := hC.1.2.2.2.2.2.2.2.2
    have e6 : M 127 6 = (q_n (M 127) 6 : Int) := hR.n (by decide)
    have b6 := bR.2.2.2.2.2.2.1
    have e7 : M 127 7 = (q_n (M 127) 7 : Int) := hR.n (by decide)
    have b7 := bR.2.2.2.2.2.2.2
    have hp6 := p6 (n := q_n (M 127) 6) (by omega)
    have hp0 : 0 < 2 ^ q_n (M 127) 6 := Nat.two_pow_pos _
    refine p_aload_n 1 dX11_ask_0 rfl rfl (by decide) ?_
    refine p_getR 0 4 dX11_ask_1 fX11_16 rfl hco ?_
    refine p_getI 25 7 dX11_ask_4 fX11_114 rfl ?_
    rw [hto]
    refine p_if_ne 16 10 dX11_ask_7 (by omega) (by omega) (fun h7 => ?_) (fun h7 => ?_)
    · have h1 : M 124 14 = 1 := by omega
      have hR1 := hF.r1 h1
      refine p_aload_n 17 dX11_ask_16 rfl rfl (by decide) ?_
      refine p_getR 0 20 dX11_ask_17 fX11_61 rfl (hW (0, 12, 121) (by decide)) ?_
      refine p_aload_n 21 dX11_ask_20 rfl rfl (by decide) ?_
      refine p_getR 0 24 dX11_ask_21 fX11_16 rfl hco ?_
      refine p_getR 25 27 dX11_ask_24 fX11_273 rfl (hW (25, 6, 42) (by decide)) ?_
      refine p_callV1v 121 30 dX11_ask_27 (s_learnF (Or.inr rfl : isC 25) hW hC hR hfit) lk_X11_277 mX1_learn rfl rfl (by decide) (Nat.le_of_ble_eq_true rfl) ?_
      intro M9 h9
      obtain ⟨g1, g2, g3, g4⟩ := h9
      have hI9 : IC M M9 := hI.learnF hF g1 g2 g3 g4
      have hk9 : ∀ k, 124 ≤ k → M9 k = M k := fun k hk => g1 k (by omega)
      have hW := hI9.1
      refine p_aload_n 31 dX11_ask_30 rfl rfl (by decide) ?_
      refine p_aload_n 32 dX11_ask_31 rfl rfl (by decide) ?_
      refine p_getR 0 35 dX11_ask_32 fX11_61 rfl (hW (0, 12, 121) (by decide)) ?_
      refine p_getI 121 38 dX11_ask_35 fX11_287 rfl ?_
      rw [g4.2.2.2.1]
      refine p_callV1i 0 41 dX11_ask_38 s_grant lk_X11_108 mX11_grant rfl rfl (by decide) (Nat.le_of_ble_eq_true rfl) ?_
      rintro _ _ ⟨rfl, rfl⟩
      refine p_iret dX11_ask_41 rfl ?_
      exact ⟨_, rfl, CQ.of hI9 hF hk9 (by unfold pa_ask; (repeat' split) <;> first | rfl | (exfalso; omega)) (by unfold pa_ask; (repeat' split) <;> first | rfl | (exfalso; omega)) (by decide)⟩
    · refine p_aload_n 11 dX11_ask_10 rfl rfl (by decide) ?_
      refine p_iconst 12 dX11_ask_11 ?_
      refine p_callV1i 0 15 dX11_ask_12 s_refuse lk_X11_73 mX11_refuse rfl rfl (by decide) (Nat.le_of_ble_eq_true rfl) ?_
      rintro _ _ ⟨rfl, rfl⟩
      refine p_iret dX11_ask_15 rfl ?_
      exact ⟨_, rfl, CQ.of hI hF (fun k _ => rfl) (by unfold pa_ask; (repeat' split) <;> first | rfl | (exfalso; omega)) (by unfold pa_ask; (repeat' split) <;> first | rfl | (exfalso; omega)) (by decide)⟩
theorem c_askLeaves {l : Launch} {X : ZX} {M : ZM} (hI : IC M M) (hF : WF M)  : zCi l X 6 yX11_askLeaves tX11_askLeaves [zr 0] M (CQ M (pa_askLeaves (M 124 14) (M 127))) := by
  obtain ⟨hW, ⟨c, c', hcc, hco, hsp, hC⟩, ⟨j1, j2, j3, j4, j5⟩, hN, hpast, hten, ⟨hz0, hsea⟩, hfit⟩ := id hI
  have hR := hF.r
  have hT := hF.t
  have hh := hF.h
  have e0 : M 127 0 = (q_n (M 127) 0 : Int) := hR.n (by decide)
  have e2 : M 127 2 = (q_n (M 127) 2 : Int) := hR.n (by decide)
  have e3 : M 127 3 = (q_n (M 127) 3 : Int) := hR.n (by decide)
  have e4 : M 127 4 = (q_n (M 127) 4 : Int) := hR.n (by decide)
  have bR := hR.2.1
  have h20 : M 124 14 = 0 → M 127 2 = 0 := fun h => hF.r0 h 2 (by decide)
  have h30 : M 124 14 = 0 → M 127 3 = 0 := fun h => hF.r0 h 3 (by decide)
  have h40 : M 124 14 = 0 → M 127 4 = 0 := fun h => hF.r0 h 4 (by decide)
  have hwo : M 49 3 = M 129 16 := hN.2.2.2.1
  have t160 := hT.1 16 (by decide)
  have t161 := hT.2.2.2.2.1
  refine zC.of [some (zr 0)] (by decide +kernel) rfl rfl (Nat.le_of_ble_eq_true rfl) rfl ?_
  rcases hcc with ⟨rfl, rfl⟩ | ⟨rfl, rfl⟩
  · have hto : M 2 0 = M 124 14 := hC.1.1
    have hla : M 2 1 = M 127 0 := hC.1.2.1
    have hsn : M 2 2 = M 127 1 := hC.1.2.2.1
    have hcs : M 3 0 = M 127 2 := hC.1.2.2.2.1
    have hca : M 8 0 = M 127 3 := hC.1.2.2.2.2.1
    have hcw : M 13 0 = M 127 4 := hC.1.2.2.2.2.2.1
    have hcb : M 13 1 = M 127 5 := hC.1.2.2.2.2.2.2.1
    have hcor : M 19 0 = M 127 6 := hC.1.2.2.2.2.2.2.2.1
    have hcn : M 19 4 = M 127 7 := hC.1.2.2.2.2.2.2.2.2
    have e6 : M 127 6 = (q_n (M 127) 6 : Int) := hR.n (by decide)
    have b6 := bR.2.2.2.2.2.2.1
    have e7 : M 127 7 = (q_n (M 127) 7 : Int) := hR.n (by decide)
    have b7 := bR.2.2.2.2.2.2.2
    have hp6 := p6 (n := q_n (M 127) 6) (by omega)
    have hp0 : 0 < 2 ^ q_n (M 127) 6 := Nat.two_pow_pos _
    refine p_aload_n 1 dX11_askLeaves_0 rfl rfl (by decide) ?_
    refine p_getR 0 4 dX11_askLeaves_1 fX11_16 rfl hco ?_
    refine p_getI 2 7 dX11_askLeaves_4 fX11_114 rfl ?_
    rw [hto]
    refine p_if_ne 16 10 dX11_askLeaves_7 (by omega) (by omega) (fun h7 => ?_) (fun h7 => ?_)
    · have h1 : M 124 14 = 1 := by omega
      have hR1 := hF.r1 h1
      refine p_aload_n 17 dX11_askLeaves_16 rfl rfl (by decide) ?_
      refine p_getR 0 20 dX11_askLeaves_17 fX11_61 rfl (hW (0, 12, 121) (by decide)) ?_
      refine p_aload_n 21 dX11_askLeaves_20 rfl rfl (by decide) ?_
      refine p_getR 0 24 dX11_askLeaves_21 fX11_16 rfl hco ?_
      refine p_getR 2 27 dX11_askLeaves_24 fX11_273 rfl (hW (2, 6, 19) (by decide)) ?_
      refine p_callV1v 121 30 dX11_askLeaves_27 (s_learnF (Or.inl rfl : isC 2) hW hC hR hfit) lk_X11_277 mX1_learn rfl rfl (by decide) (Nat.le_of_ble_eq_true rfl) ?_
      intro M9 h9
      obtain ⟨g1, g2, g3, g4⟩ := h9
      have hI9 : IC M M9 := hI.learnF hF g1 g2 g3 g4
      have hk9 : ∀ k, 124 ≤ k → M9 k = M k := fun k hk => g1 k (by omega)
      have hW := hI9.1
      refine p_aload_n 31 dX11_askLeaves_30 rfl rfl (by decide) ?_
      refine p_aload_n 32 dX11_askLeaves_31 rfl rfl (by decide) ?_
      refine p_getR 0 35 dX11_askLeaves_32 fX11_61 rfl (hW (0, 12, 121) (by decide)) ?_
      refine p_getI 121 38 dX11_askLeaves_35 fX11_290 rfl ?_
      rw [g4.2.2.2.2]
      refine p_callV1i 0 41 dX11_askLeaves_38 s_grant lk_X11_108 mX11_grant rfl rfl (by decide) (Nat.le_of_ble_eq_true rfl) ?_
      rintro _ _ ⟨rfl, rfl⟩
      refine p_iret dX11_askLeaves_41 rfl ?_
      exact ⟨_, rfl, CQ.of hI9 hF hk9 (by unfold pa_askLeaves; (repeat' split) <;> first | rfl | (exfalso; omega)) (by unfold pa_askLeaves; (repeat' split) <;> first | rfl | (exfalso; omega)) (by decide)⟩
    · refine p_aload_n 11 dX11_askLeaves_10 rfl rfl (by decide) ?_
      refine p_iconst 12 dX11_askLeaves_11 ?_
      refine p_callV1i 0 15 dX11_askLeaves_12 s_refuse lk_X11_73 mX11_refuse rfl rfl (by decide) (Nat.le_of_ble_eq_true rfl) ?_
      rintro _ _ ⟨rfl, rfl⟩
      refine p_iret dX11_askLeaves_15 rfl ?_
      exact ⟨_, rfl, CQ.of hI hF (fun k _ => rfl) (by unfold pa_askLeaves; (repeat' split) <;> first | rfl | (exfalso; omega)) (by unfold pa_askLeaves; (repeat' split) <;> first | rfl | (exfalso; omega)) (by decide)⟩
  · have hto : M 25 0 = M 124 14 := hC.1.1
    have hla : M 25 1 = M 127 0 := hC.1.2.1
    have hsn : M 25 2 = M 127 1 := hC.1.2.2.1
    have hcs : M 26 0 = M 127 2 := hC.1.2.2.2.1
    have hca : M 31 0 = M 127 3 := hC.1.2.2.2.2.1
    have hcw : M 36 0 = M 127 4 := hC.1.2.2.2.2.2.1
    have hcb : M 36 1 = M 127 5 := hC.1.2.2.2.2.2.2.1
    have hcor : M 42 0 = M 127 6 := hC.1.2.2.2.2.2.2.2.1
    have hcn : M 42 4 = M 127 7 := hC.1.2.2.2.2.2.2.2.2
    have e6 : M 127 6 = (q_n (M 127) 6 : Int) := hR.n (by decide)
    have b6 := bR.2.2.2.2.2.2.1
    have e7 : M 127 7 = (q_n (M 127) 7 : Int) := hR.n (by decide)
    have b7 := bR.2.2.2.2.2.2.2
    have hp6 := p6 (n := q_n (M 127) 6) (by omega)
    have hp0 : 0 < 2 ^ q_n (M 127) 6 := Nat.two_pow_pos _
    refine p_aload_n 1 dX11_askLeaves_0 rfl rfl (by decide) ?_
    refine p_getR 0 4 dX11_askLeaves_1 fX11_16 rfl hco ?_
    refine p_getI 25 7 dX11_askLeaves_4 fX11_114 rfl ?_
    rw [hto]
    refine p_if_ne 16 10 dX11_askLeaves_7 (by omega) (by omega) (fun h7 => ?_) (fun h7 => ?_)
    · have h1 : M 124 14 = 1 := by omega
      have hR1 := hF.r1 h1
      refine p_aload_n 17 dX11_askLeaves_16 rfl rfl (by decide) ?_
      refine p_getR 0 20 dX11_askLeaves_17 fX11_61 rfl (hW (0, 12, 121) (by decide)) ?_
      refine p_aload_n 21 dX11_askLeaves_20 rfl rfl (by decide) ?_
      refine p_getR 0 24 dX11_askLeaves_21 fX11_16 rfl hco ?_
      refine p_getR 25 27 dX11_askLeaves_24 fX11_273 rfl (hW (25, 6, 42) (by decide)) ?_
      refine p_callV1v 121 30 dX11_askLeaves_27 (s_learnF (Or.inr rfl : isC 25) hW hC hR hfit) lk_X11_277 mX1_learn rfl rfl (by decide) (Nat.le_of_ble_eq_true rfl) ?_
      intro M9 h9
      obtain ⟨g1, g2, g3, g4⟩ := h9
      have hI9 : IC M M9 := hI.learnF hF g1 g2 g3 g4
      have hk9 : ∀ k, 124 ≤ k → M9 k = M k := fun k hk => g1 k (by omega)
      have hW := hI9.1
      refine p_aload_n 31 dX11_askLeaves_30 rfl rfl (by decide) ?_
      refine p_aload_n 32 dX11_askLeaves_31 rfl rfl (by decide) ?_
      refine p_getR 0 35 dX11_askLeaves_32 fX11_61 rfl (hW (0, 12, 121) (by decide)) ?_
      refine p_getI 121 38 dX11_askLeaves_35 fX11_290 rfl ?_
      rw [g4.2.2.2.2]
      refine p_callV1i 0 41 dX11_askLeaves_38 s_grant lk_X11_108 mX11_grant rfl rfl (by decide) (Nat.le_of_ble_eq_true rfl) ?_
      rintro _ _ ⟨rfl, rfl⟩
      refine p_iret dX11_askLeaves_41 rfl ?_
      exact ⟨_, rfl, CQ.of hI9 hF hk9 (by unfold pa_askLeaves; (repeat' split) <;> first | rfl | (exfalso; omega)) (by unfold pa_askLeaves; (repeat' split) <;> first | rfl | (exfalso; omega)) (by decide)⟩
    · refine p_aload_n 11 dX11_askLeaves_10 rfl rfl (by decide) ?_
      refine p_iconst 12 dX11_askLeaves_11 ?_
      refine p_callV1i 0 15 dX11_askLeaves_12 s_refuse lk_X11_73 mX11_refuse rfl rfl (by decide) (Nat.le_of_ble_eq_true rfl) ?_
      rintro _ _ ⟨rfl, rfl⟩
      refine p_iret dX11_askLeaves_15 rfl ?_
      exact ⟨_, rfl, CQ.of hI hF (fun k _ => rfl) (by unfold pa_askLeaves; (repeat' split) <;> first | rfl | (exfalso; omega)) (by unfold pa_askLeaves; (repeat' split) <;> first | rfl | (exfalso; omega)) (by decide)⟩
theorem c_judge {l : Launch} {X : ZX} {M : ZM} (hI : IC M M) (hF : WF M)  : zCi l X 4 yX11_judge tX11_judge [zr 0] M (CQ M (pa_judge (M 124 14) (M 127))) := by
  obtain ⟨hW, ⟨c, c', hcc, hco, hsp, hC⟩, ⟨j1, j2, j3, j4, j5⟩, hN, hpast, hten, ⟨hz0, hsea⟩, hfit⟩ := id hI
  have hR := hF.r
  have hT := hF.t
  have hh := hF.h
  have e0 : M 127 0 = (q_n (M 127) 0 : Int) := hR.n (by decide)
  have e2 : M 127 2 = (q_n (M 127) 2 : Int) := hR.n (by decide)
  have e3 : M 127 3 = (q_n (M 127) 3 : Int) := hR.n (by decide)
  have e4 : M 127 4 = (q_n (M 127) 4 : Int) := hR.n (by decide)
  have bR := hR.2.1
  have h20 : M 124 14 = 0 → M 127 2 = 0 := fun h => hF.r0 h 2 (by decide)
  have h30 : M 124 14 = 0 → M 127 3 = 0 := fun h => hF.r0 h 3 (by decide)
  have h40 : M 124 14 = 0 → M 127 4 = 0 := fun h => hF.r0 h 4 (by decide)
  have hwo : M 49 3 = M 129 16 := hN.2.2.2.1
  have t160 := hT.1 16 (by decide)
  have t161 := hT.2.2.2.2.1
  refine zC.of [some (zr 0)] (by decide +kernel) rfl rfl (Nat.le_of_ble_eq_true rfl) rfl ?_
  rcases hcc with ⟨rfl, rfl⟩ | ⟨rfl, rfl⟩
  · have hto : M 2 0 = M 124 14 := hC.1.1
    have hla : M 2 1 = M 127 0 := hC.1.2.1
    have hsn : M 2 2 = M 127 1 := hC.1.2.2.1
    have hcs : M 3 0 = M 127 2 := hC.1.2.2.2.1
    have hca : M 8 0 = M 127 3 := hC.1.2.2.2.2.1
    have hcw : M 13 0 = M 127 4 := hC.1.2.2.2.2.2.1
    have hcb : M 13 1 = M 127 5 := hC.1.2.2.2.2.2.2.1
    have hcor : M 19 0 = M 127 6 := hC.1.2.2.2.2.2.2.2.1
    have hcn : M 19 4 = M 127 7 := hC.1.2.2.2.2.2.2.2.2
    have e6 : M 127 6 = (q_n (M 127) 6 : Int) := hR.n (by decide)
    have b6 := bR.2.2.2.2.2.2.1
    have e7 : M 127 7 = (q_n (M 127) 7 : Int) := hR.n (by decide)
    have b7 := bR.2.2.2.2.2.2.2
    have hp6 := p6 (n := q_n (M 127) 6) (by omega)
    have hp0 : 0 < 2 ^ q_n (M 127) 6 := Nat.two_pow_pos _
    refine p_aload_n 1 dX11_judge_0 rfl rfl (by decide) ?_
    refine p_getR 0 4 dX11_judge_1 fX11_16 rfl hco ?_
    refine p_getI 2 7 dX11_judge_4 fX11_114 rfl ?_
    rw [hto]
    refine p_if_ne 16 10 dX11_judge_7 (by omega) (by omega) (fun h7 => ?_) (fun h7 => ?_)
    · have h1 : M 124 14 = 1 := by omega
      have hR1 := hF.r1 h1
      refine p_aload_n 17 dX11_judge_16 rfl rfl (by decide) ?_
      refine p_aload_n 18 dX11_judge_17 rfl rfl (by decide) ?_
      refine p_getR 0 21 dX11_judge_18 fX11_16 rfl hco ?_
      refine p_getR 2 24 dX11_judge_21 fX11_273 rfl (hW (2, 6, 19) (by decide)) ?_
      refine p_aload_n 25 dX11_judge_24 rfl rfl (by decide) ?_
      refine p_getR 0 28 dX11_judge_25 fX11_16 rfl hco ?_
      refine p_getR 2 31 dX11_judge_28 fX11_273 rfl (hW (2, 6, 19) (by decide)) ?_
      refine p_getI 19 34 dX11_judge_31 fX11_293 rfl ?_
      rw [hcor, e6]
      refine p_callS1i 37 dX11_judge_34 (s_fullBits (n := q_n (M 127) 6) (by omega)) lk_X11_198 mX11_fullBits (by decide) (Nat.le_of_ble_eq_true rfl) ?_
      rintro _ _ ⟨rfl, e9⟩
      have e9 := e9.symm
      subst e9
      refine p_callV1i 19 40 dX11_judge_37 (s_firstUnlike (Or.inl rfl : isC 2) hW hC hR (S := 2 ^ q_n (M 127) 6 - 1) (by omega)) lk_X11_296 mX4_firstUnlike rfl rfl (by decide) (Nat.le_of_ble_eq_true rfl) ?_
      rintro _ _ ⟨rfl, e9⟩
      have e9 := e9.symm
      subst e9
      refine p_callV1i 0 43 dX11_judge_40 s_grant lk_X11_108 mX11_grant rfl rfl (by decide) (Nat.le_of_ble_eq_true rfl) ?_
      rintro _ _ ⟨rfl, rfl⟩
      refine p_iret dX11_judge_43 rfl ?_
      exact ⟨_, rfl, CQ.of hI hF (fun k _ => rfl) (by unfold pa_judge; (repeat' split) <;> first | rfl | (exfalso; omega)) (by unfold pa_judge; (repeat' split) <;> first | rfl | (exfalso; omega)) (by decide)⟩
    · refine p_aload_n 11 dX11_judge_10 rfl rfl (by decide) ?_
      refine p_iconst 12 dX11_judge_11 ?_
      refine p_callV1i 0 15 dX11_judge_12 s_refuse lk_X11_73 mX11_refuse rfl rfl (by decide) (Nat.le_of_ble_eq_true rfl) ?_
      rintro _ _ ⟨rfl, rfl⟩
      refine p_iret dX11_judge_15 rfl ?_
      exact ⟨_, rfl, CQ.of hI hF (fun k _ => rfl) (by unfold pa_judge; (repeat' split) <;> first | rfl | (exfalso; omega)) (by unfold pa_judge; (repeat' split) <;> first | rfl | (exfalso; omega)) (by decide)⟩
  · have hto : M 25 0 = M 124 14 := hC.1.1
    have hla : M 25 1 = M 127 0 := hC.1.2.1
    have hsn : M 25 2 = M 127 1 := hC.1.2.2.1
    have hcs : M 26 0 = M 127 2 := hC.1.2.2.2.1
    have hca : M 31 0 = M 127 3 := hC.1.2.2.2.2.1
    have hcw : M 36 0 = M 127 4 := hC.1.2.2.2.2.2.1
    have hcb : M 36 1 = M 127 5 := hC.1.2.2.2.2.2.2.1
    have hcor : M 42 0 = M 127 6 := hC.1.2.2.2.2.2.2.2.1
    have hcn : M 42 4 = M 127 7 := hC.1.2.2.2.2.2.2.2.2
    have e6 : M 127 6 = (q_n (M 127) 6 : Int) := hR.n (by decide)
    have b6 := bR.2.2.2.2.2.2.1
    have e7 : M 127 7 = (q_n (M 127) 7 : Int) := hR.n (by decide)
    have b7 := bR.2.2.2.2.2.2.2
    have hp6 := p6 (n := q_n (M 127) 6) (by omega)
    have hp0 : 0 < 2 ^ q_n (M 127) 6 := Nat.two_pow_pos _
    refine p_aload_n 1 dX11_judge_0 rfl rfl (by decide) ?_
    refine p_getR 0 4 dX11_judge_1 fX11_16 rfl hco ?_
    refine p_getI 25 7 dX11_judge_4 fX11_114 rfl ?_
    rw [hto]
    refine p_if_ne 16 10 dX11_judge_7 (by omega) (by omega) (fun h7 => ?_) (fun h7 => ?_)
    · have h1 : M 124 14 = 1 := by omega
      have hR1 := hF.r1 h1
      refine p_aload_n 17 dX11_judge_16 rfl rfl (by decide) ?_
      refine p_aload_n 18 dX11_judge_17 rfl rfl (by decide) ?_
      refine p_getR 0 21 dX11_judge_18 fX11_16 rfl hco ?_
      refine p_getR 25 24 dX11_judge_21 fX11_273 rfl (hW (25, 6, 42) (by decide)) ?_
      refine p_aload_n 25 dX11_judge_24 rfl rfl (by decide) ?_
      refine p_getR 0 28 dX11_judge_25 fX11_16 rfl hco ?_
      refine p_getR 25 31 dX11_judge_28 fX11_273 rfl (hW (25, 6, 42) (by decide)) ?_
      refine p_getI 42 34 dX11_judge_31 fX11_293 rfl ?_
      rw [hcor, e6]
      refine p_callS1i 37 dX11_judge_34 (s_fullBits (n := q_n (M 127) 6) (by omega)) lk_X11_198 mX11_fullBits (by decide) (Nat.le_of_ble_eq_true rfl) ?_
      rintro _ _ ⟨rfl, e9⟩
      have e9 := e9.symm
      subst e9
      refine p_callV1i 42 40 dX11_judge_37 (s_firstUnlike (Or.inr rfl : isC 25) hW hC hR (S := 2 ^ q_n (M 127) 6 - 1) (by omega)) lk_X11_296 mX4_firstUnlike rfl rfl (by decide) (Nat.le_of_ble_eq_true rfl) ?_
      rintro _ _ ⟨rfl, e9⟩
      have e9 := e9.symm
      subst e9
      refine p_callV1i 0 43 dX11_judge_40 s_grant lk_X11_108 mX11_grant rfl rfl (by decide) (Nat.le_of_ble_eq_true rfl) ?_
      rintro _ _ ⟨rfl, rfl⟩
      refine p_iret dX11_judge_43 rfl ?_
      exact ⟨_, rfl, CQ.of hI hF (fun k _ => rfl) (by unfold pa_judge; (repeat' split) <;> first | rfl | (exfalso; omega)) (by unfold pa_judge; (repeat' split) <;> first | rfl | (exfalso; omega)) (by decide)⟩
    · refine p_aload_n 11 dX11_judge_10 rfl rfl (by decide) ?_
      refine p_iconst 12 dX11_judge_11 ?_
      refine p_callV1i 0 15 dX11_judge_12 s_refuse lk_X11_73 mX11_refuse rfl rfl (by decide) (Nat.le_of_ble_eq_true rfl) ?_
      rintro _ _ ⟨rfl, rfl⟩
      refine p_iret dX11_judge_15 rfl ?_
      exact ⟨_, rfl, CQ.of hI hF (fun k _ => rfl) (by unfold pa_judge; (repeat' split) <;> first | rfl | (exfalso; omega)) (by unfold pa_judge; (repeat' split) <;> first | rfl | (exfalso; omega)) (by decide)⟩
theorem c_together {l : Launch} {X : ZX} {M : ZM} (hI : IC M M) (hF : WF M) {v : Int} (hv1 : -2147483648 ≤ v) (hv2 : v < 2147483648) : zCi l X 4 yX11_together tX11_together [zr 0, zi v] M (CQ M (pa_together (M 124 14) (M 127) v)) := by
  obtain ⟨hW, ⟨c, c', hcc, hco, hsp, hC⟩, ⟨j1, j2, j3, j4, j5⟩, hN, hpast, hten, ⟨hz0, hsea⟩, hfit⟩ := id hI
  have hR := hF.r
  have hT := hF.t
  have hh := hF.h
  have e0 : M 127 0 = (q_n (M 127) 0 : Int) := hR.n (by decide)
  have e2 : M 127 2 = (q_n (M 127) 2 : Int) := hR.n (by decide)
  have e3 : M 127 3 = (q_n (M 127) 3 : Int) := hR.n (by decide)
  have e4 : M 127 4 = (q_n (M 127) 4 : Int) := hR.n (by decide)
  have bR := hR.2.1
  have h20 : M 124 14 = 0 → M 127 2 = 0 := fun h => hF.r0 h 2 (by decide)
  have h30 : M 124 14 = 0 → M 127 3 = 0 := fun h => hF.r0 h 3 (by decide)
  have h40 : M 124 14 = 0 → M 127 4 = 0 := fun h => hF.r0 h 4 (by decide)
  have hwo : M 49 3 = M 129 16 := hN.2.2.2.1
  have t160 := hT.1 16 (by decide)
  have t161 := hT.2.2.2.2.1
  refine zC.of [some (zr 0), some (zi v)] (by decide +kernel) rfl rfl (Nat.le_of_ble_eq_true rfl) rfl ?_
  rcases hcc with ⟨rfl, rfl⟩ | ⟨rfl, rfl⟩
  · have hto : M 2 0 = M 124 14 := hC.1.1
    have hla : M 2 1 = M 127 0 := hC.1.2.1
    have hsn : M 2 2 = M 127 1 := hC.1.2.2.1
    have hcs : M 3 0 = M 127 2 := hC.1.2.2.2.1
    have hca : M 8 0 = M 127 3 := hC.1.2.2.2.2.1
    have hcw : M 13 0 = M 127 4 := hC.1.2.2.2.2.2.1
    have hcb : M 13 1 = M 127 5 := hC.1.2.2.2.2.2.2.1
    have hcor : M 19 0 = M 127 6 := hC.1.2.2.2.2.2.2.2.1
    have hcn : M 19 4 = M 127 7 := hC.1.2.2.2.2.2.2.2.2
    have e6 : M 127 6 = (q_n (M 127) 6 : Int) := hR.n (by decide)
    have b6 := bR.2.2.2.2.2.2.1
    have e7 : M 127 7 = (q_n (M 127) 7 : Int) := hR.n (by decide)
    have b7 := bR.2.2.2.2.2.2.2
    have hp6 := p6 (n := q_n (M 127) 6) (by omega)
    have hp0 : 0 < 2 ^ q_n (M 127) 6 := Nat.two_pow_pos _
    refine p_aload_n 1 dX11_together_0 rfl rfl (by decide) ?_
    refine p_getR 0 4 dX11_together_1 fX11_16 rfl hco ?_
    refine p_getI 2 7 dX11_together_4 fX11_114 rfl ?_
    rw [hto]
    refine p_if_eq 31 10 dX11_together_7 (by omega) (by omega) (fun h7 => ?_) (fun h7 => ?_)
    · refine p_aload_n 32 dX11_together_31 rfl rfl (by decide) ?_
      refine p_iconst 33 dX11_together_32 ?_
      refine p_callV1i 0 36 dX11_together_33 s_refuse lk_X11_73 mX11_refuse rfl rfl (by decide) (Nat.le_of_ble_eq_true rfl) ?_
      rintro _ _ ⟨rfl, rfl⟩
      refine p_iret dX11_together_36 rfl ?_
      exact ⟨_, rfl, CQ.of hI hF (fun k _ => rfl) (by unfold pa_together; rw [if_pos (by omega)]) (by unfold pa_together; rw [if_pos (by omega)]) (by decide)⟩
    · refine p_iload_n 11 dX11_together_10 rfl rfl ?_
      refine p_if_lt 31 14 dX11_together_11 hv1 hv2 (fun h11 => ?_) (fun h11 => ?_)
      · refine p_aload_n 32 dX11_together_31 rfl rfl (by decide) ?_
        refine p_iconst 33 dX11_together_32 ?_
        refine p_callV1i 0 36 dX11_together_33 s_refuse lk_X11_73 mX11_refuse rfl rfl (by decide) (Nat.le_of_ble_eq_true rfl) ?_
        rintro _ _ ⟨rfl, rfl⟩
        refine p_iret dX11_together_36 rfl ?_
        exact ⟨_, rfl, CQ.of hI hF (fun k _ => rfl) (by unfold pa_together; rw [if_pos (by omega)]) (by unfold pa_together; rw [if_pos (by omega)]) (by decide)⟩
      · refine p_iload_n 15 dX11_together_14 rfl rfl ?_
        refine p_aload_n 16 dX11_together_15 rfl rfl (by decide) ?_
        refine p_getR 0 19 dX11_together_16 fX11_16 rfl hco ?_
        refine p_getR 2 22 dX11_together_19 fX11_273 rfl (hW (2, 6, 19) (by decide)) ?_
        refine p_getI 19 25 dX11_together_22 fX11_293 rfl ?_
        rw [hcor, e6]
        refine p_callS1i 28 dX11_together_25 (s_fullBits (n := q_n (M 127) 6) (by omega)) lk_X11_198 mX11_fullBits (by decide) (Nat.le_of_ble_eq_true rfl) ?_
        rintro _ _ ⟨rfl, e9⟩
        have e9 := e9.symm
        subst e9
        refine p_icmp_le 37 31 dX11_together_28 (by omega) (by omega) (by omega) (by omega) (fun h28 => ?_) (fun h28 => ?_)
        · obtain ⟨n, rfl⟩ : ∃ k : Nat, v = (k : Int) := ⟨v.toNat, by omega⟩
          refine p_aload_n 38 dX11_together_37 rfl rfl (by decide) ?_
          refine p_aload_n 39 dX11_together_38 rfl rfl (by decide) ?_
          refine p_getR 0 42 dX11_together_39 fX11_16 rfl hco ?_
          refine p_getR 2 45 dX11_together_42 fX11_273 rfl (hW (2, 6, 19) (by decide)) ?_
          refine p_iload_n 46 dX11_together_45 rfl rfl ?_
          refine p_callV1i 19 49 dX11_together_46 (s_doneTogether (Or.inl rfl : isC 2) hW hC hR (S := n) (by omega)) lk_X11_299 mX4_doneTogether rfl rfl (by decide) (Nat.le_of_ble_eq_true rfl) ?_
          rintro _ _ ⟨rfl, e9⟩
          have e9 := e9.symm
          subst e9
          refine p_callV1i 0 52 dX11_together_49 s_grant lk_X11_108 mX11_grant rfl rfl (by decide) (Nat.le_of_ble_eq_true rfl) ?_
          rintro _ _ ⟨rfl, rfl⟩
          refine p_iret dX11_together_52 rfl ?_
          exact ⟨_, rfl, CQ.of hI hF (fun k _ => rfl) (by unfold pa_together; rw [if_neg (by omega), Int.toNat_natCast]) (by unfold pa_together; rw [if_neg (by omega)]) (by decide)⟩
        · refine p_aload_n 32 dX11_together_31 rfl rfl (by decide) ?_
          refine p_iconst 33 dX11_together_32 ?_
          refine p_callV1i 0 36 dX11_together_33 s_refuse lk_X11_73 mX11_refuse rfl rfl (by decide) (Nat.le_of_ble_eq_true rfl) ?_
          rintro _ _ ⟨rfl, rfl⟩
          refine p_iret dX11_together_36 rfl ?_
          exact ⟨_, rfl, CQ.of hI hF (fun k _ => rfl) (by unfold pa_together; rw [if_pos (by omega)]) (by unfold pa_together; rw [if_pos (by omega)]) (by decide)⟩
  · have hto : M 25 0 = M 124 14 := hC.1.1
    have hla : M 25 1 = M 127 0 := hC.1.2.1
    have hsn : M 25 2 = M 127 1 := hC.1.2.2.1
    have hcs : M 26 0 = M 127 2 := hC.1.2.2.2.1
    have hca : M 31 0 = M 127 3 := hC.1.2.2.2.2.1
    have hcw : M 36 0 = M 127 4 := hC.1.2.2.2.2.2.1
    have hcb : M 36 1 = M 127 5 := hC.1.2.2.2.2.2.2.1
    have hcor : M 42 0 = M 127 6 := hC.1.2.2.2.2.2.2.2.1
    have hcn : M 42 4 = M 127 7 := hC.1.2.2.2.2.2.2.2.2
    have e6 : M 127 6 = (q_n (M 127) 6 : Int) := hR.n (by decide)
    have b6 := bR.2.2.2.2.2.2.1
    have e7 : M 127 7 = (q_n (M 127) 7 : Int) := hR.n (by decide)
    have b7 := bR.2.2.2.2.2.2.2
    have hp6 := p6 (n := q_n (M 127) 6) (by omega)
    have hp0 : 0 < 2 ^ q_n (M 127) 6 := Nat.two_pow_pos _
    refine p_aload_n 1 dX11_together_0 rfl rfl (by decide) ?_
    refine p_getR 0 4 dX11_together_1 fX11_16 rfl hco ?_
    refine p_getI 25 7 dX11_together_4 fX11_114 rfl ?_
    rw [hto]
    refine p_if_eq 31 10 dX11_together_7 (by omega) (by omega) (fun h7 => ?_) (fun h7 => ?_)
    · refine p_aload_n 32 dX11_together_31 rfl rfl (by decide) ?_
      refine p_iconst 33 dX11_together_32 ?_
      refine p_callV1i 0 36 dX11_together_33 s_refuse lk_X11_73 mX11_refuse rfl rfl (by decide) (Nat.le_of_ble_eq_true rfl) ?_
      rintro _ _ ⟨rfl, rfl⟩
      refine p_iret dX11_together_36 rfl ?_
      exact ⟨_, rfl, CQ.of hI hF (fun k _ => rfl) (by unfold pa_together; rw [if_pos (by omega)]) (by unfold pa_together; rw [if_pos (by omega)]) (by decide)⟩
    · refine p_iload_n 11 dX11_together_10 rfl rfl ?_
      refine p_if_lt 31 14 dX11_together_11 hv1 hv2 (fun h11 => ?_) (fun h11 => ?_)
      · refine p_aload_n 32 dX11_together_31 rfl rfl (by decide) ?_
        refine p_iconst 33 dX11_together_32 ?_
        refine p_callV1i 0 36 dX11_together_33 s_refuse lk_X11_73 mX11_refuse rfl rfl (by decide) (Nat.le_of_ble_eq_true rfl) ?_
        rintro _ _ ⟨rfl, rfl⟩
        refine p_iret dX11_together_36 rfl ?_
        exact ⟨_, rfl, CQ.of hI hF (fun k _ => rfl) (by unfold pa_together; rw [if_pos (by omega)]) (by unfold pa_together; rw [if_pos (by omega)]) (by decide)⟩
      · refine p_iload_n 15 dX11_together_14 rfl rfl ?_
        refine p_aload_n 16 dX11_together_15 rfl rfl (by decide) ?_
        refine p_getR 0 19 dX11_together_16 fX11_16 rfl hco ?_
        refine p_getR 25 22 dX11_together_19 fX11_273 rfl (hW (25, 6, 42) (by decide)) ?_
        refine p_getI 42 25 dX11_together_22 fX11_293 rfl ?_
        rw [hcor, e6]
        refine p_callS1i 28 dX11_together_25 (s_fullBits (n := q_n (M 127) 6) (by omega)) lk_X11_198 mX11_fullBits (by decide) (Nat.le_of_ble_eq_true rfl) ?_
        rintro _ _ ⟨rfl, e9⟩
        have e9 := e9.symm
        subst e9
        refine p_icmp_le 37 31 dX11_together_28 (by omega) (by omega) (by omega) (by omega) (fun h28 => ?_) (fun h28 => ?_)
        · obtain ⟨n, rfl⟩ : ∃ k : Nat, v = (k : Int) := ⟨v.toNat, by omega⟩
          refine p_aload_n 38 dX11_together_37 rfl rfl (by decide) ?_
          refine p_aload_n 39 dX11_together_38 rfl rfl (by decide) ?_
          refine p_getR 0 42 dX11_together_39 fX11_16 rfl hco ?_
          refine p_getR 25 45 dX11_together_42 fX11_273 rfl (hW (25, 6, 42) (by decide)) ?_
          refine p_iload_n 46 dX11_together_45 rfl rfl ?_
          refine p_callV1i 42 49 dX11_together_46 (s_doneTogether (Or.inr rfl : isC 25) hW hC hR (S := n) (by omega)) lk_X11_299 mX4_doneTogether rfl rfl (by decide) (Nat.le_of_ble_eq_true rfl) ?_
          rintro _ _ ⟨rfl, e9⟩
          have e9 := e9.symm
          subst e9
          refine p_callV1i 0 52 dX11_together_49 s_grant lk_X11_108 mX11_grant rfl rfl (by decide) (Nat.le_of_ble_eq_true rfl) ?_
          rintro _ _ ⟨rfl, rfl⟩
          refine p_iret dX11_together_52 rfl ?_
          exact ⟨_, rfl, CQ.of hI hF (fun k _ => rfl) (by unfold pa_together; rw [if_neg (by omega), Int.toNat_natCast]) (by unfold pa_together; rw [if_neg (by omega)]) (by decide)⟩
        · refine p_aload_n 32 dX11_together_31 rfl rfl (by decide) ?_
          refine p_iconst 33 dX11_together_32 ?_
          refine p_callV1i 0 36 dX11_together_33 s_refuse lk_X11_73 mX11_refuse rfl rfl (by decide) (Nat.le_of_ble_eq_true rfl) ?_
          rintro _ _ ⟨rfl, rfl⟩
          refine p_iret dX11_together_36 rfl ?_
          exact ⟨_, rfl, CQ.of hI hF (fun k _ => rfl) (by unfold pa_together; rw [if_pos (by omega)]) (by unfold pa_together; rw [if_pos (by omega)]) (by decide)⟩
theorem c_clash {l : Launch} {X : ZX} {M : ZM} (hI : IC M M) (hF : WF M)  : zCi l X 4 yX11_clash tX11_clash [zr 0] M (CQ M (pa_clash (M 124 14) (M 127))) := by
  obtain ⟨hW, ⟨c, c', hcc, hco, hsp, hC⟩, ⟨j1, j2, j3, j4, j5⟩, hN, hpast, hten, ⟨hz0, hsea⟩, hfit⟩ := id hI
  have hR := hF.r
  have hT := hF.t
  have hh := hF.h
  have e0 : M 127 0 = (q_n (M 127) 0 : Int) := hR.n (by decide)
  have e2 : M 127 2 = (q_n (M 127) 2 : Int) := hR.n (by decide)
  have e3 : M 127 3 = (q_n (M 127) 3 : Int) := hR.n (by decide)
  have e4 : M 127 4 = (q_n (M 127) 4 : Int) := hR.n (by decide)
  have bR := hR.2.1
  have h20 : M 124 14 = 0 → M 127 2 = 0 := fun h => hF.r0 h 2 (by decide)
  have h30 : M 124 14 = 0 → M 127 3 = 0 := fun h => hF.r0 h 3 (by decide)
  have h40 : M 124 14 = 0 → M 127 4 = 0 := fun h => hF.r0 h 4 (by decide)
  have hwo : M 49 3 = M 129 16 := hN.2.2.2.1
  have t160 := hT.1 16 (by decide)
  have t161 := hT.2.2.2.2.1
  refine zC.of [some (zr 0)] (by decide +kernel) rfl rfl (Nat.le_of_ble_eq_true rfl) rfl ?_
  rcases hcc with ⟨rfl, rfl⟩ | ⟨rfl, rfl⟩
  · have hto : M 2 0 = M 124 14 := hC.1.1
    have hla : M 2 1 = M 127 0 := hC.1.2.1
    have hsn : M 2 2 = M 127 1 := hC.1.2.2.1
    have hcs : M 3 0 = M 127 2 := hC.1.2.2.2.1
    have hca : M 8 0 = M 127 3 := hC.1.2.2.2.2.1
    have hcw : M 13 0 = M 127 4 := hC.1.2.2.2.2.2.1
    have hcb : M 13 1 = M 127 5 := hC.1.2.2.2.2.2.2.1
    have hcor : M 19 0 = M 127 6 := hC.1.2.2.2.2.2.2.2.1
    have hcn : M 19 4 = M 127 7 := hC.1.2.2.2.2.2.2.2.2
    have e6 : M 127 6 = (q_n (M 127) 6 : Int) := hR.n (by decide)
    have b6 := bR.2.2.2.2.2.2.1
    have e7 : M 127 7 = (q_n (M 127) 7 : Int) := hR.n (by decide)
    have b7 := bR.2.2.2.2.2.2.2
    have hp6 := p6 (n := q_n (M 127) 6) (by omega)
    have hp0 : 0 < 2 ^ q_n (M 127) 6 := Nat.two_pow_pos _
    refine p_aload_n 1 dX11_clash_0 rfl rfl (by decide) ?_
    refine p_getR 0 4 dX11_clash_1 fX11_16 rfl hco ?_
    refine p_getI 2 7 dX11_clash_4 fX11_114 rfl ?_
    rw [hto]
    refine p_if_ne 16 10 dX11_clash_7 (by omega) (by omega) (fun h7 => ?_) (fun h7 => ?_)
    · have h1 : M 124 14 = 1 := by omega
      have hR1 := hF.r1 h1
      refine p_aload_n 17 dX11_clash_16 rfl rfl (by decide) ?_
      refine p_aload_n 18 dX11_clash_17 rfl rfl (by decide) ?_
      refine p_getR 0 21 dX11_clash_18 fX11_16 rfl hco ?_
      refine p_getR 2 24 dX11_clash_21 fX11_273 rfl (hW (2, 6, 19) (by decide)) ?_
      refine p_callV0i 19 27 dX11_clash_24 (s_firstClash (Or.inl rfl : isC 2) hW hC hR) lk_X11_302 mX4_firstClash rfl rfl (by decide) (Nat.le_of_ble_eq_true rfl) ?_
      rintro _ _ ⟨rfl, e9⟩
      have e9 := e9.symm
      subst e9
      refine p_callV1i 0 30 dX11_clash_27 s_grant lk_X11_108 mX11_grant rfl rfl (by decide) (Nat.le_of_ble_eq_true rfl) ?_
      rintro _ _ ⟨rfl, rfl⟩
      refine p_iret dX11_clash_30 rfl ?_
      exact ⟨_, rfl, CQ.of hI hF (fun k _ => rfl) (by unfold pa_clash; (repeat' split) <;> first | rfl | (exfalso; omega)) (by unfold pa_clash; (repeat' split) <;> first | rfl | (exfalso; omega)) (by decide)⟩
    · refine p_aload_n 11 dX11_clash_10 rfl rfl (by decide) ?_
      refine p_iconst 12 dX11_clash_11 ?_
      refine p_callV1i 0 15 dX11_clash_12 s_refuse lk_X11_73 mX11_refuse rfl rfl (by decide) (Nat.le_of_ble_eq_true rfl) ?_
      rintro _ _ ⟨rfl, rfl⟩
      refine p_iret dX11_clash_15 rfl ?_
      exact ⟨_, rfl, CQ.of hI hF (fun k _ => rfl) (by unfold pa_clash; (repeat' split) <;> first | rfl | (exfalso; omega)) (by unfold pa_clash; (repeat' split) <;> first | rfl | (exfalso; omega)) (by decide)⟩
  · have hto : M 25 0 = M 124 14 := hC.1.1
    have hla : M 25 1 = M 127 0 := hC.1.2.1
    have hsn : M 25 2 = M 127 1 := hC.1.2.2.1
    have hcs : M 26 0 = M 127 2 := hC.1.2.2.2.1
    have hca : M 31 0 = M 127 3 := hC.1.2.2.2.2.1
    have hcw : M 36 0 = M 127 4 := hC.1.2.2.2.2.2.1
    have hcb : M 36 1 = M 127 5 := hC.1.2.2.2.2.2.2.1
    have hcor : M 42 0 = M 127 6 := hC.1.2.2.2.2.2.2.2.1
    have hcn : M 42 4 = M 127 7 := hC.1.2.2.2.2.2.2.2.2
    have e6 : M 127 6 = (q_n (M 127) 6 : Int) := hR.n (by decide)
    have b6 := bR.2.2.2.2.2.2.1
    have e7 : M 127 7 = (q_n (M 127) 7 : Int) := hR.n (by decide)
    have b7 := bR.2.2.2.2.2.2.2
    have hp6 := p6 (n := q_n (M 127) 6) (by omega)
    have hp0 : 0 < 2 ^ q_n (M 127) 6 := Nat.two_pow_pos _
    refine p_aload_n 1 dX11_clash_0 rfl rfl (by decide) ?_
    refine p_getR 0 4 dX11_clash_1 fX11_16 rfl hco ?_
    refine p_getI 25 7 dX11_clash_4 fX11_114 rfl ?_
    rw [hto]
    refine p_if_ne 16 10 dX11_clash_7 (by omega) (by omega) (fun h7 => ?_) (fun h7 => ?_)
    · have h1 : M 124 14 = 1 := by omega
      have hR1 := hF.r1 h1
      refine p_aload_n 17 dX11_clash_16 rfl rfl (by decide) ?_
      refine p_aload_n 18 dX11_clash_17 rfl rfl (by decide) ?_
      refine p_getR 0 21 dX11_clash_18 fX11_16 rfl hco ?_
      refine p_getR 25 24 dX11_clash_21 fX11_273 rfl (hW (25, 6, 42) (by decide)) ?_
      refine p_callV0i 42 27 dX11_clash_24 (s_firstClash (Or.inr rfl : isC 25) hW hC hR) lk_X11_302 mX4_firstClash rfl rfl (by decide) (Nat.le_of_ble_eq_true rfl) ?_
      rintro _ _ ⟨rfl, e9⟩
      have e9 := e9.symm
      subst e9
      refine p_callV1i 0 30 dX11_clash_27 s_grant lk_X11_108 mX11_grant rfl rfl (by decide) (Nat.le_of_ble_eq_true rfl) ?_
      rintro _ _ ⟨rfl, rfl⟩
      refine p_iret dX11_clash_30 rfl ?_
      exact ⟨_, rfl, CQ.of hI hF (fun k _ => rfl) (by unfold pa_clash; (repeat' split) <;> first | rfl | (exfalso; omega)) (by unfold pa_clash; (repeat' split) <;> first | rfl | (exfalso; omega)) (by decide)⟩
    · refine p_aload_n 11 dX11_clash_10 rfl rfl (by decide) ?_
      refine p_iconst 12 dX11_clash_11 ?_
      refine p_callV1i 0 15 dX11_clash_12 s_refuse lk_X11_73 mX11_refuse rfl rfl (by decide) (Nat.le_of_ble_eq_true rfl) ?_
      rintro _ _ ⟨rfl, rfl⟩
      refine p_iret dX11_clash_15 rfl ?_
      exact ⟨_, rfl, CQ.of hI hF (fun k _ => rfl) (by unfold pa_clash; (repeat' split) <;> first | rfl | (exfalso; omega)) (by unfold pa_clash; (repeat' split) <;> first | rfl | (exfalso; omega)) (by decide)⟩
theorem m_fits {l : Launch} {X : ZX} {M : ZM} (hW : zWm M) (hF : WF M)  : zCi l X 6 yX12_fits tX12_fits [zr 124] M (MQq M (pa_fits (M 124 14) (M 127))) := by
  have hWg : zWm (zset (zset M 124 0 0) 124 11 0) := (hW.set (by decide +kernel)).set (by decide +kernel)
  have hR := hF.r
  have hT := hF.t
  have hh := hF.h
  have e0 : M 127 0 = (q_n (M 127) 0 : Int) := hR.n (by decide)
  have e2 : M 127 2 = (q_n (M 127) 2 : Int) := hR.n (by decide)
  have e3 : M 127 3 = (q_n (M 127) 3 : Int) := hR.n (by decide)
  have e4 : M 127 4 = (q_n (M 127) 4 : Int) := hR.n (by decide)
  have bR := hR.2.1
  have h20 : M 124 14 = 0 → M 127 2 = 0 := fun h => hF.r0 h 2 (by decide)
  have h30 : M 124 14 = 0 → M 127 3 = 0 := fun h => hF.r0 h 3 (by decide)
  have h40 : M 124 14 = 0 → M 127 4 = 0 := fun h => hF.r0 h 4 (by decide)
  refine zC.of [some (zr 124)] (by decide +kernel) rfl rfl (Nat.le_of_ble_eq_true rfl) rfl ?_
  refine p_aload_n 1 dX12_fits_0 rfl rfl (by decide) ?_
  refine p_callV0v 124 4 dX12_fits_1 s_good lk_X12_165 mX12_good rfl rfl (by decide) (Nat.le_of_ble_eq_true rfl) ?_
  rintro _ rfl
  refine p_aload_n 5 dX12_fits_4 rfl rfl (by decide) ?_
  refine p_getI 124 8 dX12_fits_5 fX12_178 rfl ?_
  refine p_if_ne 17 11 dX12_fits_8 (by show _ ≤ M 124 14; omega) (by show M 124 14 < _; omega) (fun h8 => ?_) (fun h8 => ?_)
  · have h8 : ¬ M 124 14 = 0 := h8
    have h1 : M 124 14 = 1 := by omega
    have hR1 := hF.r1 h1
    refine p_aload_n 18 dX12_fits_17 rfl rfl (by decide) ?_
    refine p_callV0v 124 21 dX12_fits_18 (s_seekFits (ρ := M 127) hWg (fun _ _ => rfl) hR hR1) lk_X12_382 mX12_seekFits rfl rfl (by decide) (Nat.le_of_ble_eq_true rfl) ?_
    intro M9 h9
    have hg9 := hid_good.trans h9.hid
    obtain ⟨f1, f2, f3, f4, f5⟩ := h9
    have k11 : M9 124 11 = 0 := f2 11 (by decide) (by decide) (by decide)
    refine p_aload_n 22 dX12_fits_21 rfl rfl (by decide) ?_
    refine p_getI 124 25 dX12_fits_22 fX12_367 rfl ?_
    refine p_iret dX12_fits_25 rfl ?_
    refine ⟨_, rfl, MQq.of hg9 hW ?_ ?_⟩ <;> unfold pa_fits <;> rw [if_neg (by omega)]
    · exact f3
    · exact k11
  · have h8 : ¬ M 124 14 ≠ 0 := h8
    refine p_aload_n 12 dX12_fits_11 rfl rfl (by decide) ?_
    refine p_iconst 13 dX12_fits_12 ?_
    refine p_callV1i 124 16 dX12_fits_13 s_no lk_X12_168 mX12_no rfl rfl (by decide) (Nat.le_of_ble_eq_true rfl) ?_
    rintro _ _ ⟨rfl, rfl⟩
    refine p_iret dX12_fits_16 rfl ?_
    exact ⟨_, rfl, MQq.of hid_no hW (by unfold pa_fits; (repeat' split) <;> first | rfl | (exfalso; omega)) (by unfold pa_fits; (repeat' split) <;> first | rfl | (exfalso; omega))⟩
theorem m_could {l : Launch} {X : ZX} {M : ZM} (hW : zWm M) (hF : WF M)  : zCi l X 6 yX12_could tX12_could [zr 124] M (MQq M (pa_could (M 124 14) (M 127))) := by
  have hWg : zWm (zset (zset M 124 0 0) 124 11 0) := (hW.set (by decide +kernel)).set (by decide +kernel)
  have hR := hF.r
  have hT := hF.t
  have hh := hF.h
  have e0 : M 127 0 = (q_n (M 127) 0 : Int) := hR.n (by decide)
  have e2 : M 127 2 = (q_n (M 127) 2 : Int) := hR.n (by decide)
  have e3 : M 127 3 = (q_n (M 127) 3 : Int) := hR.n (by decide)
  have e4 : M 127 4 = (q_n (M 127) 4 : Int) := hR.n (by decide)
  have bR := hR.2.1
  have h20 : M 124 14 = 0 → M 127 2 = 0 := fun h => hF.r0 h 2 (by decide)
  have h30 : M 124 14 = 0 → M 127 3 = 0 := fun h => hF.r0 h 3 (by decide)
  have h40 : M 124 14 = 0 → M 127 4 = 0 := fun h => hF.r0 h 4 (by decide)
  refine zC.of [some (zr 124)] (by decide +kernel) rfl rfl (Nat.le_of_ble_eq_true rfl) rfl ?_
  refine p_aload_n 1 dX12_could_0 rfl rfl (by decide) ?_
  refine p_callV0v 124 4 dX12_could_1 s_good lk_X12_165 mX12_good rfl rfl (by decide) (Nat.le_of_ble_eq_true rfl) ?_
  rintro _ rfl
  refine p_aload_n 5 dX12_could_4 rfl rfl (by decide) ?_
  refine p_getI 124 8 dX12_could_5 fX12_178 rfl ?_
  refine p_if_ne 17 11 dX12_could_8 (by show _ ≤ M 124 14; omega) (by show M 124 14 < _; omega) (fun h8 => ?_) (fun h8 => ?_)
  · have h8 : ¬ M 124 14 = 0 := h8
    have h1 : M 124 14 = 1 := by omega
    have hR1 := hF.r1 h1
    refine p_aload_n 18 dX12_could_17 rfl rfl (by decide) ?_
    refine p_callV0v 124 21 dX12_could_18 (s_seekFits (ρ := M 127) hWg (fun _ _ => rfl) hR hR1) lk_X12_382 mX12_seekFits rfl rfl (by decide) (Nat.le_of_ble_eq_true rfl) ?_
    intro M9 h9
    have hg9 := hid_good.trans h9.hid
    obtain ⟨f1, f2, f3, f4, f5⟩ := h9
    have k11 : M9 124 11 = 0 := f2 11 (by decide) (by decide) (by decide)
    refine p_aload_n 22 dX12_could_21 rfl rfl (by decide) ?_
    refine p_getI 124 25 dX12_could_22 fX12_370 rfl ?_
    refine p_iret dX12_could_25 rfl ?_
    refine ⟨_, rfl, MQq.of hg9 hW ?_ ?_⟩ <;> unfold pa_could <;> rw [if_neg (by omega)]
    · exact f4
    · exact k11
  · have h8 : ¬ M 124 14 ≠ 0 := h8
    refine p_aload_n 12 dX12_could_11 rfl rfl (by decide) ?_
    refine p_iconst 13 dX12_could_12 ?_
    refine p_callV1i 124 16 dX12_could_13 s_no lk_X12_168 mX12_no rfl rfl (by decide) (Nat.le_of_ble_eq_true rfl) ?_
    rintro _ _ ⟨rfl, rfl⟩
    refine p_iret dX12_could_16 rfl ?_
    exact ⟨_, rfl, MQq.of hid_no hW (by unfold pa_could; (repeat' split) <;> first | rfl | (exfalso; omega)) (by unfold pa_could; (repeat' split) <;> first | rfl | (exfalso; omega))⟩
theorem m_surely {l : Launch} {X : ZX} {M : ZM} (hW : zWm M) (hF : WF M)  : zCi l X 6 yX12_surely tX12_surely [zr 124] M (MQq M (pa_surely (M 124 14) (M 127))) := by
  have hWg : zWm (zset (zset M 124 0 0) 124 11 0) := (hW.set (by decide +kernel)).set (by decide +kernel)
  have hR := hF.r
  have hT := hF.t
  have hh := hF.h
  have e0 : M 127 0 = (q_n (M 127) 0 : Int) := hR.n (by decide)
  have e2 : M 127 2 = (q_n (M 127) 2 : Int) := hR.n (by decide)
  have e3 : M 127 3 = (q_n (M 127) 3 : Int) := hR.n (by decide)
  have e4 : M 127 4 = (q_n (M 127) 4 : Int) := hR.n (by decide)
  have bR := hR.2.1
  have h20 : M 124 14 = 0 → M 127 2 = 0 := fun h => hF.r0 h 2 (by decide)
  have h30 : M 124 14 = 0 → M 127 3 = 0 := fun h => hF.r0 h 3 (by decide)
  have h40 : M 124 14 = 0 → M 127 4 = 0 := fun h => hF.r0 h 4 (by decide)
  refine zC.of [some (zr 124)] (by decide +kernel) rfl rfl (Nat.le_of_ble_eq_true rfl) rfl ?_
  refine p_aload_n 1 dX12_surely_0 rfl rfl (by decide) ?_
  refine p_callV0v 124 4 dX12_surely_1 s_good lk_X12_165 mX12_good rfl rfl (by decide) (Nat.le_of_ble_eq_true rfl) ?_
  rintro _ rfl
  refine p_aload_n 5 dX12_surely_4 rfl rfl (by decide) ?_
  refine p_getI 124 8 dX12_surely_5 fX12_178 rfl ?_
  refine p_if_ne 17 11 dX12_surely_8 (by show _ ≤ M 124 14; omega) (by show M 124 14 < _; omega) (fun h8 => ?_) (fun h8 => ?_)
  · have h8 : ¬ M 124 14 = 0 := h8
    have h1 : M 124 14 = 1 := by omega
    have hR1 := hF.r1 h1
    refine p_aload_n 18 dX12_surely_17 rfl rfl (by decide) ?_
    refine p_callV0v 124 21 dX12_surely_18 (s_seekFits (ρ := M 127) hWg (fun _ _ => rfl) hR hR1) lk_X12_382 mX12_seekFits rfl rfl (by decide) (Nat.le_of_ble_eq_true rfl) ?_
    intro M9 h9
    have hg9 := hid_good.trans h9.hid
    obtain ⟨f1, f2, f3, f4, f5⟩ := h9
    have k11 : M9 124 11 = 0 := f2 11 (by decide) (by decide) (by decide)
    refine p_aload_n 22 dX12_surely_21 rfl rfl (by decide) ?_
    refine p_getI 124 25 dX12_surely_22 fX12_376 rfl ?_
    refine p_iret dX12_surely_25 rfl ?_
    refine ⟨_, rfl, MQq.of hg9 hW ?_ ?_⟩ <;> unfold pa_surely <;> rw [if_neg (by omega)]
    · exact f5
    · exact k11
  · have h8 : ¬ M 124 14 ≠ 0 := h8
    refine p_aload_n 12 dX12_surely_11 rfl rfl (by decide) ?_
    refine p_iconst 13 dX12_surely_12 ?_
    refine p_callV1i 124 16 dX12_surely_13 s_no lk_X12_168 mX12_no rfl rfl (by decide) (Nat.le_of_ble_eq_true rfl) ?_
    rintro _ _ ⟨rfl, rfl⟩
    refine p_iret dX12_surely_16 rfl ?_
    exact ⟨_, rfl, MQq.of hid_no hW (by unfold pa_surely; (repeat' split) <;> first | rfl | (exfalso; omega)) (by unfold pa_surely; (repeat' split) <;> first | rfl | (exfalso; omega))⟩
theorem m_ask {l : Launch} {X : ZX} {M : ZM} (hW : zWm M) (hF : WF M)  : zCi l X 7 yX12_ask tX12_ask [zr 124] M (MQq M (pa_ask (M 124 14) (M 127))) := by
  have hWg : zWm (zset (zset M 124 0 0) 124 11 0) := (hW.set (by decide +kernel)).set (by decide +kernel)
  have hR := hF.r
  have hT := hF.t
  have hh := hF.h
  have e0 : M 127 0 = (q_n (M 127) 0 : Int) := hR.n (by decide)
  have e2 : M 127 2 = (q_n (M 127) 2 : Int) := hR.n (by decide)
  have e3 : M 127 3 = (q_n (M 127) 3 : Int) := hR.n (by decide)
  have e4 : M 127 4 = (q_n (M 127) 4 : Int) := hR.n (by decide)
  have bR := hR.2.1
  have h20 : M 124 14 = 0 → M 127 2 = 0 := fun h => hF.r0 h 2 (by decide)
  have h30 : M 124 14 = 0 → M 127 3 = 0 := fun h => hF.r0 h 3 (by decide)
  have h40 : M 124 14 = 0 → M 127 4 = 0 := fun h => hF.r0 h 4 (by decide)
  refine zC.of [some (zr 124)] (by decide +kernel) rfl rfl (Nat.le_of_ble_eq_true rfl) rfl ?_
  refine p_aload_n 1 dX12_ask_0 rfl rfl (by decide) ?_
  refine p_callV0v 124 4 dX12_ask_1 s_good lk_X12_165 mX12_good rfl rfl (by decide) (Nat.le_of_ble_eq_true rfl) ?_
  rintro _ rfl
  refine p_aload_n 5 dX12_ask_4 rfl rfl (by decide) ?_
  refine p_getI 124 8 dX12_ask_5 fX12_178 rfl ?_
  refine p_if_eq 18 11 dX12_ask_8 (by show _ ≤ M 124 14; omega) (by show M 124 14 < _; omega) (fun h8 => ?_) (fun h8 => ?_)
  · have h8 : M 124 14 = 0 := h8
    refine p_aload_n 19 dX12_ask_18 rfl rfl (by decide) ?_
    refine p_iconst 20 dX12_ask_19 ?_
    refine p_callV1i 124 23 dX12_ask_20 s_no lk_X12_168 mX12_no rfl rfl (by decide) (Nat.le_of_ble_eq_true rfl) ?_
    rintro _ _ ⟨rfl, rfl⟩
    refine p_iret dX12_ask_23 rfl ?_
    exact ⟨_, rfl, MQq.of hid_no hW (by unfold pa_ask; (repeat' split) <;> first | rfl | (exfalso; omega)) (by unfold pa_ask; (repeat' split) <;> first | rfl | (exfalso; omega))⟩
  · have h8 : ¬ M 124 14 = 0 := h8
    have h1 : M 124 14 = 1 := by omega
    have hR1 := hF.r1 h1
    refine p_aload_n 12 dX12_ask_11 rfl rfl (by decide) ?_
    refine p_callV0i 124 15 dX12_ask_12 (s_askOf (ρ := M 127) hWg (fun _ _ => rfl) hR hR1) lk_X12_400 mX12_askOf rfl rfl (by decide) (Nat.le_of_ble_eq_true rfl) ?_
    intro a9 M9 h9
    obtain ⟨rfl, hh9, k11, k33⟩ := h9
    have hg9 := hid_good.trans hh9
    have k11 : M9 124 11 = 0 := k11
    refine p_goto 23 dX12_ask_15 ?_
    refine p_iret dX12_ask_23 rfl ?_
    refine ⟨_, rfl, MQq.of hg9 hW ?_ ?_⟩ <;> unfold pa_ask <;> rw [if_neg (by omega)]
    exact k11
theorem m_askLeaves {l : Launch} {X : ZX} {M : ZM} (hW : zWm M) (hF : WF M)  : zCi l X 7 yX12_askLeaves tX12_askLeaves [zr 124] M (MQq M (pa_askLeaves (M 124 14) (M 127))) := by
  have hWg : zWm (zset (zset M 124 0 0) 124 11 0) := (hW.set (by decide +kernel)).set (by decide +kernel)
  have hR := hF.r
  have hT := hF.t
  have hh := hF.h
  have e0 : M 127 0 = (q_n (M 127) 0 : Int) := hR.n (by decide)
  have e2 : M 127 2 = (q_n (M 127) 2 : Int) := hR.n (by decide)
  have e3 : M 127 3 = (q_n (M 127) 3 : Int) := hR.n (by decide)
  have e4 : M 127 4 = (q_n (M 127) 4 : Int) := hR.n (by decide)
  have bR := hR.2.1
  have h20 : M 124 14 = 0 → M 127 2 = 0 := fun h => hF.r0 h 2 (by decide)
  have h30 : M 124 14 = 0 → M 127 3 = 0 := fun h => hF.r0 h 3 (by decide)
  have h40 : M 124 14 = 0 → M 127 4 = 0 := fun h => hF.r0 h 4 (by decide)
  refine zC.of [some (zr 124)] (by decide +kernel) rfl rfl (Nat.le_of_ble_eq_true rfl) rfl ?_
  refine p_aload_n 1 dX12_askLeaves_0 rfl rfl (by decide) ?_
  refine p_callV0v 124 4 dX12_askLeaves_1 s_good lk_X12_165 mX12_good rfl rfl (by decide) (Nat.le_of_ble_eq_true rfl) ?_
  rintro _ rfl
  refine p_aload_n 5 dX12_askLeaves_4 rfl rfl (by decide) ?_
  refine p_getI 124 8 dX12_askLeaves_5 fX12_178 rfl ?_
  refine p_if_ne 17 11 dX12_askLeaves_8 (by show _ ≤ M 124 14; omega) (by show M 124 14 < _; omega) (fun h8 => ?_) (fun h8 => ?_)
  · have h8 : ¬ M 124 14 = 0 := h8
    have h1 : M 124 14 = 1 := by omega
    have hR1 := hF.r1 h1
    refine p_aload_n 18 dX12_askLeaves_17 rfl rfl (by decide) ?_
    refine p_callV0i 124 21 dX12_askLeaves_18 (s_askOf (ρ := M 127) hWg (fun _ _ => rfl) hR hR1) lk_X12_400 mX12_askOf rfl rfl (by decide) (Nat.le_of_ble_eq_true rfl) ?_
    intro a9 M9 h9
    obtain ⟨rfl, hh9, k11, k33⟩ := h9
    have hg9 := hid_good.trans hh9
    have k11 : M9 124 11 = 0 := k11
    refine p_popI 22 dX12_askLeaves_21 ?_
    refine p_aload_n 23 dX12_askLeaves_22 rfl rfl (by decide) ?_
    refine p_getI 124 26 dX12_askLeaves_23 fX12_388 rfl ?_
    refine p_iret dX12_askLeaves_26 rfl ?_
    refine ⟨_, rfl, MQq.of hg9 hW ?_ ?_⟩ <;> unfold pa_askLeaves <;> rw [if_neg (by omega)]
    · exact k33
    · exact k11
  · have h8 : ¬ M 124 14 ≠ 0 := h8
    refine p_aload_n 12 dX12_askLeaves_11 rfl rfl (by decide) ?_
    refine p_iconst 13 dX12_askLeaves_12 ?_
    refine p_callV1i 124 16 dX12_askLeaves_13 s_no lk_X12_168 mX12_no rfl rfl (by decide) (Nat.le_of_ble_eq_true rfl) ?_
    rintro _ _ ⟨rfl, rfl⟩
    refine p_iret dX12_askLeaves_16 rfl ?_
    exact ⟨_, rfl, MQq.of hid_no hW (by unfold pa_askLeaves; (repeat' split) <;> first | rfl | (exfalso; omega)) (by unfold pa_askLeaves; (repeat' split) <;> first | rfl | (exfalso; omega))⟩
theorem l_judgeM {l : Launch} {X : ZX} {M : ZM} {ρ : Nat → Int} (hW : zWm M) (hE : ∀ i, i < 421 → M 127 i = ρ i) (hR : wfR ρ) (hR1 : wfR1 ρ) : ∀ (j i : Nat), i + j = q_n ρ 7 → (∀ v, v < i → (fun n => !(decide (q_done ρ (q_ss ρ n) (2 ^ q_n ρ 6 - 1) = q_sd ρ n))) v = false) → zP l X 4 tX12_judge 19 [some (zr 124), some (zi (i : Int))] [] M (fun r M' => ∃ a, r = some (zi a) ∧ (a = q_fv (q_unl ρ (2 ^ q_n ρ 6 - 1)) ∧ M' = M)) := by
  have e6 : ρ 6 = (q_n ρ 6 : Int) := hR.n (by decide)
  have b6 := hR.2.1.2.2.2.2.2.2.1
  have e7 : ρ 7 = (q_n ρ 7 : Int) := hR.n (by decide)
  have b7 := hR.2.1.2.2.2.2.2.2.2
  have hp6 := p6 (n := q_n ρ 6) (by omega)
  have hp0 : 0 < 2 ^ q_n ρ 6 := Nat.two_pow_pos _
  intro j
  induction j with
  | zero =>
    intro i hi hv
    refine p_iload_n 20 dX12_judge_19 rfl rfl ?_
    refine p_aload_n 21 dX12_judge_20 rfl rfl (by decide) ?_
    refine p_getR 124 24 dX12_judge_21 fX12_20 rfl (hW (124, 15, 127) (by decide)) ?_
    refine p_bipush 26 dX12_judge_24 rfl ?_
    refine p_ialdn 127 27 (7) dX12_judge_26 rfl (by omega) (by omega) ?_
    rw [hE 7 (by decide)]
    refine p_icmp_ge 50 30 dX12_judge_27 (by omega) (by omega) (by omega) (by omega) (fun h27 => ?_) (fun h27 => absurd (by omega) (fun h9 : False => h9))
    refine p_bipush 52 dX12_judge_50 rfl ?_
    refine p_iret dX12_judge_52 rfl ?_
    refine ⟨_, rfl, ?_, rfl⟩
    cases hq : q_unl ρ (2 ^ q_n ρ 6 - 1) with
    | none => rfl
    | some w =>
      obtain ⟨a, b, -⟩ := q_first_some hq
      have b2 := (hv w (by omega)).symm.trans b
      cases b2
  | succ j ih =>
    intro i hi hv
    refine p_iload_n 20 dX12_judge_19 rfl rfl ?_
    refine p_aload_n 21 dX12_judge_20 rfl rfl (by decide) ?_
    refine p_getR 124 24 dX12_judge_21 fX12_20 rfl (hW (124, 15, 127) (by decide)) ?_
    refine p_bipush 26 dX12_judge_24 rfl ?_
    refine p_ialdn 127 27 (7) dX12_judge_26 rfl (by omega) (by omega) ?_
    rw [hE 7 (by decide)]
    refine p_icmp_ge 50 30 dX12_judge_27 (by omega) (by omega) (by omega) (by omega) (fun h27 => absurd (by omega) (fun h9 : False => h9)) (fun h27 => ?_)
    refine p_aload_n 31 dX12_judge_30 rfl rfl (by decide) ?_
    refine p_aload_n 32 dX12_judge_31 rfl rfl (by decide) ?_
    refine p_callV0i 124 35 dX12_judge_32 (s_allOrders hW hE hR) lk_X12_373 mX12_allOrders rfl rfl (by decide) (Nat.le_of_ble_eq_true rfl) ?_
    rintro _ _ ⟨rfl, e9⟩
    have e9 := e9.symm
    subst e9
    refine p_iload_n 36 dX12_judge_35 rfl rfl ?_
    refine p_callV2i 124 39 dX12_judge_36 (s_isSo hW hE hR hR1 (S := 2 ^ q_n ρ 6 - 1) (n := i) (by omega) (by omega)) lk_X12_364 mX12_isSo rfl rfl (by decide) (Nat.le_of_ble_eq_true rfl) ?_
    rintro _ _ ⟨rfl, e9⟩
    have e9 := e9.symm
    subst e9
    refine p_if_ne 44 42 dX12_judge_39 (by split <;> omega) (by split <;> omega) (fun h39 => ?_) (fun h39 => ?_)
    · refine p_iinc 47 dX12_judge_44 rfl rfl rfl ?_
      dsimp only [List.set]
      refine p_goto 19 dX12_judge_47 ?_
      refine ih (i + 1) (by omega) (fun v hv2 => ?_)
      by_cases e : v = i
      · subst e
        show (!(decide (q_done ρ (q_ss ρ v) (2 ^ q_n ρ 6 - 1) = q_sd ρ v))) = false
        rw [decide_eq_true (if_ne0 h39)]
        rfl
      · exact hv v (by omega)
    · refine p_iload_n 43 dX12_judge_42 rfl rfl ?_
      refine p_iret dX12_judge_43 rfl ?_
      refine ⟨_, rfl, ?_, rfl⟩
      have hy : (fun n => !(decide (q_done ρ (q_ss ρ n) (2 ^ q_n ρ 6 - 1) = q_sd ρ n))) i = true := by
        show (!(decide (q_done ρ (q_ss ρ i) (2 ^ q_n ρ 6 - 1) = q_sd ρ i))) = true
        rw [decide_eq_false (if_nne0 h39)]
        rfl
      unfold q_unl
      rw [q_first_is (by omega) hy hv]
      rfl
theorem m_judge {l : Launch} {X : ZX} {M : ZM} (hW : zWm M) (hF : WF M)  : zCi l X 4 yX12_judge tX12_judge [zr 124] M (MQq M (pa_judge (M 124 14) (M 127))) := by
  have hWg : zWm (zset (zset M 124 0 0) 124 11 0) := (hW.set (by decide +kernel)).set (by decide +kernel)
  have hR := hF.r
  have hT := hF.t
  have hh := hF.h
  have e0 : M 127 0 = (q_n (M 127) 0 : Int) := hR.n (by decide)
  have e2 : M 127 2 = (q_n (M 127) 2 : Int) := hR.n (by decide)
  have e3 : M 127 3 = (q_n (M 127) 3 : Int) := hR.n (by decide)
  have e4 : M 127 4 = (q_n (M 127) 4 : Int) := hR.n (by decide)
  have bR := hR.2.1
  have h20 : M 124 14 = 0 → M 127 2 = 0 := fun h => hF.r0 h 2 (by decide)
  have h30 : M 124 14 = 0 → M 127 3 = 0 := fun h => hF.r0 h 3 (by decide)
  have h40 : M 124 14 = 0 → M 127 4 = 0 := fun h => hF.r0 h 4 (by decide)
  refine zC.of [some (zr 124), none] (by decide +kernel) rfl rfl (Nat.le_of_ble_eq_true rfl) rfl ?_
  refine p_aload_n 1 dX12_judge_0 rfl rfl (by decide) ?_
  refine p_callV0v 124 4 dX12_judge_1 s_good lk_X12_165 mX12_good rfl rfl (by decide) (Nat.le_of_ble_eq_true rfl) ?_
  rintro _ rfl
  refine p_aload_n 5 dX12_judge_4 rfl rfl (by decide) ?_
  refine p_getI 124 8 dX12_judge_5 fX12_178 rfl ?_
  refine p_if_ne 17 11 dX12_judge_8 (by show _ ≤ M 124 14; omega) (by show M 124 14 < _; omega) (fun h8 => ?_) (fun h8 => ?_)
  · have h8 : ¬ M 124 14 = 0 := h8
    have h1 : M 124 14 = 1 := by omega
    have hR1 := hF.r1 h1
    refine p_iconst 18 dX12_judge_17 ?_
    refine p_istore_n 19 dX12_judge_18 rfl (Nat.le_of_ble_eq_true rfl) rfl rfl ?_
    dsimp only [List.set]
    refine (l_judgeM (ρ := M 127) hWg (fun _ _ => rfl) hR hR1 (q_n (M 127) 7) 0 (Nat.zero_add _) (fun v hv => absurd hv (by omega))).mono (fun r M9 h9 => ?_)
    obtain ⟨a9, ea, eb, ec⟩ := h9
    subst ec
    refine ⟨a9, ea, MQq.of hid_good hW (eb.trans ?_) (by unfold pa_judge; (repeat' split) <;> first | rfl | (exfalso; omega))⟩
    unfold pa_judge
    (repeat' split) <;> first | rfl | (exfalso; omega)
  · have h8 : ¬ M 124 14 ≠ 0 := h8
    refine p_aload_n 12 dX12_judge_11 rfl rfl (by decide) ?_
    refine p_iconst 13 dX12_judge_12 ?_
    refine p_callV1i 124 16 dX12_judge_13 s_no lk_X12_168 mX12_no rfl rfl (by decide) (Nat.le_of_ble_eq_true rfl) ?_
    rintro _ _ ⟨rfl, rfl⟩
    refine p_iret dX12_judge_16 rfl ?_
    exact ⟨_, rfl, MQq.of hid_no hW (by unfold pa_judge; (repeat' split) <;> first | rfl | (exfalso; omega)) (by unfold pa_judge; (repeat' split) <;> first | rfl | (exfalso; omega))⟩
theorem q_tog_rk (ρ : Nat → Int) (S : Nat) : ∀ n, ((q_tog ρ S n).2 = -2 ∧ (q_tog ρ S n).1 = 0) ∨ ∃ b, b < n ∧ (q_tog ρ S n).2 = (b : Int) ∧ (q_tog ρ S n).1 = q_rk ρ b := by
  intro n
  induction n with
  | zero => exact Or.inl ⟨rfl, rfl⟩
  | succ n ih =>
    have e : q_tog ρ S (n + 1) = if (q_tog ρ S n).1 ≤ q_rk ρ n ∧ q_shn ρ S n = true then (q_rk ρ n, (n : Int)) else q_tog ρ S n := rfl
    rw [e]
    split
    · exact Or.inr ⟨n, by omega, rfl, rfl⟩
    · rcases ih with h | ⟨b, h1, h2⟩
      · exact Or.inl h
      · exact Or.inr ⟨b, by omega, h2⟩
theorem l_togI {l : Launch} {X : ZX} {M : ZM} {ρ : Nat → Int} (hW : zWm M) (hE : ∀ i, i < 421 → M 127 i = ρ i) (hR : wfR ρ) {S k : Nat} (hS : S < 2147483648) (hk : k < 6) {bs : Int} {Q : Option ZV → ZM → Prop} (hQ : zP l X 3 tX12_together 108 [some (zr 124), some (zi (S : Int)), some (zi bs), some (zi (k : Int)), some (zi (if q_shn ρ S k = true then 1 else 0)), some (zi (q_n ρ 6 : Int))] [] M Q) : ∀ (j i : Nat), i + j = q_n ρ 6 → zP l X 3 tX12_together 51 [some (zr 124), some (zi (S : Int)), some (zi bs), some (zi (k : Int)), some (zi (if q_all (fun o => !(S.testBit o && decide (q_sg ρ o = q_sg ρ k))) i = true then 0 else 1)), some (zi (i : Int))] [] M (Q) := by
  have e6 : ρ 6 = (q_n ρ 6 : Int) := hR.n (by decide)
  have b6 := hR.2.1.2.2.2.2.2.2.1
  have e7 : ρ 7 = (q_n ρ 7 : Int) := hR.n (by decide)
  have b7 := hR.2.1.2.2.2.2.2.2.2
  have hp6 := p6 (n := q_n ρ 6) (by omega)
  have hp0 : 0 < 2 ^ q_n ρ 6 := Nat.two_pow_pos _
  intro j
  induction j with
  | zero =>
    intro i hi
    refine p_iload 53 dX12_together_51 rfl ?_
    refine p_aload_n 54 dX12_together_53 rfl rfl (by decide) ?_
    refine p_getR 124 57 dX12_together_54 fX12_20 rfl (hW (124, 15, 127) (by decide)) ?_
    refine p_bipush 59 dX12_together_57 rfl ?_
    refine p_ialdn 127 60 (6) dX12_together_59 rfl (by omega) (by omega) ?_
    rw [hE 6 (by decide)]
    refine p_icmp_ge 108 63 dX12_together_60 (by omega) (by omega) (by omega) (by omega) (fun h60 => ?_) (fun h60 => absurd (by omega) (fun h9 : False => h9))
    rw [Nat.add_zero] at hi
    subst hi
    have es : (if q_all (fun o => !(S.testBit o && decide (q_sg ρ o = q_sg ρ k))) (q_n ρ 6) = true then (0 : Int) else 1) = if q_shn ρ S k = true then 1 else 0 := by
      unfold q_shn
      cases q_all (fun o => !(S.testBit o && decide (q_sg ρ o = q_sg ρ k))) (q_n ρ 6) <;> rfl
    rw [es]
    exact hQ
  | succ j ih =>
    intro i hi
    refine p_iload 53 dX12_together_51 rfl ?_
    refine p_aload_n 54 dX12_together_53 rfl rfl (by decide) ?_
    refine p_getR 124 57 dX12_together_54 fX12_20 rfl (hW (124, 15, 127) (by decide)) ?_
    refine p_bipush 59 dX12_together_57 rfl ?_
    refine p_ialdn 127 60 (6) dX12_together_59 rfl (by omega) (by omega) ?_
    rw [hE 6 (by decide)]
    refine p_icmp_ge 108 63 dX12_together_60 (by omega) (by omega) (by omega) (by omega) (fun h60 => absurd (by omega) (fun h9 : False => h9)) (fun h60 => ?_)
    refine p_iload 65 dX12_together_63 rfl ?_
    refine p_if_ne 95 68 dX12_together_65 (by split <;> omega) (by split <;> omega) (fun h65 => ?_) (fun h65 => ?_)
    · refine p_iconst 96 dX12_together_95 ?_
      refine p_goto 100 dX12_together_96 ?_
      refine p_istore 102 dX12_together_100 (Nat.le_of_ble_eq_true rfl) rfl rfl ?_
      dsimp only [List.set]
      refine p_iinc 105 dX12_together_102 rfl rfl rfl ?_
      dsimp only [List.set]
      refine p_goto 51 dX12_together_105 ?_
      have e := ih (i + 1) (by omega)
      first
        | (have g : ¬ q_all (fun o => !(S.testBit o && decide (q_sg ρ o = q_sg ρ k))) i = true := fun g => by rw [if_pos g] at h65; exact h65 rfl
           rw [q_all_succ, Bool.eq_false_iff.mpr g, Bool.false_and, if_neg (by decide)] at e
           exact e)
        | (have g : q_all (fun o => !(S.testBit o && decide (q_sg ρ o = q_sg ρ k))) i = true := by
             by_cases g : q_all (fun o => !(S.testBit o && decide (q_sg ρ o = q_sg ρ k))) i = true
             · exact g
             · rw [if_neg g] at h65; exact absurd (by decide) h65
           rw [q_all_succ, g, Bool.eq_false_iff.mpr (if_eq0 h74)] at e
           exact e)
        | (have g : q_all (fun o => !(S.testBit o && decide (q_sg ρ o = q_sg ρ k))) i = true := by
             by_cases g : q_all (fun o => !(S.testBit o && decide (q_sg ρ o = q_sg ρ k))) i = true
             · exact g
             · rw [if_neg g] at h65; exact absurd (by decide) h65
           have g2 : decide (q_sg ρ i = q_sg ρ k) = false := decide_eq_false (fun g9 => if_eq0 h92 g9.symm)
           rw [q_all_succ, g, g2, Bool.and_false] at e
           exact e)
        | (have g2 : decide (q_sg ρ i = q_sg ρ k) = true := decide_eq_true (if_neq0 h92).symm
           rw [q_all_succ, if_neq0 h74, g2, if_neg (by simp)] at e
           exact e)
    · refine p_iload_n 69 dX12_together_68 rfl rfl ?_
      refine p_iload 71 dX12_together_69 rfl ?_
      refine p_callS2i 74 dX12_together_71 (s_hasBit (S := S) (k := i) (by omega) (by omega)) lk_X12_241 mX12_hasBit (by decide) (Nat.le_of_ble_eq_true rfl) ?_
      rintro _ _ ⟨rfl, e9⟩
      have e9 := e9.symm
      subst e9
      refine p_if_eq 99 77 dX12_together_74 (by split <;> omega) (by split <;> omega) (fun h74 => ?_) (fun h74 => ?_)
      · refine p_iconst 100 dX12_together_99 ?_
        refine p_istore 102 dX12_together_100 (Nat.le_of_ble_eq_true rfl) rfl rfl ?_
        dsimp only [List.set]
        refine p_iinc 105 dX12_together_102 rfl rfl rfl ?_
        dsimp only [List.set]
        refine p_goto 51 dX12_together_105 ?_
        have e := ih (i + 1) (by omega)
        first
          | (have g : ¬ q_all (fun o => !(S.testBit o && decide (q_sg ρ o = q_sg ρ k))) i = true := fun g => by rw [if_pos g] at h65; exact h65 rfl
             rw [q_all_succ, Bool.eq_false_iff.mpr g, Bool.false_and, if_neg (by decide)] at e
             exact e)
          | (have g : q_all (fun o => !(S.testBit o && decide (q_sg ρ o = q_sg ρ k))) i = true := by
               by_cases g : q_all (fun o => !(S.testBit o && decide (q_sg ρ o = q_sg ρ k))) i = true
               · exact g
               · rw [if_neg g] at h65; exact absurd (by decide) h65
             rw [q_all_succ, g, Bool.eq_false_iff.mpr (if_eq0 h74)] at e
             exact e)
          | (have g : q_all (fun o => !(S.testBit o && decide (q_sg ρ o = q_sg ρ k))) i = true := by
               by_cases g : q_all (fun o => !(S.testBit o && decide (q_sg ρ o = q_sg ρ k))) i = true
               · exact g
               · rw [if_neg g] at h65; exact absurd (by decide) h65
             have g2 : decide (q_sg ρ i = q_sg ρ k) = false := decide_eq_false (fun g9 => if_eq0 h92 g9.symm)
             rw [q_all_succ, g, g2, Bool.and_false] at e
             exact e)
          | (have g2 : decide (q_sg ρ i = q_sg ρ k) = true := decide_eq_true (if_neq0 h92).symm
             rw [q_all_succ, if_neq0 h74, g2, if_neg (by simp)] at e
             exact e)
      · refine p_aload_n 78 dX12_together_77 rfl rfl (by decide) ?_
        refine p_iload_n 79 dX12_together_78 rfl rfl ?_
        refine p_bipush 81 dX12_together_79 rfl ?_
        refine p_bipush 83 dX12_together_81 rfl ?_
        refine p_iload 85 dX12_together_83 rfl ?_
        refine p_imul 86 dX12_together_85 ?_
        refine p_iadd 87 dX12_together_86 ?_
        refine p_iconst 88 dX12_together_87 ?_
        refine p_iadd 89 dX12_together_88 ?_
        rw [show (59 : Int) + 19 * (i : Int) + 1 = ((59 + 19 * i + 1 : Nat) : Int) by omega]
        refine p_callV2i 124 92 dX12_together_89 (s_isSign hW hE hR (k := k) (f := 59 + 19 * i + 1) hk (by omega) (hR.1 _ (by omega)) (hR.2.2.2.2.2.1 i (by omega)).2.1) lk_X12_355 mX12_isSign rfl rfl (by decide) (Nat.le_of_ble_eq_true rfl) ?_
        rintro _ _ ⟨rfl, e9⟩
        have e9 := e9.symm
        subst e9
        refine p_if_eq 99 95 dX12_together_92 (by split <;> omega) (by split <;> omega) (fun h92 => ?_) (fun h92 => ?_)
        · refine p_iconst 100 dX12_together_99 ?_
          refine p_istore 102 dX12_together_100 (Nat.le_of_ble_eq_true rfl) rfl rfl ?_
          dsimp only [List.set]
          refine p_iinc 105 dX12_together_102 rfl rfl rfl ?_
          dsimp only [List.set]
          refine p_goto 51 dX12_together_105 ?_
          have e := ih (i + 1) (by omega)
          first
            | (have g : ¬ q_all (fun o => !(S.testBit o && decide (q_sg ρ o = q_sg ρ k))) i = true := fun g => by rw [if_pos g] at h65; exact h65 rfl
               rw [q_all_succ, Bool.eq_false_iff.mpr g, Bool.false_and, if_neg (by decide)] at e
               exact e)
            | (have g : q_all (fun o => !(S.testBit o && decide (q_sg ρ o = q_sg ρ k))) i = true := by
                 by_cases g : q_all (fun o => !(S.testBit o && decide (q_sg ρ o = q_sg ρ k))) i = true
                 · exact g
                 · rw [if_neg g] at h65; exact absurd (by decide) h65
               rw [q_all_succ, g, Bool.eq_false_iff.mpr (if_eq0 h74)] at e
               exact e)
            | (have g : q_all (fun o => !(S.testBit o && decide (q_sg ρ o = q_sg ρ k))) i = true := by
                 by_cases g : q_all (fun o => !(S.testBit o && decide (q_sg ρ o = q_sg ρ k))) i = true
                 · exact g
                 · rw [if_neg g] at h65; exact absurd (by decide) h65
               have g2 : decide (q_sg ρ i = q_sg ρ k) = false := decide_eq_false (fun g9 => if_eq0 h92 g9.symm)
               rw [q_all_succ, g, g2, Bool.and_false] at e
               exact e)
            | (have g2 : decide (q_sg ρ i = q_sg ρ k) = true := decide_eq_true (if_neq0 h92).symm
               rw [q_all_succ, if_neq0 h74, g2, if_neg (by simp)] at e
               exact e)
        · refine p_iconst 96 dX12_together_95 ?_
          refine p_goto 100 dX12_together_96 ?_
          refine p_istore 102 dX12_together_100 (Nat.le_of_ble_eq_true rfl) rfl rfl ?_
          dsimp only [List.set]
          refine p_iinc 105 dX12_together_102 rfl rfl rfl ?_
          dsimp only [List.set]
          refine p_goto 51 dX12_together_105 ?_
          have e := ih (i + 1) (by omega)
          first
            | (have g : ¬ q_all (fun o => !(S.testBit o && decide (q_sg ρ o = q_sg ρ k))) i = true := fun g => by rw [if_pos g] at h65; exact h65 rfl
               rw [q_all_succ, Bool.eq_false_iff.mpr g, Bool.false_and, if_neg (by decide)] at e
               exact e)
            | (have g : q_all (fun o => !(S.testBit o && decide (q_sg ρ o = q_sg ρ k))) i = true := by
                 by_cases g : q_all (fun o => !(S.testBit o && decide (q_sg ρ o = q_sg ρ k))) i = true
                 · exact g
                 · rw [if_neg g] at h65; exact absurd (by decide) h65
               rw [q_all_succ, g, Bool.eq_false_iff.mpr (if_eq0 h74)] at e
               exact e)
            | (have g : q_all (fun o => !(S.testBit o && decide (q_sg ρ o = q_sg ρ k))) i = true := by
                 by_cases g : q_all (fun o => !(S.testBit o && decide (q_sg ρ o = q_sg ρ k))) i = true
                 · exact g
                 · rw [if_neg g] at h65; exact absurd (by decide) h65
               have g2 : decide (q_sg ρ i = q_sg ρ k) = false := decide_eq_false (fun g9 => if_eq0 h92 g9.symm)
               rw [q_all_succ, g, g2, Bool.and_false] at e
               exact e)
            | (have g2 : decide (q_sg ρ i = q_sg ρ k) = true := decide_eq_true (if_neq0 h92).symm
               rw [q_all_succ, if_neq0 h74, g2, if_neg (by simp)] at e
               exact e)
theorem l_together {l : Launch} {X : ZX} {M : ZM} {ρ : Nat → Int} (hW : zWm M) (hE : ∀ i, i < 421 → M 127 i = ρ i) (hR : wfR ρ) (hR1 : wfR1 ρ) {S : Nat} (hS : S < 2147483648) : ∀ (j i : Nat), i + j = q_n ρ 6 → ∀ o4 o5 : Option ZV, zP l X 3 tX12_together 34 [some (zr 124), some (zi (S : Int)), some (zi (q_tog ρ S i).2), some (zi (i : Int)), o4, o5] [] M (fun r M' => ∃ a, r = some (zi a) ∧ (a = (q_tog ρ S (q_n ρ 6)).2 ∧ M' = M)) := by
  have e6 : ρ 6 = (q_n ρ 6 : Int) := hR.n (by decide)
  have b6 := hR.2.1.2.2.2.2.2.2.1
  have e7 : ρ 7 = (q_n ρ 7 : Int) := hR.n (by decide)
  have b7 := hR.2.1.2.2.2.2.2.2.2
  have hp6 := p6 (n := q_n ρ 6) (by omega)
  have hp0 : 0 < 2 ^ q_n ρ 6 := Nat.two_pow_pos _
  intro j
  induction j with
  | zero =>
    intro i hi o4 o5
    refine p_iload_n 35 dX12_together_34 rfl rfl ?_
    refine p_aload_n 36 dX12_together_35 rfl rfl (by decide) ?_
    refine p_getR 124 39 dX12_together_36 fX12_20 rfl (hW (124, 15, 127) (by decide)) ?_
    refine p_bipush 41 dX12_together_39 rfl ?_
    refine p_ialdn 127 42 (6) dX12_together_41 rfl (by omega) (by omega) ?_
    rw [hE 6 (by decide)]
    refine p_icmp_ge 144 45 dX12_together_42 (by omega) (by omega) (by omega) (by omega) (fun h42 => ?_) (fun h42 => absurd (by omega) (fun h9 : False => h9))
    refine p_iload_n 145 dX12_together_144 rfl rfl ?_
    refine p_iret dX12_together_145 rfl ?_
    rw [Nat.add_zero] at hi
    subst hi
    exact ⟨_, rfl, rfl, rfl⟩
  | succ j ih =>
    intro i hi o4 o5
    have ed : q_tog ρ S (i + 1) = if (q_tog ρ S i).1 ≤ q_rk ρ i ∧ q_shn ρ S i = true then (q_rk ρ i, (i : Int)) else q_tog ρ S i := rfl
    have er : ρ (59 + 19 * i) = (q_rk ρ i : Int) := hR.n (by omega)
    have hr9 := (hR.2.2.2.2.2.1 i (by omega)).1
    have htr := q_tog_rk ρ S i
    have htb : -2 ≤ (q_tog ρ S i).2 ∧ (q_tog ρ S i).2 ≤ 6 := by
      rcases htr with ⟨k1, -⟩ | ⟨b, k1, k2, -⟩ <;> omega
    refine p_iload_n 35 dX12_together_34 rfl rfl ?_
    refine p_aload_n 36 dX12_together_35 rfl rfl (by decide) ?_
    refine p_getR 124 39 dX12_together_36 fX12_20 rfl (hW (124, 15, 127) (by decide)) ?_
    refine p_bipush 41 dX12_together_39 rfl ?_
    refine p_ialdn 127 42 (6) dX12_together_41 rfl (by omega) (by omega) ?_
    rw [hE 6 (by decide)]
    refine p_icmp_ge 144 45 dX12_together_42 (by omega) (by omega) (by omega) (by omega) (fun h42 => absurd (by omega) (fun h9 : False => h9)) (fun h42 => ?_)
    refine p_iconst 46 dX12_together_45 ?_
    refine p_istore 48 dX12_together_46 (Nat.le_of_ble_eq_true rfl) rfl rfl ?_
    dsimp only [List.set]
    refine p_iconst 49 dX12_together_48 ?_
    refine p_istore 51 dX12_together_49 (Nat.le_of_ble_eq_true rfl) rfl rfl ?_
    dsimp only [List.set]
    refine l_togI (l := l) (X := X) hW hE hR (S := S) (k := i) hS (by omega) ?_ (q_n ρ 6) 0 (Nat.zero_add _)
    refine p_iload 110 dX12_together_108 rfl ?_
    refine p_if_eq 138 113 dX12_together_110 (by split <;> omega) (by split <;> omega) (fun h110 => ?_) (fun h110 => ?_)
    · have hno := if_eq0 h110
      refine p_iinc 141 dX12_together_138 rfl rfl rfl ?_
      dsimp only [List.set]
      refine p_goto 34 dX12_together_141 ?_
      have e := ih (i + 1) (by omega) (some (zi (if q_shn ρ S i = true then 1 else 0))) (some (zi (q_n ρ 6 : Int)))
      first
        | (rw [ed, if_neg (fun g => hno g.2)] at e; exact e)
        | (rw [ed, if_pos ⟨by omega, hyes⟩] at e; exact e)
        | (rw [ed, if_neg (fun g => by have := g.1; omega), hb2] at e; exact e)
        | (rw [ed, if_pos ⟨hle, hyes⟩] at e; exact e)
    · have hyes := if_neq0 h110
      refine p_iload_n 114 dX12_together_113 rfl rfl ?_
      refine p_if_lt 136 117 dX12_together_114 (by omega) (by omega) (fun h114 => ?_) (fun h114 => ?_)
      · have hle : (q_tog ρ S i).1 ≤ q_rk ρ i := by
          rcases htr with ⟨k1, k2⟩ | ⟨b, k1, k2, k3⟩ <;> omega
        refine p_iload_n 137 dX12_together_136 rfl rfl ?_
        refine p_istore_n 138 dX12_together_137 rfl (Nat.le_of_ble_eq_true rfl) rfl rfl ?_
        dsimp only [List.set]
        refine p_iinc 141 dX12_together_138 rfl rfl rfl ?_
        dsimp only [List.set]
        refine p_goto 34 dX12_together_141 ?_
        have e := ih (i + 1) (by omega) (some (zi (if q_shn ρ S i = true then 1 else 0))) (some (zi (q_n ρ 6 : Int)))
        first
          | (rw [ed, if_neg (fun g => hno g.2)] at e; exact e)
          | (rw [ed, if_pos ⟨by omega, hyes⟩] at e; exact e)
          | (rw [ed, if_neg (fun g => by have := g.1; omega), hb2] at e; exact e)
          | (rw [ed, if_pos ⟨hle, hyes⟩] at e; exact e)
      · obtain ⟨b, hb1, hb2, hb3⟩ : ∃ b, b < i ∧ (q_tog ρ S i).2 = (b : Int) ∧ (q_tog ρ S i).1 = q_rk ρ b := by
          rcases htr with ⟨k1, k2⟩ | h
          · omega
          · exact h
        have eb : ρ (59 + 19 * b) = (q_rk ρ b : Int) := hR.n (by omega)
        have hrb := (hR.2.2.2.2.2.1 b (by omega)).1
        rw [hb2]
        refine p_aload_n 118 dX12_together_117 rfl rfl (by decide) ?_
        refine p_getR 124 121 dX12_together_118 fX12_20 rfl (hW (124, 15, 127) (by decide)) ?_
        refine p_iload_n 122 dX12_together_121 rfl rfl ?_
        refine p_callS2i 125 dX12_together_122 (s_rankAt hE (k := i) (by omega)) lk_X12_358 mX12_rankAt (by decide) (Nat.le_of_ble_eq_true rfl) ?_
        rintro _ _ ⟨rfl, e9⟩
        have e9 := e9.symm
        subst e9
        rw [er]
        refine p_aload_n 126 dX12_together_125 rfl rfl (by decide) ?_
        refine p_getR 124 129 dX12_together_126 fX12_20 rfl (hW (124, 15, 127) (by decide)) ?_
        refine p_iload_n 130 dX12_together_129 rfl rfl ?_
        refine p_callS2i 133 dX12_together_130 (s_rankAt hE (k := b) (by omega)) lk_X12_358 mX12_rankAt (by decide) (Nat.le_of_ble_eq_true rfl) ?_
        rintro _ _ ⟨rfl, e9⟩
        have e9 := e9.symm
        subst e9
        rw [eb]
        refine p_icmp_lt 138 136 dX12_together_133 (by omega) (by omega) (by omega) (by omega) (fun h133 => ?_) (fun h133 => ?_)
        · refine p_iinc 141 dX12_together_138 rfl rfl rfl ?_
          dsimp only [List.set]
          refine p_goto 34 dX12_together_141 ?_
          have e := ih (i + 1) (by omega) (some (zi (if q_shn ρ S i = true then 1 else 0))) (some (zi (q_n ρ 6 : Int)))
          first
            | (rw [ed, if_neg (fun g => hno g.2)] at e; exact e)
            | (rw [ed, if_pos ⟨by omega, hyes⟩] at e; exact e)
            | (rw [ed, if_neg (fun g => by have := g.1; omega), hb2] at e; exact e)
            | (rw [ed, if_pos ⟨hle, hyes⟩] at e; exact e)
        · refine p_iload_n 137 dX12_together_136 rfl rfl ?_
          refine p_istore_n 138 dX12_together_137 rfl (Nat.le_of_ble_eq_true rfl) rfl rfl ?_
          dsimp only [List.set]
          refine p_iinc 141 dX12_together_138 rfl rfl rfl ?_
          dsimp only [List.set]
          refine p_goto 34 dX12_together_141 ?_
          have e := ih (i + 1) (by omega) (some (zi (if q_shn ρ S i = true then 1 else 0))) (some (zi (q_n ρ 6 : Int)))
          first
            | (rw [ed, if_neg (fun g => hno g.2)] at e; exact e)
            | (rw [ed, if_pos ⟨by omega, hyes⟩] at e; exact e)
            | (rw [ed, if_neg (fun g => by have := g.1; omega), hb2] at e; exact e)
            | (rw [ed, if_pos ⟨hle, hyes⟩] at e; exact e)
theorem m_together {l : Launch} {X : ZX} {M : ZM} (hW : zWm M) (hF : WF M) {v : Int} (hv1 : -2147483648 ≤ v) (hv2 : v < 2147483648) : zCi l X 3 yX12_together tX12_together [zr 124, zi v] M (MQq M (pa_together (M 124 14) (M 127) v)) := by
  have hWg : zWm (zset (zset M 124 0 0) 124 11 0) := (hW.set (by decide +kernel)).set (by decide +kernel)
  have hR := hF.r
  have hT := hF.t
  have hh := hF.h
  have e0 : M 127 0 = (q_n (M 127) 0 : Int) := hR.n (by decide)
  have e2 : M 127 2 = (q_n (M 127) 2 : Int) := hR.n (by decide)
  have e3 : M 127 3 = (q_n (M 127) 3 : Int) := hR.n (by decide)
  have e4 : M 127 4 = (q_n (M 127) 4 : Int) := hR.n (by decide)
  have bR := hR.2.1
  have h20 : M 124 14 = 0 → M 127 2 = 0 := fun h => hF.r0 h 2 (by decide)
  have h30 : M 124 14 = 0 → M 127 3 = 0 := fun h => hF.r0 h 3 (by decide)
  have h40 : M 124 14 = 0 → M 127 4 = 0 := fun h => hF.r0 h 4 (by decide)
  have e6 : M 127 6 = (q_n (M 127) 6 : Int) := hR.n (by decide)
  have b6 := bR.2.2.2.2.2.2.1
  have e7 : M 127 7 = (q_n (M 127) 7 : Int) := hR.n (by decide)
  have b7 := bR.2.2.2.2.2.2.2
  have hp6 := p6 (n := q_n (M 127) 6) (by omega)
  have hp0 : 0 < 2 ^ q_n (M 127) 6 := Nat.two_pow_pos _
  refine zC.of [some (zr 124), some (zi v), none, none, none, none] (by decide +kernel) rfl rfl (Nat.le_of_ble_eq_true rfl) rfl ?_
  refine p_aload_n 1 dX12_together_0 rfl rfl (by decide) ?_
  refine p_callV0v 124 4 dX12_together_1 s_good lk_X12_165 mX12_good rfl rfl (by decide) (Nat.le_of_ble_eq_true rfl) ?_
  rintro _ rfl
  refine p_aload_n 5 dX12_together_4 rfl rfl (by decide) ?_
  refine p_getI 124 8 dX12_together_5 fX12_178 rfl ?_
  refine p_if_eq 23 11 dX12_together_8 (by show _ ≤ M 124 14; omega) (by show M 124 14 < _; omega) (fun h8 => ?_) (fun h8 => ?_)
  · have h8 : M 124 14 = 0 := h8
    refine p_aload_n 24 dX12_together_23 rfl rfl (by decide) ?_
    refine p_iconst 25 dX12_together_24 ?_
    refine p_callV1i 124 28 dX12_together_25 s_no lk_X12_168 mX12_no rfl rfl (by decide) (Nat.le_of_ble_eq_true rfl) ?_
    rintro _ _ ⟨rfl, rfl⟩
    refine p_iret dX12_together_28 rfl ?_
    exact ⟨_, rfl, MQq.of hid_no hW (by unfold pa_together; rw [if_pos (by omega)]) (by unfold pa_together; rw [if_pos (by omega)]; rfl)⟩
  · have h8 : ¬ M 124 14 = 0 := h8
    have h1 : M 124 14 = 1 := by omega
    have hR1 := hF.r1 h1
    refine p_iload_n 12 dX12_together_11 rfl rfl ?_
    refine p_iconst 13 dX12_together_12 ?_
    refine p_aload_n 14 dX12_together_13 rfl rfl (by decide) ?_
    refine p_callV0i 124 17 dX12_together_14 (s_allOrders (ρ := M 127) hWg (fun _ _ => rfl) hR) lk_X12_373 mX12_allOrders rfl rfl (by decide) (Nat.le_of_ble_eq_true rfl) ?_
    rintro _ _ ⟨rfl, e9⟩
    have e9 := e9.symm
    subst e9
    refine p_callS3i 20 dX12_together_17 (s_in (by omega) (by omega) (by omega) (by omega) (by omega) (by omega)) lk_X12_146 mX12_in (by decide) (Nat.le_of_ble_eq_true rfl) ?_
    rintro _ _ ⟨rfl, e9⟩
    have e9 := e9.symm
    subst e9
    refine p_if_ne 29 23 dX12_together_20 (by split <;> omega) (by split <;> omega) (fun h20 => ?_) (fun h20 => ?_)
    · have h20t := if_ne0 h20
      obtain ⟨n, rfl⟩ : ∃ k : Nat, v = (k : Int) := ⟨v.toNat, by omega⟩
      refine p_bipush 31 dX12_together_29 rfl ?_
      refine p_istore_n 32 dX12_together_31 rfl (Nat.le_of_ble_eq_true rfl) rfl rfl ?_
      dsimp only [List.set]
      refine p_iconst 33 dX12_together_32 ?_
      refine p_istore_n 34 dX12_together_33 rfl (Nat.le_of_ble_eq_true rfl) rfl rfl ?_
      dsimp only [List.set]
      refine (l_together (ρ := M 127) hWg (fun _ _ => rfl) hR hR1 (S := n) (by omega) (q_n (M 127) 6) 0 (Nat.zero_add _) none none).mono (fun r M9 h9 => ?_)
      obtain ⟨a9, ea, eb, ec⟩ := h9
      subst ec
      exact ⟨a9, ea, MQq.of hid_good hW (eb.trans (by unfold pa_together; rw [if_neg (by omega), Int.toNat_natCast])) (by unfold pa_together; rw [if_neg (by omega)]; rfl)⟩
    · have h20f := if_nne0 h20
      refine p_aload_n 24 dX12_together_23 rfl rfl (by decide) ?_
      refine p_iconst 25 dX12_together_24 ?_
      refine p_callV1i 124 28 dX12_together_25 s_no lk_X12_168 mX12_no rfl rfl (by decide) (Nat.le_of_ble_eq_true rfl) ?_
      rintro _ _ ⟨rfl, rfl⟩
      refine p_iret dX12_together_28 rfl ?_
      exact ⟨_, rfl, MQq.of hid_no hW (by unfold pa_together; rw [if_pos (by omega)]) (by unfold pa_together; rw [if_pos (by omega)]; rfl)⟩
theorem l_clashMI {l : Launch} {X : ZX} {M : ZM} {ρ : Nat → Int} (hW : zWm M) (hE : ∀ i, i < 421 → M 127 i = ρ i) (hR : wfR ρ) {o : Nat} (ho : (o : Int) < ρ 6) (hvo : ∀ v, v < o → (q_cl ρ v).isSome = false) (hQ : q_cl ρ o = none → zP l X 2 tX12_clash 105 [some (zr 124), some (zi (o : Int)), some (zi (q_n ρ 6 : Int))] [] M (fun r M' => ∃ a, r = some (zi a) ∧ (a = q_clash ρ ∧ M' = M))) : ∀ (j i : Nat), i + j = q_n ρ 6 → o < i → (∀ v, v < i → q_clp ρ o v = false) → zP l X 2 tX12_clash 34 [some (zr 124), some (zi (o : Int)), some (zi (i : Int))] [] M (fun r M' => ∃ a, r = some (zi a) ∧ (a = q_clash ρ ∧ M' = M)) := by
  have e6 : ρ 6 = (q_n ρ 6 : Int) := hR.n (by decide)
  have b6 := hR.2.1.2.2.2.2.2.2.1
  have e7 : ρ 7 = (q_n ρ 7 : Int) := hR.n (by decide)
  have b7 := hR.2.1.2.2.2.2.2.2.2
  have hp6 := p6 (n := q_n ρ 6) (by omega)
  have hp0 : 0 < 2 ^ q_n ρ 6 := Nat.two_pow_pos _
  intro j
  induction j with
  | zero =>
    intro i hi hoi hv
    refine p_iload_n 35 dX12_clash_34 rfl rfl ?_
    refine p_aload_n 36 dX12_clash_35 rfl rfl (by decide) ?_
    refine p_getR 124 39 dX12_clash_36 fX12_20 rfl (hW (124, 15, 127) (by decide)) ?_
    refine p_bipush 41 dX12_clash_39 rfl ?_
    refine p_ialdn 127 42 (6) dX12_clash_41 rfl (by omega) (by omega) ?_
    rw [hE 6 (by decide)]
    refine p_icmp_ge 105 45 dX12_clash_42 (by omega) (by omega) (by omega) (by omega) (fun h42 => ?_) (fun h42 => absurd (by omega) (fun h9 : False => h9))
    rw [Nat.add_zero] at hi
    subst hi
    refine hQ ?_
    cases hq : q_cl ρ o with
    | none => rfl
    | some w =>
      obtain ⟨a, b, -⟩ := q_first_some hq
      have b2 := (hv w a).symm.trans b
      cases b2
  | succ j ih =>
    intro i hi hoi hv
    refine p_iload_n 35 dX12_clash_34 rfl rfl ?_
    refine p_aload_n 36 dX12_clash_35 rfl rfl (by decide) ?_
    refine p_getR 124 39 dX12_clash_36 fX12_20 rfl (hW (124, 15, 127) (by decide)) ?_
    refine p_bipush 41 dX12_clash_39 rfl ?_
    refine p_ialdn 127 42 (6) dX12_clash_41 rfl (by omega) (by omega) ?_
    rw [hE 6 (by decide)]
    refine p_icmp_ge 105 45 dX12_clash_42 (by omega) (by omega) (by omega) (by omega) (fun h42 => absurd (by omega) (fun h9 : False => h9)) (fun h42 => ?_)
    refine p_aload_n 46 dX12_clash_45 rfl rfl (by decide) ?_
    refine p_iload_n 47 dX12_clash_46 rfl rfl ?_
    refine p_bipush 49 dX12_clash_47 rfl ?_
    refine p_bipush 51 dX12_clash_49 rfl ?_
    refine p_iload_n 52 dX12_clash_51 rfl rfl ?_
    refine p_imul 53 dX12_clash_52 ?_
    refine p_iadd 54 dX12_clash_53 ?_
    refine p_iconst 55 dX12_clash_54 ?_
    refine p_iadd 56 dX12_clash_55 ?_
    rw [show (59 : Int) + 19 * (i : Int) + 1 = ((59 + 19 * i + 1 : Nat) : Int) by omega]
    refine p_callV2i 124 59 dX12_clash_56 (s_isSign hW hE hR (k := o) (f := 59 + 19 * i + 1) (by omega) (by omega) (hR.1 _ (by omega)) (hR.2.2.2.2.2.1 i (by omega)).2.1) lk_X12_355 mX12_isSign rfl rfl (by decide) (Nat.le_of_ble_eq_true rfl) ?_
    rintro _ _ ⟨rfl, e9⟩
    have e9 := e9.symm
    subst e9
    refine p_if_eq 99 62 dX12_clash_59 (by split <;> omega) (by split <;> omega) (fun h59 => ?_) (fun h59 => ?_)
    · have hno : q_clp ρ o i = false := by
        unfold q_clp
        rw [decide_eq_false (p := q_sg ρ o = q_sg ρ i) (if_eq0 h59)]
        simp
      refine p_iinc 102 dX12_clash_99 rfl rfl rfl ?_
      dsimp only [List.set]
      refine p_goto 34 dX12_clash_102 ?_
      refine ih (i + 1) (by omega) (by omega) (fun v hv2 => ?_)
      by_cases e : v = i
      · subst e; exact hno
      · exact hv v (by omega)
    · refine p_aload_n 63 dX12_clash_62 rfl rfl (by decide) ?_
      refine p_getR 124 66 dX12_clash_63 fX12_20 rfl (hW (124, 15, 127) (by decide)) ?_
      refine p_bipush 68 dX12_clash_66 rfl ?_
      refine p_bipush 70 dX12_clash_68 rfl ?_
      refine p_iload_n 71 dX12_clash_70 rfl rfl ?_
      refine p_imul 72 dX12_clash_71 ?_
      refine p_iadd 73 dX12_clash_72 ?_
      refine p_bipush 75 dX12_clash_73 rfl ?_
      refine p_iadd 76 dX12_clash_75 ?_
      rw [show (59 : Int) + 19 * (o : Int) + 10 = ((59 + 19 * o + 10 : Nat) : Int) by omega]
      refine p_bipush 78 dX12_clash_76 rfl ?_
      refine p_bipush 80 dX12_clash_78 rfl ?_
      refine p_iload_n 81 dX12_clash_80 rfl rfl ?_
      refine p_imul 82 dX12_clash_81 ?_
      refine p_iadd 83 dX12_clash_82 ?_
      refine p_bipush 85 dX12_clash_83 rfl ?_
      refine p_iadd 86 dX12_clash_85 ?_
      rw [show (59 : Int) + 19 * (i : Int) + 10 = ((59 + 19 * i + 10 : Nat) : Int) by omega]
      refine p_callS3i 89 dX12_clash_86 (s_isSame (Or.inl rfl : isR 127) hE (f := 59 + 19 * o + 10) (g := 59 + 19 * i + 10) (by omega) (by omega) (hR.1 _ (by omega)) (hR.1 _ (by omega)) (hR.2.2.2.2.2.1 o (by omega)).2.2 (hR.2.2.2.2.2.1 i (by omega)).2.2) lk_X12_257 mX12_isSame (by decide) (Nat.le_of_ble_eq_true rfl) ?_
      rintro _ _ ⟨rfl, e9⟩
      have e9 := e9.symm
      subst e9
      refine p_if_ne 99 92 dX12_clash_89 (by split <;> omega) (by split <;> omega) (fun h89 => ?_) (fun h89 => ?_)
      · have hno : q_clp ρ o i = false := by
          unfold q_clp
          rw [decide_eq_false (p := q_dd ρ o ≠ q_dd ρ i) (fun g => g (if_ne0 h89)), Bool.and_false]
        refine p_iinc 102 dX12_clash_99 rfl rfl rfl ?_
        dsimp only [List.set]
        refine p_goto 34 dX12_clash_102 ?_
        refine ih (i + 1) (by omega) (by omega) (fun v hv2 => ?_)
        by_cases e : v = i
        · subst e; exact hno
        · exact hv v (by omega)
      · refine p_bipush 94 dX12_clash_92 rfl ?_
        refine p_iload_n 95 dX12_clash_94 rfl rfl ?_
        refine p_imul 96 dX12_clash_95 ?_
        refine p_iload_n 97 dX12_clash_96 rfl rfl ?_
        refine p_iadd 98 dX12_clash_97 ?_
        refine p_iret dX12_clash_98 rfl ?_
        refine ⟨_, rfl, ?_, rfl⟩
        have hy : q_clp ρ o i = true := by
          unfold q_clp
          rw [decide_eq_true (p := o < i) (by omega), decide_eq_true (p := q_sg ρ o = q_sg ρ i) (if_neq0 h59), decide_eq_true (p := q_dd ρ o ≠ q_dd ρ i) (if_nne0 h89)]
          rfl
        rw [q_clash_at (by omega) hvo (q_first_is (by omega) hy hv)]
theorem l_clashM {l : Launch} {X : ZX} {M : ZM} {ρ : Nat → Int} (hW : zWm M) (hE : ∀ i, i < 421 → M 127 i = ρ i) (hR : wfR ρ) : ∀ (j i : Nat), i + j = q_n ρ 6 → ∀ o2 : Option ZV, (∀ v, v < i → (q_cl ρ v).isSome = false) → zP l X 2 tX12_clash 19 [some (zr 124), some (zi (i : Int)), o2] [] M (fun r M' => ∃ a, r = some (zi a) ∧ (a = q_clash ρ ∧ M' = M)) := by
  have e6 : ρ 6 = (q_n ρ 6 : Int) := hR.n (by decide)
  have b6 := hR.2.1.2.2.2.2.2.2.1
  have e7 : ρ 7 = (q_n ρ 7 : Int) := hR.n (by decide)
  have b7 := hR.2.1.2.2.2.2.2.2.2
  have hp6 := p6 (n := q_n ρ 6) (by omega)
  have hp0 : 0 < 2 ^ q_n ρ 6 := Nat.two_pow_pos _
  intro j
  induction j with
  | zero =>
    intro i hi o2 hv
    refine p_iload_n 20 dX12_clash_19 rfl rfl ?_
    refine p_aload_n 21 dX12_clash_20 rfl rfl (by decide) ?_
    refine p_getR 124 24 dX12_clash_21 fX12_20 rfl (hW (124, 15, 127) (by decide)) ?_
    refine p_bipush 26 dX12_clash_24 rfl ?_
    refine p_ialdn 127 27 (6) dX12_clash_26 rfl (by omega) (by omega) ?_
    rw [hE 6 (by decide)]
    refine p_icmp_ge 111 30 dX12_clash_27 (by omega) (by omega) (by omega) (by omega) (fun h27 => ?_) (fun h27 => absurd (by omega) (fun h9 : False => h9))
    refine p_bipush 113 dX12_clash_111 rfl ?_
    refine p_iret dX12_clash_113 rfl ?_
    rw [Nat.add_zero] at hi
    subst hi
    exact ⟨_, rfl, (q_clash_none hv).symm, rfl⟩
  | succ j ih =>
    intro i hi o2 hv
    refine p_iload_n 20 dX12_clash_19 rfl rfl ?_
    refine p_aload_n 21 dX12_clash_20 rfl rfl (by decide) ?_
    refine p_getR 124 24 dX12_clash_21 fX12_20 rfl (hW (124, 15, 127) (by decide)) ?_
    refine p_bipush 26 dX12_clash_24 rfl ?_
    refine p_ialdn 127 27 (6) dX12_clash_26 rfl (by omega) (by omega) ?_
    rw [hE 6 (by decide)]
    refine p_icmp_ge 111 30 dX12_clash_27 (by omega) (by omega) (by omega) (by omega) (fun h27 => absurd (by omega) (fun h9 : False => h9)) (fun h27 => ?_)
    refine p_iload_n 31 dX12_clash_30 rfl rfl ?_
    refine p_iconst 32 dX12_clash_31 ?_
    refine p_iadd 33 dX12_clash_32 ?_
    refine p_istore_n 34 dX12_clash_33 rfl (Nat.le_of_ble_eq_true rfl) rfl rfl ?_
    dsimp only [List.set]
    refine l_clashMI (l := l) (X := X) hW hE hR (o := i) (by omega) hv (fun hn => ?_) j (i + 1) (by omega) (by omega) (fun v hv2 => ?_)
    · refine p_iinc 108 dX12_clash_105 rfl rfl rfl ?_
      dsimp only [List.set]
      refine p_goto 19 dX12_clash_108 ?_
      refine ih (i + 1) (by omega) _ (fun v hv2 => ?_)
      by_cases e : v = i
      · subst e; rw [hn]; rfl
      · exact hv v (by omega)
    · unfold q_clp
      rw [decide_eq_false (p := i < v) (by omega)]
      rfl
theorem m_clash {l : Launch} {X : ZX} {M : ZM} (hW : zWm M) (hF : WF M)  : zCi l X 2 yX12_clash tX12_clash [zr 124] M (MQq M (pa_clash (M 124 14) (M 127))) := by
  have hWg : zWm (zset (zset M 124 0 0) 124 11 0) := (hW.set (by decide +kernel)).set (by decide +kernel)
  have hR := hF.r
  have hT := hF.t
  have hh := hF.h
  have e0 : M 127 0 = (q_n (M 127) 0 : Int) := hR.n (by decide)
  have e2 : M 127 2 = (q_n (M 127) 2 : Int) := hR.n (by decide)
  have e3 : M 127 3 = (q_n (M 127) 3 : Int) := hR.n (by decide)
  have e4 : M 127 4 = (q_n (M 127) 4 : Int) := hR.n (by decide)
  have bR := hR.2.1
  have h20 : M 124 14 = 0 → M 127 2 = 0 := fun h => hF.r0 h 2 (by decide)
  have h30 : M 124 14 = 0 → M 127 3 = 0 := fun h => hF.r0 h 3 (by decide)
  have h40 : M 124 14 = 0 → M 127 4 = 0 := fun h => hF.r0 h 4 (by decide)
  refine zC.of [some (zr 124), none, none] (by decide +kernel) rfl rfl (Nat.le_of_ble_eq_true rfl) rfl ?_
  refine p_aload_n 1 dX12_clash_0 rfl rfl (by decide) ?_
  refine p_callV0v 124 4 dX12_clash_1 s_good lk_X12_165 mX12_good rfl rfl (by decide) (Nat.le_of_ble_eq_true rfl) ?_
  rintro _ rfl
  refine p_aload_n 5 dX12_clash_4 rfl rfl (by decide) ?_
  refine p_getI 124 8 dX12_clash_5 fX12_178 rfl ?_
  refine p_if_ne 17 11 dX12_clash_8 (by show _ ≤ M 124 14; omega) (by show M 124 14 < _; omega) (fun h8 => ?_) (fun h8 => ?_)
  · have h8 : ¬ M 124 14 = 0 := h8
    have h1 : M 124 14 = 1 := by omega
    have hR1 := hF.r1 h1
    refine p_iconst 18 dX12_clash_17 ?_
    refine p_istore_n 19 dX12_clash_18 rfl (Nat.le_of_ble_eq_true rfl) rfl rfl ?_
    dsimp only [List.set]
    refine (l_clashM (ρ := M 127) hWg (fun _ _ => rfl) hR (q_n (M 127) 6) 0 (Nat.zero_add _) none (fun v hv => absurd hv (by omega))).mono (fun r M9 h9 => ?_)
    obtain ⟨a9, ea, eb, ec⟩ := h9
    subst ec
    refine ⟨a9, ea, MQq.of hid_good hW (eb.trans ?_) (by unfold pa_clash; (repeat' split) <;> first | rfl | (exfalso; omega))⟩
    unfold pa_clash
    (repeat' split) <;> first | rfl | (exfalso; omega)
  · have h8 : ¬ M 124 14 ≠ 0 := h8
    refine p_aload_n 12 dX12_clash_11 rfl rfl (by decide) ?_
    refine p_iconst 13 dX12_clash_12 ?_
    refine p_callV1i 124 16 dX12_clash_13 s_no lk_X12_168 mX12_no rfl rfl (by decide) (Nat.le_of_ble_eq_true rfl) ?_
    rintro _ _ ⟨rfl, rfl⟩
    refine p_iret dX12_clash_16 rfl ?_
    exact ⟨_, rfl, MQq.of hid_no hW (by unfold pa_clash; (repeat' split) <;> first | rfl | (exfalso; omega)) (by unfold pa_clash; (repeat' split) <;> first | rfl | (exfalso; omega))⟩
