/-- an act's end: the class's, the model's -/
def CA (M : ZM) (p : Int × ZM) : Int → ZM → Prop := fun a M' => a = p.1 ∧ IC p.2 M' ∧ ∀ k, 124 ≤ k → M' k = M k
def MA (M : ZM) (p : Int × ZM) : Int → ZM → Prop := fun a M' => a = p.1 ∧ (∀ k, k < 124 → M' k = M k) ∧ zWm M' ∧ Obs p.2 M'
theorem CA.no {M : ZM} {p : Int × ZM} {a v : Int} (hI : IC M M) (hF : WF M) (ha : a = p.1) (hp : p.2 = zset M 124 11 v) (h4 : v ≠ 4) : CA M p a (zset M 0 2 v) := by
  refine ⟨ha, ?_, fun k hk => zset_ne M (by omega)⟩
  rw [hp]
  exact hI.tr hF h4
theorem MA.no {M : ZM} {p : Int × ZM} {a v : Int} (hW : zWm M) (ha : a = p.1) (hp : p.2 = zset M 124 11 v) : MA M p a (zset (zset (zset M 124 0 0) 124 11 0) 124 11 v) := by
  refine ⟨ha, fun k hk => ?_, hid_no.wm hW, ?_⟩
  · rw [zset_ne _ (by omega), zset_ne _ (by omega), zset_ne _ (by omega)]
  · rw [hp]
    exact ⟨rfl, rfl, rfl, rfl, rfl, rfl, rfl, rfl, rfl, rfl, rfl, rfl⟩
def ga_seed (M : ZM) (v : Int) : Int × ZM := if M 124 14 = 0 then (0, zset M 124 11 1) else if 0 ≤ v ∧ v ≤ 65536 then (1, zset (zset M 129 17 v) 124 11 0) else (0, zset M 124 11 2)
theorem zset_k {M : ZM} {c k b : Nat} {v : Int} (h : b ≠ k) : zset M c k v c b = M c b := by
  unfold zset
  rw [if_pos rfl, if_neg h]
theorem WF.now {s s' : ZM} (h : WF s) (h1 : s 124 14 = 1) (e125 : s' 125 = s 125) (e127 : s' 127 = s 127) (e130 : s' 130 = s 130) (e131 : s' 131 = s 131) (e14 : s' 124 14 = s 124 14) (e2 : s' 124 2 = s 124 2) (e9 : s' 124 9 = s 124 9) (e10 : s' 124 10 = s 124 10) (e20 : s' 124 20 = s 124 20) (e21 : s' 124 21 = s 124 21) (htr : 0 ≤ s' 124 11 ∧ s' 124 11 ≤ 6) (hT : wfT (s 127) (s' 129)) : WF s' := by
  obtain ⟨a1, a2, a3, a4, a5, a6, a7, a8, a9, a10, a11, a12, a13, a14, a15⟩ := h
  unfold WF
  rw [e125, e127, e130, e131, e14, e2, e9, e10, e20, e21]
  exact ⟨a1, a2, htr, a4, a5, a6, a7, a8, a9, hT, a11, a12, a13, a14, fun h0 => absurd h0 (by omega)⟩
theorem WF.tr {s : ZM} (h : WF s) {v : Int} (h1 : 0 ≤ v) (h2 : v ≤ 6) : WF (zset s 124 11 v) := by
  obtain ⟨a1, a2, a3, a4, a5, a6, a7, a8, a9, a10, a11, a12, a13, a14, a15⟩ := h
  exact ⟨a1, a2, ⟨h1, h2⟩, a4, a5, a6, a7, a8, a9, a10, a11, a12, a13, a14, a15⟩
theorem WF.seed {M : ZM} (h : WF M) (v : Int) : WF (ga_seed M v).2 := by
  unfold ga_seed
  split
  · exact h.tr (by decide) (by decide)
  · split
    · rename_i h0 hv
      refine h.now (by have := h.h; omega) rfl rfl rfl rfl rfl rfl rfl rfl rfl rfl ⟨Int.le_refl 0, by show (0 : Int) ≤ 6; decide⟩ ?_
      obtain ⟨b1, b2, b3, b4, b5, b6, b7⟩ := h.t
      have hz : ∀ i, i ≠ 17 → (1, zset (zset M 129 17 v) 124 11 0).2 129 i = M 129 i := fun i hi => (show zset M 129 17 v 129 i = M 129 i from zset_k hi)
      have hz17 : (1, zset (zset M 129 17 v) 124 11 0).2 129 17 = v := rfl
      refine ⟨fun i hi => ?_, fun s hs => ?_, ?_, ?_, ?_, ?_, fun a ha => ?_⟩
      · by_cases e : i = 17
        · subst e; rw [hz17]; exact hv.1
        · rw [hz i e]; exact b1 i hi
      · rw [hz s (by omega), hz (7 + s) (by omega), hz 15 (by decide)]; exact b2 s hs
      · rw [hz 14 (by decide)]; exact b3
      · rw [hz 15 (by decide)]; exact b4
      · rw [hz 16 (by decide)]; exact b5
      · rw [hz17]; exact hv.2
      · rw [q_sum_congr (g := fun s => if M 129 (7 + s) = (a : Int) + 1 then 1 else 0) (fun i hi => by show (if _ = _ then _ else _) = _; rw [hz (7 + i) (by omega)])]
        exact b7 a ha
    · exact h.tr (by decide) (by decide)
theorem c_seed {l : Launch} {X : ZX} {M : ZM} (hI : IC M M) (hF : WF M) {v : Int} (hv1 : -2147483648 ≤ v) (hv2 : v < 2147483648) : zCi l X 1 yX11_seed tX11_seed [zr 0, zi v] M (CA M (ga_seed M v)) := by
  obtain ⟨hW, ⟨c, c', hcc, hco, hsp, hC⟩, ⟨j1, j2, j3, j4, j5⟩, hN, hpast, hten, ⟨hz0, hsea⟩, hfit⟩ := id hI
  have hR := hF.r
  have hT := hF.t
  have hh := hF.h
  have e0 : M 127 0 = (q_n (M 127) 0 : Int) := hR.n (by decide)
  have e2 : M 127 2 = (q_n (M 127) 2 : Int) := hR.n (by decide)
  have e3 : M 127 3 = (q_n (M 127) 3 : Int) := hR.n (by decide)
  have e4 : M 127 4 = (q_n (M 127) 4 : Int) := hR.n (by decide)
  have bR := hR.2.1
  have h20 : M 124 14 = 0 → M 127 2 = 0 := fun h => hF.r0 h 2 (by decide)
  have h30 : M 124 14 = 0 → M 127 3 = 0 := fun h => hF.r0 h 3 (by decide)
  have h40 : M 124 14 = 0 → M 127 4 = 0 := fun h => hF.r0 h 4 (by decide)
  have hwo : M 49 3 = M 129 16 := hN.2.2.2.1
  have t160 := hT.1 16 (by decide)
  have t161 := hT.2.2.2.2.1
  refine zC.of [some (zr 0), some (zi v)] (by decide +kernel) rfl rfl (Nat.le_of_ble_eq_true rfl) rfl ?_
  rcases hcc with ⟨rfl, rfl⟩ | ⟨rfl, rfl⟩
  · have hto : M 2 0 = M 124 14 := hC.1.1
    have hla : M 2 1 = M 127 0 := hC.1.2.1
    have hsn : M 2 2 = M 127 1 := hC.1.2.2.1
    have hcs : M 3 0 = M 127 2 := hC.1.2.2.2.1
    have hca : M 8 0 = M 127 3 := hC.1.2.2.2.2.1
    have hcw : M 13 0 = M 127 4 := hC.1.2.2.2.2.2.1
    have hcb : M 13 1 = M 127 5 := hC.1.2.2.2.2.2.2.1
    have hcor : M 19 0 = M 127 6 := hC.1.2.2.2.2.2.2.2.1
    have hcn : M 19 4 = M 127 7 := hC.1.2.2.2.2.2.2.2.2
    refine p_aload_n 1 dX11_seed_0 rfl rfl (by decide) ?_
    refine p_getR 0 4 dX11_seed_1 fX11_16 rfl hco ?_
    refine p_getI 2 7 dX11_seed_4 fX11_114 rfl ?_
    rw [hto]
    refine p_if_ne 16 10 dX11_seed_7 (by omega) (by omega) (fun h7 => ?_) (fun h7 => ?_)
    · refine p_iload_n 17 dX11_seed_16 rfl rfl ?_
      refine p_if_lt 27 20 dX11_seed_17 (by omega) (by omega) (fun h17 => ?_) (fun h17 => ?_)
      · refine p_aload_n 28 dX11_seed_27 rfl rfl (by decide) ?_
        refine p_iconst 29 dX11_seed_28 ?_
        refine p_callV1i 0 32 dX11_seed_29 s_deny lk_X11_329 mX11_deny rfl rfl (by decide) (Nat.le_of_ble_eq_true rfl) ?_
        rintro _ _ ⟨rfl, rfl⟩
        refine p_zret dX11_seed_32 rfl (by decide) ?_
        exact ⟨_, rfl, CA.no hI hF (by unfold ga_seed; (repeat' split) <;> first | rfl | (exfalso; omega)) (by unfold ga_seed; (repeat' split) <;> first | rfl | (exfalso; omega)) (by decide)⟩
      · refine p_iload_n 21 dX11_seed_20 rfl rfl ?_
        refine p_ldcw (z := 65536) 24 dX11_seed_21 kk_X11_352 rfl ?_
        refine p_icmp_le 33 27 dX11_seed_24 (by omega) (by omega) (by omega) (by omega) (fun h24 => ?_) (fun h24 => ?_)
        · refine p_aload_n 34 dX11_seed_33 rfl rfl (by decide) ?_
          refine p_getR 0 37 dX11_seed_34 fX11_33 rfl (hW (0, 8, 49) (by decide)) ?_
          refine p_iload_n 38 dX11_seed_37 rfl rfl ?_
          refine p_putI 49 41 dX11_seed_38 wX11_349 rfl ?_
          refine p_aload_n 42 dX11_seed_41 rfl rfl (by decide) ?_
          refine p_callV0i 0 45 dX11_seed_42 s_allow lk_X11_339 mX11_allow rfl rfl (by decide) (Nat.le_of_ble_eq_true rfl) ?_
          rintro _ _ ⟨rfl, rfl⟩
          refine p_zret dX11_seed_45 rfl (by decide) ?_
          refine ⟨_, rfl, ?_⟩
          unfold ga_seed
          rw [if_neg (by omega), if_pos (by omega)]
          refine ⟨rfl, ?_, fun k hk => by rw [zset_ne _ (by omega), zset_ne _ (by omega)]⟩
          refine hI.now hF ((hW.set (by decide +kernel)).set (by decide +kernel)) rfl rfl rfl rfl rfl rfl rfl rfl rfl (fun a g1 g2 g3 g4 g5 => by rw [zset_ne _ g1, zset_ne _ g2]) (fun k hk => ?_) rfl (by show (0 : Int) ≠ 4; decide) ?_
          · rw [zset_k hk]
            rfl
          · obtain ⟨n1, n2, n3, n4, n5, n6⟩ := hN
            refine ⟨n1, rfl, n3, n4, fun s hs => ?_, fun h1 s hs => ?_⟩
            · show M 50 s = zset M 129 17 v 129 s
              rw [zset_k (by omega)]
              exact n5 s hs
            · show M 51 s = q_tnd (zset M 129 17 v 129 (7 + s))
              rw [zset_k (by omega)]
              exact n6 h1 s hs
        · refine p_aload_n 28 dX11_seed_27 rfl rfl (by decide) ?_
          refine p_iconst 29 dX11_seed_28 ?_
          refine p_callV1i 0 32 dX11_seed_29 s_deny lk_X11_329 mX11_deny rfl rfl (by decide) (Nat.le_of_ble_eq_true rfl) ?_
          rintro _ _ ⟨rfl, rfl⟩
          refine p_zret dX11_seed_32 rfl (by decide) ?_
          exact ⟨_, rfl, CA.no hI hF (by unfold ga_seed; (repeat' split) <;> first | rfl | (exfalso; omega)) (by unfold ga_seed; (repeat' split) <;> first | rfl | (exfalso; omega)) (by decide)⟩
    · refine p_aload_n 11 dX11_seed_10 rfl rfl (by decide) ?_
      refine p_iconst 12 dX11_seed_11 ?_
      refine p_callV1i 0 15 dX11_seed_12 s_deny lk_X11_329 mX11_deny rfl rfl (by decide) (Nat.le_of_ble_eq_true rfl) ?_
      rintro _ _ ⟨rfl, rfl⟩
      refine p_zret dX11_seed_15 rfl (by decide) ?_
      exact ⟨_, rfl, CA.no hI hF (by unfold ga_seed; (repeat' split) <;> first | rfl | (exfalso; omega)) (by unfold ga_seed; (repeat' split) <;> first | rfl | (exfalso; omega)) (by decide)⟩
  · have hto : M 25 0 = M 124 14 := hC.1.1
    have hla : M 25 1 = M 127 0 := hC.1.2.1
    have hsn : M 25 2 = M 127 1 := hC.1.2.2.1
    have hcs : M 26 0 = M 127 2 := hC.1.2.2.2.1
    have hca : M 31 0 = M 127 3 := hC.1.2.2.2.2.1
    have hcw : M 36 0 = M 127 4 := hC.1.2.2.2.2.2.1
    have hcb : M 36 1 = M 127 5 := hC.1.2.2.2.2.2.2.1
    have hcor : M 42 0 = M 127 6 := hC.1.2.2.2.2.2.2.2.1
    have hcn : M 42 4 = M 127 7 := hC.1.2.2.2.2.2.2.2.2
    refine p_aload_n 1 dX11_seed_0 rfl rfl (by decide) ?_
    refine p_getR 0 4 dX11_seed_1 fX11_16 rfl hco ?_
    refine p_getI 25 7 dX11_seed_4 fX11_114 rfl ?_
    rw [hto]
    refine p_if_ne 16 10 dX11_seed_7 (by omega) (by omega) (fun h7 => ?_) (fun h7 => ?_)
    · refine p_iload_n 17 dX11_seed_16 rfl rfl ?_
      refine p_if_lt 27 20 dX11_seed_17 (by omega) (by omega) (fun h17 => ?_) (fun h17 => ?_)
      · refine p_aload_n 28 dX11_seed_27 rfl rfl (by decide) ?_
        refine p_iconst 29 dX11_seed_28 ?_
        refine p_callV1i 0 32 dX11_seed_29 s_deny lk_X11_329 mX11_deny rfl rfl (by decide) (Nat.le_of_ble_eq_true rfl) ?_
        rintro _ _ ⟨rfl, rfl⟩
        refine p_zret dX11_seed_32 rfl (by decide) ?_
        exact ⟨_, rfl, CA.no hI hF (by unfold ga_seed; (repeat' split) <;> first | rfl | (exfalso; omega)) (by unfold ga_seed; (repeat' split) <;> first | rfl | (exfalso; omega)) (by decide)⟩
      · refine p_iload_n 21 dX11_seed_20 rfl rfl ?_
        refine p_ldcw (z := 65536) 24 dX11_seed_21 kk_X11_352 rfl ?_
        refine p_icmp_le 33 27 dX11_seed_24 (by omega) (by omega) (by omega) (by omega) (fun h24 => ?_) (fun h24 => ?_)
        · refine p_aload_n 34 dX11_seed_33 rfl rfl (by decide) ?_
          refine p_getR 0 37 dX11_seed_34 fX11_33 rfl (hW (0, 8, 49) (by decide)) ?_
          refine p_iload_n 38 dX11_seed_37 rfl rfl ?_
          refine p_putI 49 41 dX11_seed_38 wX11_349 rfl ?_
          refine p_aload_n 42 dX11_seed_41 rfl rfl (by decide) ?_
          refine p_callV0i 0 45 dX11_seed_42 s_allow lk_X11_339 mX11_allow rfl rfl (by decide) (Nat.le_of_ble_eq_true rfl) ?_
          rintro _ _ ⟨rfl, rfl⟩
          refine p_zret dX11_seed_45 rfl (by decide) ?_
          refine ⟨_, rfl, ?_⟩
          unfold ga_seed
          rw [if_neg (by omega), if_pos (by omega)]
          refine ⟨rfl, ?_, fun k hk => by rw [zset_ne _ (by omega), zset_ne _ (by omega)]⟩
          refine hI.now hF ((hW.set (by decide +kernel)).set (by decide +kernel)) rfl rfl rfl rfl rfl rfl rfl rfl rfl (fun a g1 g2 g3 g4 g5 => by rw [zset_ne _ g1, zset_ne _ g2]) (fun k hk => ?_) rfl (by show (0 : Int) ≠ 4; decide) ?_
          · rw [zset_k hk]
            rfl
          · obtain ⟨n1, n2, n3, n4, n5, n6⟩ := hN
            refine ⟨n1, rfl, n3, n4, fun s hs => ?_, fun h1 s hs => ?_⟩
            · show M 50 s = zset M 129 17 v 129 s
              rw [zset_k (by omega)]
              exact n5 s hs
            · show M 51 s = q_tnd (zset M 129 17 v 129 (7 + s))
              rw [zset_k (by omega)]
              exact n6 h1 s hs
        · refine p_aload_n 28 dX11_seed_27 rfl rfl (by decide) ?_
          refine p_iconst 29 dX11_seed_28 ?_
          refine p_callV1i 0 32 dX11_seed_29 s_deny lk_X11_329 mX11_deny rfl rfl (by decide) (Nat.le_of_ble_eq_true rfl) ?_
          rintro _ _ ⟨rfl, rfl⟩
          refine p_zret dX11_seed_32 rfl (by decide) ?_
          exact ⟨_, rfl, CA.no hI hF (by unfold ga_seed; (repeat' split) <;> first | rfl | (exfalso; omega)) (by unfold ga_seed; (repeat' split) <;> first | rfl | (exfalso; omega)) (by decide)⟩
    · refine p_aload_n 11 dX11_seed_10 rfl rfl (by decide) ?_
      refine p_iconst 12 dX11_seed_11 ?_
      refine p_callV1i 0 15 dX11_seed_12 s_deny lk_X11_329 mX11_deny rfl rfl (by decide) (Nat.le_of_ble_eq_true rfl) ?_
      rintro _ _ ⟨rfl, rfl⟩
      refine p_zret dX11_seed_15 rfl (by decide) ?_
      exact ⟨_, rfl, CA.no hI hF (by unfold ga_seed; (repeat' split) <;> first | rfl | (exfalso; omega)) (by unfold ga_seed; (repeat' split) <;> first | rfl | (exfalso; omega)) (by decide)⟩
theorem m_seed {l : Launch} {X : ZX} {M : ZM} (hW : zWm M) (hF : WF M) {v : Int} (hv1 : -2147483648 ≤ v) (hv2 : v < 2147483648) : zCi l X 1 yX12_seed tX12_seed [zr 124, zi v] M (MA M (ga_seed M v)) := by
  have hWg : zWm (zset (zset M 124 0 0) 124 11 0) := (hW.set (by decide +kernel)).set (by decide +kernel)
  have hR := hF.r
  have hT := hF.t
  have hh := hF.h
  have e0 : M 127 0 = (q_n (M 127) 0 : Int) := hR.n (by decide)
  have e2 : M 127 2 = (q_n (M 127) 2 : Int) := hR.n (by decide)
  have e3 : M 127 3 = (q_n (M 127) 3 : Int) := hR.n (by decide)
  have e4 : M 127 4 = (q_n (M 127) 4 : Int) := hR.n (by decide)
  have bR := hR.2.1
  have h20 : M 124 14 = 0 → M 127 2 = 0 := fun h => hF.r0 h 2 (by decide)
  have h30 : M 124 14 = 0 → M 127 3 = 0 := fun h => hF.r0 h 3 (by decide)
  have h40 : M 124 14 = 0 → M 127 4 = 0 := fun h => hF.r0 h 4 (by decide)
  refine zC.of [some (zr 124), some (zi v)] (by decide +kernel) rfl rfl (Nat.le_of_ble_eq_true rfl) rfl ?_
  refine p_aload_n 1 dX12_seed_0 rfl rfl (by decide) ?_
  refine p_callV0v 124 4 dX12_seed_1 s_good lk_X12_165 mX12_good rfl rfl (by decide) (Nat.le_of_ble_eq_true rfl) ?_
  rintro _ rfl
  refine p_aload_n 5 dX12_seed_4 rfl rfl (by decide) ?_
  refine p_getI 124 8 dX12_seed_5 fX12_178 rfl ?_
  refine p_if_ne 17 11 dX12_seed_8 (by show _ ≤ M 124 14; omega) (by show M 124 14 < _; omega) (fun h8 => ?_) (fun h8 => ?_)
  · have h8 : ¬ M 124 14 = 0 := h8
    refine p_iload_n 18 dX12_seed_17 rfl rfl ?_
    refine p_iconst 19 dX12_seed_18 ?_
    refine p_ldcw (z := 65536) 22 dX12_seed_19 kk_X12_419 rfl ?_
    refine p_callS3i 25 dX12_seed_22 (s_in (by omega) (by omega) (by omega) (by omega) (by omega) (by omega)) lk_X12_146 mX12_in (by decide) (Nat.le_of_ble_eq_true rfl) ?_
    rintro _ _ ⟨rfl, e9⟩
    have e9 := e9.symm
    subst e9
    refine p_if_ne 34 28 dX12_seed_25 (by split <;> omega) (by split <;> omega) (fun h25 => ?_) (fun h25 => ?_)
    · have h25 := if_ne0 h25
      refine p_aload_n 35 dX12_seed_34 rfl rfl (by decide) ?_
      refine p_getR 124 38 dX12_seed_35 fX12_26 rfl (hWg (124, 17, 129) (by decide)) ?_
      refine p_bipush 40 dX12_seed_38 rfl ?_
      refine p_iload_n 41 dX12_seed_40 rfl rfl ?_
      refine p_iast 129 42 dX12_seed_41 rfl (by omega) (by omega) ?_
      try simp only [Int.toNat_natCast, Int.reduceToNat]
      refine p_iconst 43 dX12_seed_42 ?_
      refine p_zret dX12_seed_43 rfl (by decide) ?_
      refine ⟨_, rfl, ?_⟩
      unfold ga_seed
      rw [if_neg (by omega), if_pos (by omega)]
      refine ⟨rfl, fun k hk => by rw [zset_ne _ (by omega), zset_ne _ (by omega), zset_ne _ (by omega)], hWg.set (by decide +kernel), ?_⟩
      exact ⟨rfl, rfl, rfl, rfl, rfl, rfl, rfl, rfl, rfl, rfl, rfl, rfl⟩
    · have h25 := if_nne0 h25
      refine p_aload_n 29 dX12_seed_28 rfl rfl (by decide) ?_
      refine p_iconst 30 dX12_seed_29 ?_
      refine p_callV1i 124 33 dX12_seed_30 s_isNot lk_X12_431 mX12_isNot rfl rfl (by decide) (Nat.le_of_ble_eq_true rfl) ?_
      rintro _ _ ⟨rfl, rfl⟩
      refine p_zret dX12_seed_33 rfl (by decide) ?_
      exact ⟨_, rfl, MA.no hW (by unfold ga_seed; (repeat' split) <;> first | rfl | (exfalso; omega)) (by unfold ga_seed; (repeat' split) <;> first | rfl | (exfalso; omega))⟩
  · have h8 : ¬ M 124 14 ≠ 0 := h8
    refine p_aload_n 12 dX12_seed_11 rfl rfl (by decide) ?_
    refine p_iconst 13 dX12_seed_12 ?_
    refine p_callV1i 124 16 dX12_seed_13 s_isNot lk_X12_431 mX12_isNot rfl rfl (by decide) (Nat.le_of_ble_eq_true rfl) ?_
    rintro _ _ ⟨rfl, rfl⟩
    refine p_zret dX12_seed_16 rfl (by decide) ?_
    exact ⟨_, rfl, MA.no hW (by unfold ga_seed; (repeat' split) <;> first | rfl | (exfalso; omega)) (by unfold ga_seed; (repeat' split) <;> first | rfl | (exfalso; omega))⟩
theorem zcopy_at {M : ZM} {f a t i m b : Nat} (h : b < m) : zcopy M f a t i m t (i + b) = M f (a + b) := by
  unfold zcopy
  rw [if_pos ⟨rfl, by omega, by omega⟩]
  congr 1
  omega
theorem zcopy_out {M : ZM} {f a t i m b : Nat} (h : b < i ∨ i + m ≤ b) : zcopy M f a t i m t b = M t b := by
  unfold zcopy
  rw [if_neg (by omega)]
def q_undone (M : ZM) : ZM := zset (zset (zcopy M 130 (18 * (M 124 20 - 1).toNat) 129 0 18) 124 20 (M 124 20 - 1)) 124 11 0
def ga_undo (M : ZM) : Int × ZM := if M 124 20 = 0 then (0, zset M 124 11 6) else (1, q_undone M)
def q_imaged (M : ZM) : ZM := zset (zset (zcopy M 129 0 131 (18 * (M 124 21).toNat) 18) 124 21 (M 124 21 + 1)) 124 11 0
def ga_image (M : ZM) : Int × ZM := if M 124 14 = 0 then (-1, zset M 124 11 1) else if M 124 21 = 3 then (-1, zset M 124 11 3) else (M 124 21, q_imaged M)
def q_backed (M : ZM) (v : Int) : ZM := zset (zset (zcopy M 131 (18 * v.toNat) 129 0 18) 124 20 0) 124 11 0
def ga_back (M : ZM) (v : Int) : Int × ZM := if v < 0 ∨ M 124 21 ≤ v then (0, zset M 124 11 1) else (1, q_backed M v)
theorem q_undone_129 {M : ZM} {i : Nat} (hi : i < 18) : q_undone M 129 i = M 130 (18 * (M 124 20 - 1).toNat + i) := by
  have h := zcopy_at (M := M) (f := 130) (a := 18 * (M 124 20 - 1).toNat) (t := 129) (i := 0) (m := 18) hi
  rw [Nat.zero_add] at h
  exact h
theorem q_backed_129 {M : ZM} {v : Int} {i : Nat} (hi : i < 18) : q_backed M v 129 i = M 131 (18 * v.toNat + i) := by
  have h := zcopy_at (M := M) (f := 131) (a := 18 * v.toNat) (t := 129) (i := 0) (m := 18) hi
  rw [Nat.zero_add] at h
  exact h
theorem zcopy_cell {M : ZM} {f a t i m x : Nat} (h : x ≠ t) : zcopy M f a t i m x = M x := zcopy_ne M h
theorem q_undone_ne {M : ZM} {x : Nat} (h1 : x ≠ 124) (h2 : x ≠ 129) : q_undone M x = M x := by
  unfold q_undone
  rw [zset_ne _ h1, zset_ne _ h1, zcopy_ne _ h2]
theorem q_backed_ne {M : ZM} {v : Int} {x : Nat} (h1 : x ≠ 124) (h2 : x ≠ 129) : q_backed M v x = M x := by
  unfold q_backed
  rw [zset_ne _ h1, zset_ne _ h1, zcopy_ne _ h2]
theorem q_imaged_ne {M : ZM} {x : Nat} (h1 : x ≠ 124) (h2 : x ≠ 131) : q_imaged M x = M x := by
  unfold q_imaged
  rw [zset_ne _ h1, zset_ne _ h1, zcopy_ne _ h2]
theorem WF.undo {M : ZM} (h : WF M) : WF (ga_undo M).2 := by
  unfold ga_undo
  split
  · exact h.tr (by decide) (by decide)
  · rename_i hu
    have hu2 := h.u
    have hr := h.ur (M 124 20 - 1).toNat (by omega)
    have h1 : M 124 14 = 1 := by
      rcases h.h with g | g
      · exact absurd (h.t0 g).2.1 hu
      · exact g
    have hm := h.ur
    obtain ⟨a1, a2, a3, a4, a5, a6, a7, a8, a9, a10, a11, a12, a13, a14, a15⟩ := h
    have e125 : q_undone M 125 = M 125 := q_undone_ne (by decide) (by decide)
    have e127 : q_undone M 127 = M 127 := q_undone_ne (by decide) (by decide)
    have e130 : q_undone M 130 = M 130 := q_undone_ne (by decide) (by decide)
    have e131 : q_undone M 131 = M 131 := q_undone_ne (by decide) (by decide)
    have e124 : ∀ k, k ≠ 11 → k ≠ 20 → q_undone M 124 k = M 124 k := fun k g1 g2 => by
      unfold q_undone
      rw [zset_k g1, zset_k g2, zcopy_cell (by decide)]
    have e20 : q_undone M 124 20 = M 124 20 - 1 := rfl
    show WF (q_undone M)
    unfold WF
    rw [e125, e127, e130, e131, e124 2 (by decide) (by decide), e124 9 (by decide) (by decide), e124 10 (by decide) (by decide), e124 14 (by decide) (by decide), e124 21 (by decide) (by decide), e20]
    exact ⟨a1, a2, ⟨Int.le_refl 0, by show (0 : Int) ≤ 6; decide⟩, a4, a5, a6, a7, a8, a9, hr.congr (fun i hi => q_undone_129 hi), ⟨by omega, by omega⟩, fun j hj => hm j (by omega), a13, a14, fun g => absurd g (by omega)⟩
theorem WF.back {M : ZM} (h : WF M) (v : Int) : WF (ga_back M v).2 := by
  unfold ga_back
  split
  · exact h.tr (by decide) (by decide)
  · rename_i hv
    have hm := h.m
    have hr := h.mr v.toNat (by omega)
    have h1 : M 124 14 = 1 := by
      rcases h.h with g | g
      · have := (h.t0 g).2.2; omega
      · exact g
    obtain ⟨a1, a2, a3, a4, a5, a6, a7, a8, a9, a10, a11, a12, a13, a14, a15⟩ := h
    have e125 : q_backed M v 125 = M 125 := q_backed_ne (by decide) (by decide)
    have e127 : q_backed M v 127 = M 127 := q_backed_ne (by decide) (by decide)
    have e130 : q_backed M v 130 = M 130 := q_backed_ne (by decide) (by decide)
    have e131 : q_backed M v 131 = M 131 := q_backed_ne (by decide) (by decide)
    have e124 : ∀ k, k ≠ 11 → k ≠ 20 → q_backed M v 124 k = M 124 k := fun k g1 g2 => by
      unfold q_backed
      rw [zset_k g1, zset_k g2, zcopy_cell (by decide)]
    have e20 : q_backed M v 124 20 = 0 := rfl
    show WF (q_backed M v)
    unfold WF
    rw [e125, e127, e130, e131, e124 2 (by decide) (by decide), e124 9 (by decide) (by decide), e124 10 (by decide) (by decide), e124 14 (by decide) (by decide), e124 21 (by decide) (by decide), e20]
    exact ⟨a1, a2, ⟨Int.le_refl 0, by show (0 : Int) ≤ 6; decide⟩, a4, a5, a6, a7, a8, a9, hr.congr (fun i hi => q_backed_129 hi), ⟨by decide, by decide⟩, fun j hj => absurd hj (by omega), a13, a14, fun g => absurd g (by omega)⟩
theorem q_imaged_row {M : ZM} {j i : Nat} (hm : 0 ≤ M 124 21) (hj : (j : Int) < M 124 21 + 1) (hi : i < 18) : q_imaged M 131 (18 * j + i) = if (j : Int) = M 124 21 then M 129 i else M 131 (18 * j + i) := by
  show zcopy M 129 0 131 (18 * (M 124 21).toNat) 18 131 (18 * j + i) = _
  by_cases e : (j : Int) = M 124 21
  · rw [if_pos e]
    have h := zcopy_at (M := M) (f := 129) (a := 0) (t := 131) (i := 18 * (M 124 21).toNat) (m := 18) hi
    rw [Nat.zero_add, show 18 * (M 124 21).toNat + i = 18 * j + i by omega] at h
    exact h
  · rw [if_neg e]
    exact zcopy_out (by omega)
theorem WF.image {M : ZM} (h : WF M) : WF (ga_image M).2 := by
  unfold ga_image
  split
  · exact h.tr (by decide) (by decide)
  · split
    · exact h.tr (by decide) (by decide)
    · rename_i h0 h3
      have hm := h.m
      have hmr := h.mr
      have hT := h.t
      obtain ⟨a1, a2, a3, a4, a5, a6, a7, a8, a9, a10, a11, a12, a13, a14, a15⟩ := h
      have e125 : q_imaged M 125 = M 125 := q_imaged_ne (by decide) (by decide)
      have e127 : q_imaged M 127 = M 127 := q_imaged_ne (by decide) (by decide)
      have e130 : q_imaged M 130 = M 130 := q_imaged_ne (by decide) (by decide)
      have e129 : q_imaged M 129 = M 129 := q_imaged_ne (by decide) (by decide)
      have e124 : ∀ k, k ≠ 11 → k ≠ 21 → q_imaged M 124 k = M 124 k := fun k g1 g2 => by
        unfold q_imaged
        rw [zset_k g1, zset_k g2, zcopy_cell (by decide)]
      have e21 : q_imaged M 124 21 = M 124 21 + 1 := rfl
      show WF (q_imaged M)
      unfold WF
      rw [e125, e127, e130, e129, e124 2 (by decide) (by decide), e124 9 (by decide) (by decide), e124 10 (by decide) (by decide), e124 14 (by decide) (by decide), e124 20 (by decide) (by decide), e21]
      refine ⟨a1, a2, ⟨Int.le_refl 0, by show (0 : Int) ≤ 6; decide⟩, a4, a5, a6, a7, a8, a9, a10, a11, a12, ⟨by omega, by omega⟩, fun j hj => ?_, fun g => absurd g h0⟩
      by_cases e : (j : Int) = M 124 21
      · exact hT.congr (fun i hi => by show q_imaged M 131 (18 * j + i) = _; rw [q_imaged_row hm.1 hj hi, if_pos e])
      · exact (hmr j (by omega)).congr (fun i hi => by show q_imaged M 131 (18 * j + i) = _; rw [q_imaged_row hm.1 hj hi, if_neg e])
theorem IC.past {s s' M M' : ZM} (h : IC s M) (hw : zWc M') (e125 : s' 125 = s 125) (e127 : s' 127 = s 127) (e14 : s' 124 14 = s 124 14) (e2 : s' 124 2 = s 124 2) (e9 : s' 124 9 = s 124 9) (hM : ∀ a, (1 ≤ a ∧ a ≤ 47) ∨ (112 ≤ a ∧ a < 124) → M' a = M a) (h0 : ∀ k, k ≠ 2 → M' 0 k = M 0 k) (h2 : M' 0 2 = s' 124 11) (h4 : s' 124 11 ≠ 4) (hn : ICn (s' 129) (s' 124 14) 49 M') (hp : ICp s' M') : IC s' M' := by
  obtain ⟨-, -, -, -, -, hten, ⟨hz0, hsea⟩, hfit⟩ := id h
  have hk : ∀ a, 112 ≤ a → a < 124 → M' a = M a := fun a g1 g2 => hM a (Or.inr ⟨g1, g2⟩)
  refine h.gen hw e125 e127 e14 e2 e9 (fun a g1 g2 => hM a (Or.inl ⟨g1, g2⟩)) h0 h2 (fun g => absurd g h4) hn hp ?_ ?_ ?_ ?_
  · rw [e127, hk 112 (by decide) (by decide)]
    exact hten.imp id (fun g => ⟨g.1, g.2.congr (hk _ (by decide) (by decide)) (hk _ (by decide) (by decide)) (hk _ (by decide) (by decide))⟩)
  · rw [hk 116 (by decide) (by decide), hk 117 (by decide) (by decide), hk 118 (by decide) (by decide), hk 119 (by decide) (by decide)]
    exact hz0
  · rw [e127, hk 115 (by decide) (by decide)]
    exact hsea.imp id (fun g => ⟨g.1, g.2.congr (hk _ (by decide) (by decide)) (hk _ (by decide) (by decide)) (hk _ (by decide) (by decide)) (hk _ (by decide) (by decide)) (hk _ (by decide) (by decide))⟩)
  · rw [e127, hk 121 (by decide) (by decide)]
    exact hfit.imp id (fun g => ⟨g.1, g.2.congr (hk _ (by decide) (by decide))⟩)
theorem c_undo {l : Launch} {X : ZX} {M : ZM} (hI : IC M M) (hF : WF M)  : zCi l X 2 yX11_undo tX11_undo [zr 0] M (CA M (ga_undo M)) := by
  obtain ⟨hW, ⟨c, c', hcc, hco, hsp, hC⟩, ⟨j1, j2, j3, j4, j5⟩, hN, hpast, hten, ⟨hz0, hsea⟩, hfit⟩ := id hI
  have hR := hF.r
  have hT := hF.t
  have hh := hF.h
  have e0 : M 127 0 = (q_n (M 127) 0 : Int) := hR.n (by decide)
  have e2 : M 127 2 = (q_n (M 127) 2 : Int) := hR.n (by decide)
  have e3 : M 127 3 = (q_n (M 127) 3 : Int) := hR.n (by decide)
  have e4 : M 127 4 = (q_n (M 127) 4 : Int) := hR.n (by decide)
  have bR := hR.2.1
  have h20 : M 124 14 = 0 → M 127 2 = 0 := fun h => hF.r0 h 2 (by decide)
  have h30 : M 124 14 = 0 → M 127 3 = 0 := fun h => hF.r0 h 3 (by decide)
  have h40 : M 124 14 = 0 → M 127 4 = 0 := fun h => hF.r0 h 4 (by decide)
  have hwo : M 49 3 = M 129 16 := hN.2.2.2.1
  have t160 := hT.1 16 (by decide)
  have t161 := hT.2.2.2.2.1
  refine zC.of [some (zr 0)] (by decide +kernel) rfl rfl (Nat.le_of_ble_eq_true rfl) rfl ?_
  rcases hcc with ⟨rfl, rfl⟩ | ⟨rfl, rfl⟩
  · have hto : M 2 0 = M 124 14 := hC.1.1
    have hla : M 2 1 = M 127 0 := hC.1.2.1
    have hsn : M 2 2 = M 127 1 := hC.1.2.2.1
    have hcs : M 3 0 = M 127 2 := hC.1.2.2.2.1
    have hca : M 8 0 = M 127 3 := hC.1.2.2.2.2.1
    have hcw : M 13 0 = M 127 4 := hC.1.2.2.2.2.2.1
    have hcb : M 13 1 = M 127 5 := hC.1.2.2.2.2.2.2.1
    have hcor : M 19 0 = M 127 6 := hC.1.2.2.2.2.2.2.2.1
    have hcn : M 19 4 = M 127 7 := hC.1.2.2.2.2.2.2.2.2
    have hu := hF.u
    have hm3 := hF.m
    obtain ⟨p1, p2, top, ht16, p3, p4, p5⟩ := id hpast
    obtain ⟨cnt, hcnt⟩ : ∃ k : Nat, M 124 20 = (k : Int) := ⟨(M 124 20).toNat, by omega⟩
    have hc52 : M 52 2 = (cnt : Int) := by omega
    obtain ⟨ki, hki⟩ : ∃ k : Nat, M 124 21 = (k : Int) := ⟨(M 124 21).toNat, by omega⟩
    have hc54 : M 52 4 = (ki : Int) := by omega
    refine p_aload_n 1 dX11_undo_0 rfl rfl (by decide) ?_
    refine p_getR 0 4 dX11_undo_1 fX11_40 rfl (hW (0, 9, 52) (by decide)) ?_
    refine p_getI 52 7 dX11_undo_4 fX11_353 rfl ?_
    rw [hc52]
    refine p_if_gt 17 10 dX11_undo_7 (by omega) (by omega) (fun h7 => ?_) (fun h7 => ?_)
    · have h1 : M 124 14 = 1 := by
        rcases hF.h with g | g
        · have := (hF.t0 g).2.1; omega
        · exact g
      have hrw := p4 (cnt - 1) (by omega)
      have ecw : (top + 16 - (M 124 20).toNat + (cnt - 1)) % 16 = (top + 15) % 16 := by omega
      rw [ecw] at hrw
      have hw3 := hrw.2.2.2.1
      have hwt := hF.ur (cnt - 1) (by omega)
      have hwa := hwt.1 16 (by decide)
      have hwb := hwt.2.2.2.2.1
      have hw01 : M 130 (18 * (cnt - 1) + 16) = 0 ∨ M 130 (18 * (cnt - 1) + 16) = 1 := by
        have g1 : 0 ≤ M 130 (18 * (cnt - 1) + 16) := hwa
        have g2 : M 130 (18 * (cnt - 1) + 16) ≤ 1 := hwb
        omega
      refine p_aload_n 18 dX11_undo_17 rfl rfl (by decide) ?_
      refine p_getR 0 21 dX11_undo_18 fX11_40 rfl (hW (0, 9, 52) (by decide)) ?_
      refine p_aload_n 22 dX11_undo_21 rfl rfl (by decide) ?_
      refine p_getR 0 25 dX11_undo_22 fX11_33 rfl (hW (0, 8, 49) (by decide)) ?_
      refine p_callV1v 52 28 dX11_undo_25 (s_takeBack hW ht16 (by omega) (by omega) p3 hc52 (by rw [hw3]; exact hw01)) lk_X11_354 mX5_takeBack rfl rfl (by decide) (Nat.le_of_ble_eq_true rfl) ?_
      rintro _ rfl
      refine p_aload_n 29 dX11_undo_28 rfl rfl (by decide) ?_
      refine p_callV0i 0 32 dX11_undo_29 s_allow lk_X11_339 mX11_allow rfl rfl (by decide) (Nat.le_of_ble_eq_true rfl) ?_
      rintro _ _ ⟨rfl, rfl⟩
      refine p_zret dX11_undo_32 rfl (by decide) ?_
      refine ⟨_, rfl, ?_⟩
      unfold ga_undo
      rw [if_neg (by omega)]
      refine ⟨rfl, ?_, fun k hk => by rw [zset_ne _ (by omega), zcp_other (by omega) (by omega) (by omega), zset_ne _ (by omega), zset_ne _ (by omega)]⟩
      have hx : (top + 15) % 16 < 16 := Nat.mod_lt _ (by decide)
      have hk : ∀ a, a ≠ 0 → a ≠ 49 → a ≠ 50 → a ≠ 51 → a ≠ 52 → zset (zcp (zset (zset M 52 1 (((top + 15) % 16 : Nat) : Int)) 52 2 ((cnt - 1 : Nat) : Int)) 49 (55 + 3 * ((top + 15) % 16)) 7) 0 2 0 a = M a := fun a g0 g1 g2 g3 g4 => by
        rw [zset_ne _ g0, zcp_other g1 g2 g3, zset_ne _ g4, zset_ne _ g4]
      have hk52 : ∀ k, zset (zcp (zset (zset M 52 1 (((top + 15) % 16 : Nat) : Int)) 52 2 ((cnt - 1 : Nat) : Int)) 49 (55 + 3 * ((top + 15) % 16)) 7) 0 2 0 52 k = zset (zset M 52 1 (((top + 15) % 16 : Nat) : Int)) 52 2 ((cnt - 1 : Nat) : Int) 52 k := fun k => by
        rw [zset_ne _ (by decide), zcp_other (by decide) (by decide) (by decide)]
      have hrow := p4 (cnt - 1) (by omega)
      rw [ecw] at hrow
      refine hI.past (s' := q_undone M) ?_ (q_undone_ne (by decide) (by decide)) (q_undone_ne (by decide) (by decide)) rfl rfl rfl (fun a g => hk a (by omega) (by omega) (by omega) (by omega) (by omega)) (fun k hk2 => ?_) rfl (by show (0 : Int) ≠ 4; decide) ?_ ⟨?_, ?_, (top + 15) % 16, hx, ?_, fun j hj => ?_, fun j hj => ?_⟩
      · exact (zcp_wc ((hW.set (by decide +kernel)).set (by decide +kernel)) isNow_49).set (by decide +kernel)
      · rw [zset_k hk2, zcp_other (by decide) (by decide) (by decide)]
        rfl
      · have e14 : q_undone M 124 14 = 1 := h1
        rw [e14]
        have hr2 : ICn (fun i => M 130 (18 * (cnt - 1) + i)) 1 (55 + 3 * ((top + 15) % 16)) (zset (zset M 52 1 (((top + 15) % 16 : Nat) : Int)) 52 2 ((cnt - 1 : Nat) : Int)) := hrow.congr (by rw [zset_ne _ (by omega), zset_ne _ (by omega)]) (by rw [zset_ne _ (by omega), zset_ne _ (by omega)]) (by rw [zset_ne _ (by omega), zset_ne _ (by omega)])
        have hz := zcp_ICn (e := 49) hr2 (Or.inr (by omega))
        refine (hz.congr (zset_ne _ (by decide)) (zset_ne _ (by decide)) (zset_ne _ (by decide))).rows (fun i hi => ?_)
        rw [q_undone_129 hi]
        congr 2
        omega
      · rw [hk52]
        show ((cnt - 1 : Nat) : Int) = M 124 20 - 1
        omega
      · rw [hk52]
        exact p2
      · rw [hk52]
        rfl
      · have hj2 : (j : Int) < M 124 20 - 1 := hj
        have e130 : (fun i => q_undone M 130 (18 * j + i)) = fun i => M 130 (18 * j + i) := by rw [q_undone_ne (by decide) (by decide)]
        rw [e130]
        have en : (q_undone M 124 20).toNat = (M 124 20).toNat - 1 := by
          show (M 124 20 - 1).toNat = _
          omega
        rw [en]
        have hp := p4 j (by omega)
        have ec : (top + 16 - (M 124 20).toNat + j) % 16 = ((top + 15) % 16 + 16 - ((M 124 20).toNat - 1) + j) % 16 := by omega
        rw [ec] at hp
        have hlt : ((top + 15) % 16 + 16 - ((M 124 20).toNat - 1) + j) % 16 < 16 := Nat.mod_lt _ (by decide)
        generalize ((top + 15) % 16 + 16 - ((M 124 20).toNat - 1) + j) % 16 = x at hp hlt ⊢
        exact hp.congr (hk _ (by omega) (by omega) (by omega) (by omega) (by omega)) (hk _ (by omega) (by omega) (by omega) (by omega) (by omega)) (hk _ (by omega) (by omega) (by omega) (by omega) (by omega))
      · have hj2 : (j : Int) < M 124 21 := hj
        have hm3 := hF.m
        have e131 : (fun i => q_undone M 131 (18 * j + i)) = fun i => M 131 (18 * j + i) := by rw [q_undone_ne (by decide) (by decide)]
        rw [e131]
        exact (p5 j hj2).congr (hk _ (by omega) (by omega) (by omega) (by omega) (by omega)) (hk _ (by omega) (by omega) (by omega) (by omega) (by omega)) (hk _ (by omega) (by omega) (by omega) (by omega) (by omega))
    · refine p_aload_n 11 dX11_undo_10 rfl rfl (by decide) ?_
      refine p_bipush 13 dX11_undo_11 rfl ?_
      refine p_callV1i 0 16 dX11_undo_13 s_deny lk_X11_329 mX11_deny rfl rfl (by decide) (Nat.le_of_ble_eq_true rfl) ?_
      rintro _ _ ⟨rfl, rfl⟩
      refine p_zret dX11_undo_16 rfl (by decide) ?_
      exact ⟨_, rfl, CA.no hI hF (by unfold ga_undo; (repeat' split) <;> first | rfl | (exfalso; omega)) (by unfold ga_undo; (repeat' split) <;> first | rfl | (exfalso; omega)) (by decide)⟩
  · have hto : M 25 0 = M 124 14 := hC.1.1
    have hla : M 25 1 = M 127 0 := hC.1.2.1
    have hsn : M 25 2 = M 127 1 := hC.1.2.2.1
    have hcs : M 26 0 = M 127 2 := hC.1.2.2.2.1
    have hca : M 31 0 = M 127 3 := hC.1.2.2.2.2.1
    have hcw : M 36 0 = M 127 4 := hC.1.2.2.2.2.2.1
    have hcb : M 36 1 = M 127 5 := hC.1.2.2.2.2.2.2.1
    have hcor : M 42 0 = M 127 6 := hC.1.2.2.2.2.2.2.2.1
    have hcn : M 42 4 = M 127 7 := hC.1.2.2.2.2.2.2.2.2
    have hu := hF.u
    have hm3 := hF.m
    obtain ⟨p1, p2, top, ht16, p3, p4, p5⟩ := id hpast
    obtain ⟨cnt, hcnt⟩ : ∃ k : Nat, M 124 20 = (k : Int) := ⟨(M 124 20).toNat, by omega⟩
    have hc52 : M 52 2 = (cnt : Int) := by omega
    obtain ⟨ki, hki⟩ : ∃ k : Nat, M 124 21 = (k : Int) := ⟨(M 124 21).toNat, by omega⟩
    have hc54 : M 52 4 = (ki : Int) := by omega
    refine p_aload_n 1 dX11_undo_0 rfl rfl (by decide) ?_
    refine p_getR 0 4 dX11_undo_1 fX11_40 rfl (hW (0, 9, 52) (by decide)) ?_
    refine p_getI 52 7 dX11_undo_4 fX11_353 rfl ?_
    rw [hc52]
    refine p_if_gt 17 10 dX11_undo_7 (by omega) (by omega) (fun h7 => ?_) (fun h7 => ?_)
    · have h1 : M 124 14 = 1 := by
        rcases hF.h with g | g
        · have := (hF.t0 g).2.1; omega
        · exact g
      have hrw := p4 (cnt - 1) (by omega)
      have ecw : (top + 16 - (M 124 20).toNat + (cnt - 1)) % 16 = (top + 15) % 16 := by omega
      rw [ecw] at hrw
      have hw3 := hrw.2.2.2.1
      have hwt := hF.ur (cnt - 1) (by omega)
      have hwa := hwt.1 16 (by decide)
      have hwb := hwt.2.2.2.2.1
      have hw01 : M 130 (18 * (cnt - 1) + 16) = 0 ∨ M 130 (18 * (cnt - 1) + 16) = 1 := by
        have g1 : 0 ≤ M 130 (18 * (cnt - 1) + 16) := hwa
        have g2 : M 130 (18 * (cnt - 1) + 16) ≤ 1 := hwb
        omega
      refine p_aload_n 18 dX11_undo_17 rfl rfl (by decide) ?_
      refine p_getR 0 21 dX11_undo_18 fX11_40 rfl (hW (0, 9, 52) (by decide)) ?_
      refine p_aload_n 22 dX11_undo_21 rfl rfl (by decide) ?_
      refine p_getR 0 25 dX11_undo_22 fX11_33 rfl (hW (0, 8, 49) (by decide)) ?_
      refine p_callV1v 52 28 dX11_undo_25 (s_takeBack hW ht16 (by omega) (by omega) p3 hc52 (by rw [hw3]; exact hw01)) lk_X11_354 mX5_takeBack rfl rfl (by decide) (Nat.le_of_ble_eq_true rfl) ?_
      rintro _ rfl
      refine p_aload_n 29 dX11_undo_28 rfl rfl (by decide) ?_
      refine p_callV0i 0 32 dX11_undo_29 s_allow lk_X11_339 mX11_allow rfl rfl (by decide) (Nat.le_of_ble_eq_true rfl) ?_
      rintro _ _ ⟨rfl, rfl⟩
      refine p_zret dX11_undo_32 rfl (by decide) ?_
      refine ⟨_, rfl, ?_⟩
      unfold ga_undo
      rw [if_neg (by omega)]
      refine ⟨rfl, ?_, fun k hk => by rw [zset_ne _ (by omega), zcp_other (by omega) (by omega) (by omega), zset_ne _ (by omega), zset_ne _ (by omega)]⟩
      have hx : (top + 15) % 16 < 16 := Nat.mod_lt _ (by decide)
      have hk : ∀ a, a ≠ 0 → a ≠ 49 → a ≠ 50 → a ≠ 51 → a ≠ 52 → zset (zcp (zset (zset M 52 1 (((top + 15) % 16 : Nat) : Int)) 52 2 ((cnt - 1 : Nat) : Int)) 49 (55 + 3 * ((top + 15) % 16)) 7) 0 2 0 a = M a := fun a g0 g1 g2 g3 g4 => by
        rw [zset_ne _ g0, zcp_other g1 g2 g3, zset_ne _ g4, zset_ne _ g4]
      have hk52 : ∀ k, zset (zcp (zset (zset M 52 1 (((top + 15) % 16 : Nat) : Int)) 52 2 ((cnt - 1 : Nat) : Int)) 49 (55 + 3 * ((top + 15) % 16)) 7) 0 2 0 52 k = zset (zset M 52 1 (((top + 15) % 16 : Nat) : Int)) 52 2 ((cnt - 1 : Nat) : Int) 52 k := fun k => by
        rw [zset_ne _ (by decide), zcp_other (by decide) (by decide) (by decide)]
      have hrow := p4 (cnt - 1) (by omega)
      rw [ecw] at hrow
      refine hI.past (s' := q_undone M) ?_ (q_undone_ne (by decide) (by decide)) (q_undone_ne (by decide) (by decide)) rfl rfl rfl (fun a g => hk a (by omega) (by omega) (by omega) (by omega) (by omega)) (fun k hk2 => ?_) rfl (by show (0 : Int) ≠ 4; decide) ?_ ⟨?_, ?_, (top + 15) % 16, hx, ?_, fun j hj => ?_, fun j hj => ?_⟩
      · exact (zcp_wc ((hW.set (by decide +kernel)).set (by decide +kernel)) isNow_49).set (by decide +kernel)
      · rw [zset_k hk2, zcp_other (by decide) (by decide) (by decide)]
        rfl
      · have e14 : q_undone M 124 14 = 1 := h1
        rw [e14]
        have hr2 : ICn (fun i => M 130 (18 * (cnt - 1) + i)) 1 (55 + 3 * ((top + 15) % 16)) (zset (zset M 52 1 (((top + 15) % 16 : Nat) : Int)) 52 2 ((cnt - 1 : Nat) : Int)) := hrow.congr (by rw [zset_ne _ (by omega), zset_ne _ (by omega)]) (by rw [zset_ne _ (by omega), zset_ne _ (by omega)]) (by rw [zset_ne _ (by omega), zset_ne _ (by omega)])
        have hz := zcp_ICn (e := 49) hr2 (Or.inr (by omega))
        refine (hz.congr (zset_ne _ (by decide)) (zset_ne _ (by decide)) (zset_ne _ (by decide))).rows (fun i hi => ?_)
        rw [q_undone_129 hi]
        congr 2
        omega
      · rw [hk52]
        show ((cnt - 1 : Nat) : Int) = M 124 20 - 1
        omega
      · rw [hk52]
        exact p2
      · rw [hk52]
        rfl
      · have hj2 : (j : Int) < M 124 20 - 1 := hj
        have e130 : (fun i => q_undone M 130 (18 * j + i)) = fun i => M 130 (18 * j + i) := by rw [q_undone_ne (by decide) (by decide)]
        rw [e130]
        have en : (q_undone M 124 20).toNat = (M 124 20).toNat - 1 := by
          show (M 124 20 - 1).toNat = _
          omega
        rw [en]
        have hp := p4 j (by omega)
        have ec : (top + 16 - (M 124 20).toNat + j) % 16 = ((top + 15) % 16 + 16 - ((M 124 20).toNat - 1) + j) % 16 := by omega
        rw [ec] at hp
        have hlt : ((top + 15) % 16 + 16 - ((M 124 20).toNat - 1) + j) % 16 < 16 := Nat.mod_lt _ (by decide)
        generalize ((top + 15) % 16 + 16 - ((M 124 20).toNat - 1) + j) % 16 = x at hp hlt ⊢
        exact hp.congr (hk _ (by omega) (by omega) (by omega) (by omega) (by omega)) (hk _ (by omega) (by omega) (by omega) (by omega) (by omega)) (hk _ (by omega) (by omega) (by omega) (by omega) (by omega))
      · have hj2 : (j : Int) < M 124 21 := hj
        have hm3 := hF.m
        have e131 : (fun i => q_undone M 131 (18 * j + i)) = fun i => M 131 (18 * j + i) := by rw [q_undone_ne (by decide) (by decide)]
        rw [e131]
        exact (p5 j hj2).congr (hk _ (by omega) (by omega) (by omega) (by omega) (by omega)) (hk _ (by omega) (by omega) (by omega) (by omega) (by omega)) (hk _ (by omega) (by omega) (by omega) (by omega) (by omega))
    · refine p_aload_n 11 dX11_undo_10 rfl rfl (by decide) ?_
      refine p_bipush 13 dX11_undo_11 rfl ?_
      refine p_callV1i 0 16 dX11_undo_13 s_deny lk_X11_329 mX11_deny rfl rfl (by decide) (Nat.le_of_ble_eq_true rfl) ?_
      rintro _ _ ⟨rfl, rfl⟩
      refine p_zret dX11_undo_16 rfl (by decide) ?_
      exact ⟨_, rfl, CA.no hI hF (by unfold ga_undo; (repeat' split) <;> first | rfl | (exfalso; omega)) (by unfold ga_undo; (repeat' split) <;> first | rfl | (exfalso; omega)) (by decide)⟩
theorem zcopy_congr {A B : ZM} {f a t i m x : Nat} (h1 : A f = B f) (h2 : A x = B x) : zcopy A f a t i m x = zcopy B f a t i m x := by
  funext b
  unfold zcopy
  rw [h1, h2]
theorem zcopy_wm {M : ZM} {f a t i m : Nat} (hW : zWm M) (h : zwM.all (fun q => !(q.1 == t)) = true) : zWm (zcopy M f a t i m) := by
  intro q hq
  have h1 := List.all_eq_true.mp h q hq
  have h2 := hW q hq
  rw [zcopy_ne]
  · exact h2
  · intro e
    simp [e] at h1
theorem m_undo {l : Launch} {X : ZX} {M : ZM} (hW : zWm M) (hF : WF M)  : zCi l X 1 yX12_undo tX12_undo [zr 124] M (MA M (ga_undo M)) := by
  have hWg : zWm (zset (zset M 124 0 0) 124 11 0) := (hW.set (by decide +kernel)).set (by decide +kernel)
  have hR := hF.r
  have hT := hF.t
  have hh := hF.h
  have e0 : M 127 0 = (q_n (M 127) 0 : Int) := hR.n (by decide)
  have e2 : M 127 2 = (q_n (M 127) 2 : Int) := hR.n (by decide)
  have e3 : M 127 3 = (q_n (M 127) 3 : Int) := hR.n (by decide)
  have e4 : M 127 4 = (q_n (M 127) 4 : Int) := hR.n (by decide)
  have bR := hR.2.1
  have h20 : M 124 14 = 0 → M 127 2 = 0 := fun h => hF.r0 h 2 (by decide)
  have h30 : M 124 14 = 0 → M 127 3 = 0 := fun h => hF.r0 h 3 (by decide)
  have h40 : M 124 14 = 0 → M 127 4 = 0 := fun h => hF.r0 h 4 (by decide)
  have hu := hF.u
  have hm3 := hF.m
  obtain ⟨cnt, hcnt⟩ : ∃ k : Nat, M 124 20 = (k : Int) := ⟨(M 124 20).toNat, by omega⟩
  obtain ⟨ki, hki⟩ : ∃ k : Nat, M 124 21 = (k : Int) := ⟨(M 124 21).toNat, by omega⟩
  refine zC.of [some (zr 124)] (by decide +kernel) rfl rfl (Nat.le_of_ble_eq_true rfl) rfl ?_
  refine p_aload_n 1 dX12_undo_0 rfl rfl (by decide) ?_
  refine p_callV0v 124 4 dX12_undo_1 s_good lk_X12_165 mX12_good rfl rfl (by decide) (Nat.le_of_ble_eq_true rfl) ?_
  rintro _ rfl
  refine p_aload_n 5 dX12_undo_4 rfl rfl (by decide) ?_
  refine p_getI 124 8 dX12_undo_5 fX12_181 rfl ?_
  rw [show zset (zset M 124 0 0) 124 11 0 124 20 = (cnt : Int) from hcnt]
  refine p_if_ne 18 11 dX12_undo_8 (by omega) (by omega) (fun h8 => ?_) (fun h8 => ?_)
  · refine p_aload_n 19 dX12_undo_18 rfl rfl (by decide) ?_
    refine p_dupR 20 dX12_undo_19 ?_
    refine p_getI 124 23 dX12_undo_20 fX12_181 rfl ?_
    refine p_iconst 24 dX12_undo_23 ?_
    rw [show zset (zset M 124 0 0) 124 11 0 124 20 = (cnt : Int) from hcnt]
    refine p_isub 25 dX12_undo_24 ?_
    refine p_putI 124 28 dX12_undo_25 wX12_181 rfl ?_
    refine p_aload_n 29 dX12_undo_28 rfl rfl (by decide) ?_
    refine p_getR 124 32 dX12_undo_29 fX12_29 rfl (hWg (124, 18, 130) (by decide)) ?_
    refine p_bipush 34 dX12_undo_32 rfl ?_
    refine p_aload_n 35 dX12_undo_34 rfl rfl (by decide) ?_
    refine p_getI 124 38 dX12_undo_35 fX12_181 rfl ?_
    rw [zset_at]
    refine p_imul 39 dX12_undo_38 ?_
    rw [show (18 : Int) * ((cnt : Int) - 1) = ((18 * (cnt - 1) : Nat) : Int) by omega]
    refine p_aload_n 40 dX12_undo_39 rfl rfl (by decide) ?_
    refine p_getR 124 43 dX12_undo_40 fX12_26 rfl (hWg (124, 17, 129) (by decide)) ?_
    refine p_iconst 44 dX12_undo_43 ?_
    refine p_bipush 46 dX12_undo_44 rfl ?_
    refine p_callS5v 49 dX12_undo_46 (s_copy (f := 130) (t := 129) (a := 18 * (cnt - 1)) (i := 0) (m := 18) rfl rfl (by decide) (by omega) (by decide) (by decide)) lk_X12_174 mX12_copy (by decide) (Nat.le_of_ble_eq_true rfl) ?_
    rintro _ rfl
    refine p_iconst 50 dX12_undo_49 ?_
    refine p_zret dX12_undo_50 rfl (by decide) ?_
    refine ⟨_, rfl, ?_⟩
    unfold ga_undo
    rw [if_neg (by omega)]
    have en : (M 124 20 - 1).toNat = cnt - 1 := by omega
    refine ⟨rfl, fun k hk => by rw [zcopy_ne _ (by omega), zset_ne _ (by omega), zset_ne _ (by omega), zset_ne _ (by omega)], zcopy_wm (hWg.set (by decide +kernel)) (by decide +kernel), ?_⟩
    show Obs (q_undone M) _
    unfold q_undone
    rw [en]
    have g : ∀ k, k ≠ 129 → zcopy (zset (zset (zset M 124 0 0) 124 11 0) 124 20 ((cnt : Int) - 1)) 130 (18 * (cnt - 1)) 129 0 18 k = zset (zset (zset M 124 0 0) 124 11 0) 124 20 ((cnt : Int) - 1) k := fun k hk => zcopy_ne _ hk
    refine ⟨g 125 (by decide), g 127 (by decide), zcopy_congr rfl rfl, g 130 (by decide), g 131 (by decide), ?_, ?_, ?_, ?_, ?_, ?_, ?_⟩ <;> rw [g 124 (by decide)] <;> first | rfl | (show (cnt : Int) - 1 = M 124 20 - 1; omega)
  · refine p_aload_n 12 dX12_undo_11 rfl rfl (by decide) ?_
    refine p_bipush 14 dX12_undo_12 rfl ?_
    refine p_callV1i 124 17 dX12_undo_14 s_isNot lk_X12_431 mX12_isNot rfl rfl (by decide) (Nat.le_of_ble_eq_true rfl) ?_
    rintro _ _ ⟨rfl, rfl⟩
    refine p_zret dX12_undo_17 rfl (by decide) ?_
    exact ⟨_, rfl, MA.no hW (by unfold ga_undo; (repeat' split) <;> first | rfl | (exfalso; omega)) (by unfold ga_undo; (repeat' split) <;> first | rfl | (exfalso; omega))⟩
theorem c_image {l : Launch} {X : ZX} {M : ZM} (hI : IC M M) (hF : WF M)  : zCi l X 2 yX11_image tX11_image [zr 0] M (CA M (ga_image M)) := by
  obtain ⟨hW, ⟨c, c', hcc, hco, hsp, hC⟩, ⟨j1, j2, j3, j4, j5⟩, hN, hpast, hten, ⟨hz0, hsea⟩, hfit⟩ := id hI
  have hR := hF.r
  have hT := hF.t
  have hh := hF.h
  have e0 : M 127 0 = (q_n (M 127) 0 : Int) := hR.n (by decide)
  have e2 : M 127 2 = (q_n (M 127) 2 : Int) := hR.n (by decide)
  have e3 : M 127 3 = (q_n (M 127) 3 : Int) := hR.n (by decide)
  have e4 : M 127 4 = (q_n (M 127) 4 : Int) := hR.n (by decide)
  have bR := hR.2.1
  have h20 : M 124 14 = 0 → M 127 2 = 0 := fun h => hF.r0 h 2 (by decide)
  have h30 : M 124 14 = 0 → M 127 3 = 0 := fun h => hF.r0 h 3 (by decide)
  have h40 : M 124 14 = 0 → M 127 4 = 0 := fun h => hF.r0 h 4 (by decide)
  have hwo : M 49 3 = M 129 16 := hN.2.2.2.1
  have t160 := hT.1 16 (by decide)
  have t161 := hT.2.2.2.2.1
  refine zC.of [some (zr 0)] (by decide +kernel) rfl rfl (Nat.le_of_ble_eq_true rfl) rfl ?_
  rcases hcc with ⟨rfl, rfl⟩ | ⟨rfl, rfl⟩
  · have hto : M 2 0 = M 124 14 := hC.1.1
    have hla : M 2 1 = M 127 0 := hC.1.2.1
    have hsn : M 2 2 = M 127 1 := hC.1.2.2.1
    have hcs : M 3 0 = M 127 2 := hC.1.2.2.2.1
    have hca : M 8 0 = M 127 3 := hC.1.2.2.2.2.1
    have hcw : M 13 0 = M 127 4 := hC.1.2.2.2.2.2.1
    have hcb : M 13 1 = M 127 5 := hC.1.2.2.2.2.2.2.1
    have hcor : M 19 0 = M 127 6 := hC.1.2.2.2.2.2.2.2.1
    have hcn : M 19 4 = M 127 7 := hC.1.2.2.2.2.2.2.2.2
    have hu := hF.u
    have hm3 := hF.m
    obtain ⟨p1, p2, top, ht16, p3, p4, p5⟩ := id hpast
    obtain ⟨cnt, hcnt⟩ : ∃ k : Nat, M 124 20 = (k : Int) := ⟨(M 124 20).toNat, by omega⟩
    have hc52 : M 52 2 = (cnt : Int) := by omega
    obtain ⟨ki, hki⟩ : ∃ k : Nat, M 124 21 = (k : Int) := ⟨(M 124 21).toNat, by omega⟩
    have hc54 : M 52 4 = (ki : Int) := by omega
    refine p_aload_n 1 dX11_image_0 rfl rfl (by decide) ?_
    refine p_getR 0 4 dX11_image_1 fX11_16 rfl hco ?_
    refine p_getI 2 7 dX11_image_4 fX11_114 rfl ?_
    rw [hto]
    refine p_if_ne 16 10 dX11_image_7 (by omega) (by omega) (fun h7 => ?_) (fun h7 => ?_)
    · refine p_aload_n 17 dX11_image_16 rfl rfl (by decide) ?_
      refine p_getR 0 20 dX11_image_17 fX11_40 rfl (hW (0, 9, 52) (by decide)) ?_
      refine p_getI 52 23 dX11_image_20 fX11_357 rfl ?_
      refine p_iconst 24 dX11_image_23 ?_
      rw [hc54]
      refine p_icmp_lt 33 27 dX11_image_24 (by omega) (by omega) (by omega) (by omega) (fun h24 => ?_) (fun h24 => ?_)
      · have h1 : M 124 14 = 1 := by omega
        have hN1 : ICn (M 129) 1 49 M := by rw [← h1]; exact hN
        refine p_aload_n 34 dX11_image_33 rfl rfl (by decide) ?_
        refine p_aload_n 35 dX11_image_34 rfl rfl (by decide) ?_
        refine p_getR 0 38 dX11_image_35 fX11_40 rfl (hW (0, 9, 52) (by decide)) ?_
        refine p_aload_n 39 dX11_image_38 rfl rfl (by decide) ?_
        refine p_getR 0 42 dX11_image_39 fX11_33 rfl (hW (0, 8, 49) (by decide)) ?_
        refine p_callV1i 52 45 dX11_image_42 (s_keepImage hW (by omega) hc54 (by rw [hwo]; omega)) lk_X11_360 mX5_keepImage rfl rfl (by decide) (Nat.le_of_ble_eq_true rfl) ?_
        rintro _ _ ⟨rfl, e9⟩
        have e9 := e9.symm
        subst e9
        refine p_callV1i 0 48 dX11_image_45 s_grant lk_X11_108 mX11_grant rfl rfl (by decide) (Nat.le_of_ble_eq_true rfl) ?_
        rintro _ _ ⟨rfl, rfl⟩
        refine p_iret dX11_image_48 rfl ?_
        refine ⟨_, rfl, ?_⟩
        unfold ga_image
        rw [if_neg (by omega), if_neg (by omega)]
        refine ⟨hki.symm, ?_, fun k hk => by rw [zset_ne _ (by omega), zset_ne _ (by omega), zcp_other (by omega) (by omega) (by omega)]⟩
        have hk : ∀ a, a ≠ 0 → a ≠ 52 → (a < 103 + 3 * ki ∨ 103 + 3 * ki + 2 < a) → zset (zset (zcp M (103 + 3 * ki) 49 7) 52 4 ((ki + 1 : Nat) : Int)) 0 2 0 a = M a := fun a g0 g1 g2 => by
          rw [zset_ne _ g0, zset_ne _ g1, zcp_other (by omega) (by omega) (by omega)]
        have hk52 : ∀ k, k ≠ 4 → zset (zset (zcp M (103 + 3 * ki) 49 7) 52 4 ((ki + 1 : Nat) : Int)) 0 2 0 52 k = M 52 k := fun k g => by
          rw [zset_ne _ (by decide), zset_k g, zcp_other (by omega) (by omega) (by omega)]
        refine hI.past (s' := q_imaged M) ?_ (q_imaged_ne (by decide) (by decide)) (q_imaged_ne (by decide) (by decide)) rfl rfl rfl (fun a g => hk a (by omega) (by omega) (by omega)) (fun k hk2 => ?_) rfl (by show (0 : Int) ≠ 4; decide) ?_ ⟨?_, ?_, top, ht16, ?_, fun j hj => ?_, fun j hj => ?_⟩
        · exact ((zcp_wc hW (isNow_img (by omega))).set (by decide +kernel)).set (by decide +kernel)
        · rw [zset_k hk2, zset_ne _ (by decide), zcp_other (by omega) (by omega) (by omega)]
        · rw [q_imaged_ne (by decide) (by decide)]
          have e14 : q_imaged M 124 14 = M 124 14 := rfl
          rw [e14]
          exact hN.congr (hk _ (by decide) (by decide) (by omega)) (hk _ (by decide) (by decide) (by omega)) (hk _ (by decide) (by decide) (by omega))
        · rw [hk52 2 (by decide)]
          exact p1
        · show ((ki + 1 : Nat) : Int) = M 124 21 + 1
          omega
        · rw [hk52 1 (by decide)]
          exact p3
        · have hj2 : (j : Int) < M 124 20 := hj
          have e130 : (fun i => q_imaged M 130 (18 * j + i)) = fun i => M 130 (18 * j + i) := by rw [q_imaged_ne (by decide) (by decide)]
          rw [e130]
          have e20 : q_imaged M 124 20 = M 124 20 := rfl
          rw [e20]
          have hp := p4 j hj2
          have hlt : (top + 16 - (M 124 20).toNat + j) % 16 < 16 := Nat.mod_lt _ (by decide)
          generalize (top + 16 - (M 124 20).toNat + j) % 16 = x at hp hlt ⊢
          exact hp.congr (hk _ (by omega) (by omega) (by omega)) (hk _ (by omega) (by omega) (by omega)) (hk _ (by omega) (by omega) (by omega))
        · have hj2 : (j : Int) < M 124 21 + 1 := hj
          by_cases ej : j = ki
          · subst ej
            have hz := zcp_ICn (e := 103 + 3 * j) hN1 (Or.inl (by omega))
            refine (hz.congr (by rw [zset_ne _ (by omega), zset_ne _ (by omega)]) (by rw [zset_ne _ (by omega), zset_ne _ (by omega)]) (by rw [zset_ne _ (by omega), zset_ne _ (by omega)])).rows (fun i hi => ?_)
            rw [q_imaged_row hm3.1 hj2 hi, if_pos hki.symm]
          · refine ((p5 j (by omega)).congr (hk _ (by omega) (by omega) (by omega)) (hk _ (by omega) (by omega) (by omega)) (hk _ (by omega) (by omega) (by omega))).rows (fun i hi => ?_)
            rw [q_imaged_row hm3.1 hj2 hi, if_neg (by omega)]
      · refine p_aload_n 28 dX11_image_27 rfl rfl (by decide) ?_
        refine p_iconst 29 dX11_image_28 ?_
        refine p_callV1i 0 32 dX11_image_29 s_refuse lk_X11_73 mX11_refuse rfl rfl (by decide) (Nat.le_of_ble_eq_true rfl) ?_
        rintro _ _ ⟨rfl, rfl⟩
        refine p_iret dX11_image_32 rfl ?_
        exact ⟨_, rfl, CA.no hI hF (by unfold ga_image; (repeat' split) <;> first | rfl | (exfalso; omega)) (by unfold ga_image; (repeat' split) <;> first | rfl | (exfalso; omega)) (by decide)⟩
    · refine p_aload_n 11 dX11_image_10 rfl rfl (by decide) ?_
      refine p_iconst 12 dX11_image_11 ?_
      refine p_callV1i 0 15 dX11_image_12 s_refuse lk_X11_73 mX11_refuse rfl rfl (by decide) (Nat.le_of_ble_eq_true rfl) ?_
      rintro _ _ ⟨rfl, rfl⟩
      refine p_iret dX11_image_15 rfl ?_
      exact ⟨_, rfl, CA.no hI hF (by unfold ga_image; (repeat' split) <;> first | rfl | (exfalso; omega)) (by unfold ga_image; (repeat' split) <;> first | rfl | (exfalso; omega)) (by decide)⟩
  · have hto : M 25 0 = M 124 14 := hC.1.1
    have hla : M 25 1 = M 127 0 := hC.1.2.1
    have hsn : M 25 2 = M 127 1 := hC.1.2.2.1
    have hcs : M 26 0 = M 127 2 := hC.1.2.2.2.1
    have hca : M 31 0 = M 127 3 := hC.1.2.2.2.2.1
    have hcw : M 36 0 = M 127 4 := hC.1.2.2.2.2.2.1
    have hcb : M 36 1 = M 127 5 := hC.1.2.2.2.2.2.2.1
    have hcor : M 42 0 = M 127 6 := hC.1.2.2.2.2.2.2.2.1
    have hcn : M 42 4 = M 127 7 := hC.1.2.2.2.2.2.2.2.2
    have hu := hF.u
    have hm3 := hF.m
    obtain ⟨p1, p2, top, ht16, p3, p4, p5⟩ := id hpast
    obtain ⟨cnt, hcnt⟩ : ∃ k : Nat, M 124 20 = (k : Int) := ⟨(M 124 20).toNat, by omega⟩
    have hc52 : M 52 2 = (cnt : Int) := by omega
    obtain ⟨ki, hki⟩ : ∃ k : Nat, M 124 21 = (k : Int) := ⟨(M 124 21).toNat, by omega⟩
    have hc54 : M 52 4 = (ki : Int) := by omega
    refine p_aload_n 1 dX11_image_0 rfl rfl (by decide) ?_
    refine p_getR 0 4 dX11_image_1 fX11_16 rfl hco ?_
    refine p_getI 25 7 dX11_image_4 fX11_114 rfl ?_
    rw [hto]
    refine p_if_ne 16 10 dX11_image_7 (by omega) (by omega) (fun h7 => ?_) (fun h7 => ?_)
    · refine p_aload_n 17 dX11_image_16 rfl rfl (by decide) ?_
      refine p_getR 0 20 dX11_image_17 fX11_40 rfl (hW (0, 9, 52) (by decide)) ?_
      refine p_getI 52 23 dX11_image_20 fX11_357 rfl ?_
      refine p_iconst 24 dX11_image_23 ?_
      rw [hc54]
      refine p_icmp_lt 33 27 dX11_image_24 (by omega) (by omega) (by omega) (by omega) (fun h24 => ?_) (fun h24 => ?_)
      · have h1 : M 124 14 = 1 := by omega
        have hN1 : ICn (M 129) 1 49 M := by rw [← h1]; exact hN
        refine p_aload_n 34 dX11_image_33 rfl rfl (by decide) ?_
        refine p_aload_n 35 dX11_image_34 rfl rfl (by decide) ?_
        refine p_getR 0 38 dX11_image_35 fX11_40 rfl (hW (0, 9, 52) (by decide)) ?_
        refine p_aload_n 39 dX11_image_38 rfl rfl (by decide) ?_
        refine p_getR 0 42 dX11_image_39 fX11_33 rfl (hW (0, 8, 49) (by decide)) ?_
        refine p_callV1i 52 45 dX11_image_42 (s_keepImage hW (by omega) hc54 (by rw [hwo]; omega)) lk_X11_360 mX5_keepImage rfl rfl (by decide) (Nat.le_of_ble_eq_true rfl) ?_
        rintro _ _ ⟨rfl, e9⟩
        have e9 := e9.symm
        subst e9
        refine p_callV1i 0 48 dX11_image_45 s_grant lk_X11_108 mX11_grant rfl rfl (by decide) (Nat.le_of_ble_eq_true rfl) ?_
        rintro _ _ ⟨rfl, rfl⟩
        refine p_iret dX11_image_48 rfl ?_
        refine ⟨_, rfl, ?_⟩
        unfold ga_image
        rw [if_neg (by omega), if_neg (by omega)]
        refine ⟨hki.symm, ?_, fun k hk => by rw [zset_ne _ (by omega), zset_ne _ (by omega), zcp_other (by omega) (by omega) (by omega)]⟩
        have hk : ∀ a, a ≠ 0 → a ≠ 52 → (a < 103 + 3 * ki ∨ 103 + 3 * ki + 2 < a) → zset (zset (zcp M (103 + 3 * ki) 49 7) 52 4 ((ki + 1 : Nat) : Int)) 0 2 0 a = M a := fun a g0 g1 g2 => by
          rw [zset_ne _ g0, zset_ne _ g1, zcp_other (by omega) (by omega) (by omega)]
        have hk52 : ∀ k, k ≠ 4 → zset (zset (zcp M (103 + 3 * ki) 49 7) 52 4 ((ki + 1 : Nat) : Int)) 0 2 0 52 k = M 52 k := fun k g => by
          rw [zset_ne _ (by decide), zset_k g, zcp_other (by omega) (by omega) (by omega)]
        refine hI.past (s' := q_imaged M) ?_ (q_imaged_ne (by decide) (by decide)) (q_imaged_ne (by decide) (by decide)) rfl rfl rfl (fun a g => hk a (by omega) (by omega) (by omega)) (fun k hk2 => ?_) rfl (by show (0 : Int) ≠ 4; decide) ?_ ⟨?_, ?_, top, ht16, ?_, fun j hj => ?_, fun j hj => ?_⟩
        · exact ((zcp_wc hW (isNow_img (by omega))).set (by decide +kernel)).set (by decide +kernel)
        · rw [zset_k hk2, zset_ne _ (by decide), zcp_other (by omega) (by omega) (by omega)]
        · rw [q_imaged_ne (by decide) (by decide)]
          have e14 : q_imaged M 124 14 = M 124 14 := rfl
          rw [e14]
          exact hN.congr (hk _ (by decide) (by decide) (by omega)) (hk _ (by decide) (by decide) (by omega)) (hk _ (by decide) (by decide) (by omega))
        · rw [hk52 2 (by decide)]
          exact p1
        · show ((ki + 1 : Nat) : Int) = M 124 21 + 1
          omega
        · rw [hk52 1 (by decide)]
          exact p3
        · have hj2 : (j : Int) < M 124 20 := hj
          have e130 : (fun i => q_imaged M 130 (18 * j + i)) = fun i => M 130 (18 * j + i) := by rw [q_imaged_ne (by decide) (by decide)]
          rw [e130]
          have e20 : q_imaged M 124 20 = M 124 20 := rfl
          rw [e20]
          have hp := p4 j hj2
          have hlt : (top + 16 - (M 124 20).toNat + j) % 16 < 16 := Nat.mod_lt _ (by decide)
          generalize (top + 16 - (M 124 20).toNat + j) % 16 = x at hp hlt ⊢
          exact hp.congr (hk _ (by omega) (by omega) (by omega)) (hk _ (by omega) (by omega) (by omega)) (hk _ (by omega) (by omega) (by omega))
        · have hj2 : (j : Int) < M 124 21 + 1 := hj
          by_cases ej : j = ki
          · subst ej
            have hz := zcp_ICn (e := 103 + 3 * j) hN1 (Or.inl (by omega))
            refine (hz.congr (by rw [zset_ne _ (by omega), zset_ne _ (by omega)]) (by rw [zset_ne _ (by omega), zset_ne _ (by omega)]) (by rw [zset_ne _ (by omega), zset_ne _ (by omega)])).rows (fun i hi => ?_)
            rw [q_imaged_row hm3.1 hj2 hi, if_pos hki.symm]
          · refine ((p5 j (by omega)).congr (hk _ (by omega) (by omega) (by omega)) (hk _ (by omega) (by omega) (by omega)) (hk _ (by omega) (by omega) (by omega))).rows (fun i hi => ?_)
            rw [q_imaged_row hm3.1 hj2 hi, if_neg (by omega)]
      · refine p_aload_n 28 dX11_image_27 rfl rfl (by decide) ?_
        refine p_iconst 29 dX11_image_28 ?_
        refine p_callV1i 0 32 dX11_image_29 s_refuse lk_X11_73 mX11_refuse rfl rfl (by decide) (Nat.le_of_ble_eq_true rfl) ?_
        rintro _ _ ⟨rfl, rfl⟩
        refine p_iret dX11_image_32 rfl ?_
        exact ⟨_, rfl, CA.no hI hF (by unfold ga_image; (repeat' split) <;> first | rfl | (exfalso; omega)) (by unfold ga_image; (repeat' split) <;> first | rfl | (exfalso; omega)) (by decide)⟩
    · refine p_aload_n 11 dX11_image_10 rfl rfl (by decide) ?_
      refine p_iconst 12 dX11_image_11 ?_
      refine p_callV1i 0 15 dX11_image_12 s_refuse lk_X11_73 mX11_refuse rfl rfl (by decide) (Nat.le_of_ble_eq_true rfl) ?_
      rintro _ _ ⟨rfl, rfl⟩
      refine p_iret dX11_image_15 rfl ?_
      exact ⟨_, rfl, CA.no hI hF (by unfold ga_image; (repeat' split) <;> first | rfl | (exfalso; omega)) (by unfold ga_image; (repeat' split) <;> first | rfl | (exfalso; omega)) (by decide)⟩
theorem m_image {l : Launch} {X : ZX} {M : ZM} (hW : zWm M) (hF : WF M)  : zCi l X 1 yX12_image tX12_image [zr 124] M (MA M (ga_image M)) := by
  have hWg : zWm (zset (zset M 124 0 0) 124 11 0) := (hW.set (by decide +kernel)).set (by decide +kernel)
  have hR := hF.r
  have hT := hF.t
  have hh := hF.h
  have e0 : M 127 0 = (q_n (M 127) 0 : Int) := hR.n (by decide)
  have e2 : M 127 2 = (q_n (M 127) 2 : Int) := hR.n (by decide)
  have e3 : M 127 3 = (q_n (M 127) 3 : Int) := hR.n (by decide)
  have e4 : M 127 4 = (q_n (M 127) 4 : Int) := hR.n (by decide)
  have bR := hR.2.1
  have h20 : M 124 14 = 0 → M 127 2 = 0 := fun h => hF.r0 h 2 (by decide)
  have h30 : M 124 14 = 0 → M 127 3 = 0 := fun h => hF.r0 h 3 (by decide)
  have h40 : M 124 14 = 0 → M 127 4 = 0 := fun h => hF.r0 h 4 (by decide)
  have hu := hF.u
  have hm3 := hF.m
  obtain ⟨cnt, hcnt⟩ : ∃ k : Nat, M 124 20 = (k : Int) := ⟨(M 124 20).toNat, by omega⟩
  obtain ⟨ki, hki⟩ : ∃ k : Nat, M 124 21 = (k : Int) := ⟨(M 124 21).toNat, by omega⟩
  refine zC.of [some (zr 124)] (by decide +kernel) rfl rfl (Nat.le_of_ble_eq_true rfl) rfl ?_
  refine p_aload_n 1 dX12_image_0 rfl rfl (by decide) ?_
  refine p_callV0v 124 4 dX12_image_1 s_good lk_X12_165 mX12_good rfl rfl (by decide) (Nat.le_of_ble_eq_true rfl) ?_
  rintro _ rfl
  refine p_aload_n 5 dX12_image_4 rfl rfl (by decide) ?_
  refine p_getI 124 8 dX12_image_5 fX12_178 rfl ?_
  refine p_if_ne 17 11 dX12_image_8 (by show _ ≤ M 124 14; omega) (by show M 124 14 < _; omega) (fun h8 => ?_) (fun h8 => ?_)
  · have h8 : ¬ M 124 14 = 0 := h8
    refine p_aload_n 18 dX12_image_17 rfl rfl (by decide) ?_
    refine p_getI 124 21 dX12_image_18 fX12_184 rfl ?_
    rw [show zset (zset M 124 0 0) 124 11 0 124 21 = (ki : Int) from hki]
    refine p_iconst 22 dX12_image_21 ?_
    refine p_icmp_ne 31 25 dX12_image_22 (by omega) (by omega) (by omega) (by omega) (fun h22 => ?_) (fun h22 => ?_)
    · refine p_aload_n 32 dX12_image_31 rfl rfl (by decide) ?_
      refine p_getR 124 35 dX12_image_32 fX12_26 rfl (hWg (124, 17, 129) (by decide)) ?_
      refine p_iconst 36 dX12_image_35 ?_
      refine p_aload_n 37 dX12_image_36 rfl rfl (by decide) ?_
      refine p_getR 124 40 dX12_image_37 fX12_32 rfl (hWg (124, 19, 131) (by decide)) ?_
      refine p_bipush 42 dX12_image_40 rfl ?_
      refine p_aload_n 43 dX12_image_42 rfl rfl (by decide) ?_
      refine p_getI 124 46 dX12_image_43 fX12_184 rfl ?_
      refine p_imul 47 dX12_image_46 ?_
      rw [show zset (zset M 124 0 0) 124 11 0 124 21 = (ki : Int) from hki, show (18 : Int) * (ki : Int) = ((18 * ki : Nat) : Int) by omega]
      refine p_bipush 49 dX12_image_47 rfl ?_
      refine p_callS5v 52 dX12_image_49 (s_copy (f := 129) (t := 131) (a := 0) (i := 18 * ki) (m := 18) rfl rfl (by decide) (by decide) (by omega) (by decide)) lk_X12_174 mX12_copy (by decide) (Nat.le_of_ble_eq_true rfl) ?_
      rintro _ rfl
      refine p_aload_n 53 dX12_image_52 rfl rfl (by decide) ?_
      refine p_dupR 54 dX12_image_53 ?_
      refine p_getI 124 57 dX12_image_54 fX12_184 rfl ?_
      rw [zcopy_ne _ (by decide), show zset (zset M 124 0 0) 124 11 0 124 21 = (ki : Int) from hki]
      refine p_iconst 58 dX12_image_57 ?_
      refine p_iadd 59 dX12_image_58 ?_
      refine p_putI 124 62 dX12_image_59 wX12_184 rfl ?_
      refine p_aload_n 63 dX12_image_62 rfl rfl (by decide) ?_
      refine p_getI 124 66 dX12_image_63 fX12_184 rfl ?_
      refine p_iconst 67 dX12_image_66 ?_
      rw [zset_at]
      refine p_isub 68 dX12_image_67 ?_
      refine p_iret dX12_image_68 rfl ?_
      refine ⟨_, rfl, ?_⟩
      unfold ga_image
      rw [if_neg (by omega), if_neg (by omega)]
      have en : (M 124 21).toNat = ki := by omega
      refine ⟨by show (ki : Int) + 1 - 1 = M 124 21; omega, fun k hk => by rw [zset_ne _ (by omega), zcopy_ne _ (by omega), zset_ne _ (by omega), zset_ne _ (by omega)], (zcopy_wm hWg (by decide +kernel)).set (by decide +kernel), ?_⟩
      show Obs (q_imaged M) _
      unfold q_imaged
      rw [en]
      have g : ∀ k, k ≠ 131 → k ≠ 124 → zset (zcopy (zset (zset M 124 0 0) 124 11 0) 129 0 131 (18 * ki) 18) 124 21 ((ki : Int) + 1) k = zset (zset M 124 0 0) 124 11 0 k := fun k hk h2 => by rw [zset_ne _ h2, zcopy_ne _ hk]
      have g4 : ∀ k, k ≠ 21 → zset (zcopy (zset (zset M 124 0 0) 124 11 0) 129 0 131 (18 * ki) 18) 124 21 ((ki : Int) + 1) 124 k = zset (zset M 124 0 0) 124 11 0 124 k := fun k hk => by rw [zset_k hk, zcopy_ne _ (by decide)]
      refine ⟨g 125 (by decide) (by decide), g 127 (by decide) (by decide), g 129 (by decide) (by decide), g 130 (by decide) (by decide), (zset_ne _ (by decide)).trans (zcopy_congr rfl rfl), ?_, ?_, ?_, ?_, ?_, ?_, ?_⟩
      · rw [g4 2 (by decide)]; rfl
      · rw [g4 9 (by decide)]; rfl
      · rw [g4 10 (by decide)]; rfl
      · rw [g4 11 (by decide)]; rfl
      · rw [g4 14 (by decide)]; rfl
      · rw [g4 20 (by decide)]; rfl
      · show (ki : Int) + 1 = M 124 21 + 1
        omega
    · refine p_aload_n 26 dX12_image_25 rfl rfl (by decide) ?_
      refine p_iconst 27 dX12_image_26 ?_
      refine p_callV1i 124 30 dX12_image_27 s_no lk_X12_168 mX12_no rfl rfl (by decide) (Nat.le_of_ble_eq_true rfl) ?_
      rintro _ _ ⟨rfl, rfl⟩
      refine p_iret dX12_image_30 rfl ?_
      exact ⟨_, rfl, MA.no hW (by unfold ga_image; (repeat' split) <;> first | rfl | (exfalso; omega)) (by unfold ga_image; (repeat' split) <;> first | rfl | (exfalso; omega))⟩
  · have h8 : ¬ M 124 14 ≠ 0 := h8
    refine p_aload_n 12 dX12_image_11 rfl rfl (by decide) ?_
    refine p_iconst 13 dX12_image_12 ?_
    refine p_callV1i 124 16 dX12_image_13 s_no lk_X12_168 mX12_no rfl rfl (by decide) (Nat.le_of_ble_eq_true rfl) ?_
    rintro _ _ ⟨rfl, rfl⟩
    refine p_iret dX12_image_16 rfl ?_
    exact ⟨_, rfl, MA.no hW (by unfold ga_image; (repeat' split) <;> first | rfl | (exfalso; omega)) (by unfold ga_image; (repeat' split) <;> first | rfl | (exfalso; omega))⟩
theorem c_back {l : Launch} {X : ZX} {M : ZM} (hI : IC M M) (hF : WF M) {v : Int} (hv1 : -2147483648 ≤ v) (hv2 : v < 2147483648) : zCi l X 2 yX11_back tX11_back [zr 0, zi v] M (CA M (ga_back M v)) := by
  obtain ⟨hW, ⟨c, c', hcc, hco, hsp, hC⟩, ⟨j1, j2, j3, j4, j5⟩, hN, hpast, hten, ⟨hz0, hsea⟩, hfit⟩ := id hI
  have hR := hF.r
  have hT := hF.t
  have hh := hF.h
  have e0 : M 127 0 = (q_n (M 127) 0 : Int) := hR.n (by decide)
  have e2 : M 127 2 = (q_n (M 127) 2 : Int) := hR.n (by decide)
  have e3 : M 127 3 = (q_n (M 127) 3 : Int) := hR.n (by decide)
  have e4 : M 127 4 = (q_n (M 127) 4 : Int) := hR.n (by decide)
  have bR := hR.2.1
  have h20 : M 124 14 = 0 → M 127 2 = 0 := fun h => hF.r0 h 2 (by decide)
  have h30 : M 124 14 = 0 → M 127 3 = 0 := fun h => hF.r0 h 3 (by decide)
  have h40 : M 124 14 = 0 → M 127 4 = 0 := fun h => hF.r0 h 4 (by decide)
  have hwo : M 49 3 = M 129 16 := hN.2.2.2.1
  have t160 := hT.1 16 (by decide)
  have t161 := hT.2.2.2.2.1
  refine zC.of [some (zr 0), some (zi v)] (by decide +kernel) rfl rfl (Nat.le_of_ble_eq_true rfl) rfl ?_
  rcases hcc with ⟨rfl, rfl⟩ | ⟨rfl, rfl⟩
  · have hto : M 2 0 = M 124 14 := hC.1.1
    have hla : M 2 1 = M 127 0 := hC.1.2.1
    have hsn : M 2 2 = M 127 1 := hC.1.2.2.1
    have hcs : M 3 0 = M 127 2 := hC.1.2.2.2.1
    have hca : M 8 0 = M 127 3 := hC.1.2.2.2.2.1
    have hcw : M 13 0 = M 127 4 := hC.1.2.2.2.2.2.1
    have hcb : M 13 1 = M 127 5 := hC.1.2.2.2.2.2.2.1
    have hcor : M 19 0 = M 127 6 := hC.1.2.2.2.2.2.2.2.1
    have hcn : M 19 4 = M 127 7 := hC.1.2.2.2.2.2.2.2.2
    have hu := hF.u
    have hm3 := hF.m
    obtain ⟨p1, p2, top, ht16, p3, p4, p5⟩ := id hpast
    obtain ⟨cnt, hcnt⟩ : ∃ k : Nat, M 124 20 = (k : Int) := ⟨(M 124 20).toNat, by omega⟩
    have hc52 : M 52 2 = (cnt : Int) := by omega
    obtain ⟨ki, hki⟩ : ∃ k : Nat, M 124 21 = (k : Int) := ⟨(M 124 21).toNat, by omega⟩
    have hc54 : M 52 4 = (ki : Int) := by omega
    refine p_iload_n 1 dX11_back_0 rfl rfl ?_
    refine p_if_lt 15 4 dX11_back_1 (by omega) (by omega) (fun h1 => ?_) (fun h1 => ?_)
    · refine p_aload_n 16 dX11_back_15 rfl rfl (by decide) ?_
      refine p_iconst 17 dX11_back_16 ?_
      refine p_callV1i 0 20 dX11_back_17 s_deny lk_X11_329 mX11_deny rfl rfl (by decide) (Nat.le_of_ble_eq_true rfl) ?_
      rintro _ _ ⟨rfl, rfl⟩
      refine p_zret dX11_back_20 rfl (by decide) ?_
      exact ⟨_, rfl, CA.no hI hF (by unfold ga_back; (repeat' split) <;> first | rfl | (exfalso; omega)) (by unfold ga_back; (repeat' split) <;> first | rfl | (exfalso; omega)) (by decide)⟩
    · refine p_iload_n 5 dX11_back_4 rfl rfl ?_
      refine p_aload_n 6 dX11_back_5 rfl rfl (by decide) ?_
      refine p_getR 0 9 dX11_back_6 fX11_40 rfl (hW (0, 9, 52) (by decide)) ?_
      refine p_getI 52 12 dX11_back_9 fX11_357 rfl ?_
      rw [hc54]
      refine p_icmp_lt 21 15 dX11_back_12 (by omega) (by omega) (by omega) (by omega) (fun h12 => ?_) (fun h12 => ?_)
      · obtain ⟨k, rfl⟩ : ∃ k : Nat, v = (k : Int) := ⟨v.toNat, by omega⟩
        have h1 : M 124 14 = 1 := by
          rcases hF.h with g | g
          · have := (hF.t0 g).2.2; omega
          · exact g
        have hrow := p5 k (by omega)
        have hw3 := hrow.2.2.2.1
        have hwt := hF.mr k (by omega)
        have hwa := hwt.1 16 (by decide)
        have hwb := hwt.2.2.2.2.1
        have hw01 : M 131 (18 * k + 16) = 0 ∨ M 131 (18 * k + 16) = 1 := by
          have g1 : 0 ≤ M 131 (18 * k + 16) := hwa
          have g2 : M 131 (18 * k + 16) ≤ 1 := hwb
          omega
        refine p_aload_n 22 dX11_back_21 rfl rfl (by decide) ?_
        refine p_getR 0 25 dX11_back_22 fX11_40 rfl (hW (0, 9, 52) (by decide)) ?_
        refine p_aload_n 26 dX11_back_25 rfl rfl (by decide) ?_
        refine p_getR 0 29 dX11_back_26 fX11_33 rfl (hW (0, 8, 49) (by decide)) ?_
        refine p_iload_n 30 dX11_back_29 rfl rfl ?_
        refine p_callV2v 52 33 dX11_back_30 (s_goBack hW (k := k) (by omega) (by rw [hw3]; exact hw01)) lk_X11_364 mX5_goBack rfl rfl (by decide) (Nat.le_of_ble_eq_true rfl) ?_
        rintro _ rfl
        refine p_aload_n 34 dX11_back_33 rfl rfl (by decide) ?_
        refine p_callV0i 0 37 dX11_back_34 s_allow lk_X11_339 mX11_allow rfl rfl (by decide) (Nat.le_of_ble_eq_true rfl) ?_
        rintro _ _ ⟨rfl, rfl⟩
        refine p_zret dX11_back_37 rfl (by decide) ?_
        refine ⟨_, rfl, ?_⟩
        unfold ga_back
        rw [if_neg (by omega)]
        refine ⟨rfl, ?_, fun k hk => by rw [zset_ne _ (by omega), zset_ne _ (by omega), zcp_other (by omega) (by omega) (by omega)]⟩
        have hk : ∀ a, a ≠ 0 → a ≠ 49 → a ≠ 50 → a ≠ 51 → a ≠ 52 → zset (zset (zcp M 49 (103 + 3 * k) 7) 52 2 0) 0 2 0 a = M a := fun a g0 g1 g2 g3 g4 => by
          rw [zset_ne _ g0, zset_ne _ g4, zcp_other g1 g2 g3]
        have hk52 : ∀ b, b ≠ 2 → zset (zset (zcp M 49 (103 + 3 * k) 7) 52 2 0) 0 2 0 52 b = M 52 b := fun b g => by
          rw [zset_ne _ (by decide), zset_k g, zcp_other (by decide) (by decide) (by decide)]
        refine hI.past (s' := q_backed M (k : Int)) ?_ (q_backed_ne (by decide) (by decide)) (q_backed_ne (by decide) (by decide)) rfl rfl rfl (fun a g => hk a (by omega) (by omega) (by omega) (by omega) (by omega)) (fun b hb2 => ?_) rfl (by show (0 : Int) ≠ 4; decide) ?_ ⟨?_, ?_, top, ht16, ?_, fun j hj => ?_, fun j hj => ?_⟩
        · exact ((zcp_wc hW isNow_49).set (by decide +kernel)).set (by decide +kernel)
        · rw [zset_k hb2, zset_ne _ (by decide), zcp_other (by decide) (by decide) (by decide)]
        · have e14 : q_backed M (k : Int) 124 14 = 1 := h1
          rw [e14]
          have hz := zcp_ICn (e := 49) hrow (Or.inr (by omega))
          refine (hz.congr (by rw [zset_ne _ (by decide), zset_ne _ (by decide)]) (by rw [zset_ne _ (by decide), zset_ne _ (by decide)]) (by rw [zset_ne _ (by decide), zset_ne _ (by decide)])).rows (fun i hi => ?_)
          rw [q_backed_129 hi, Int.toNat_natCast]
        · rfl
        · rw [hk52 4 (by decide)]
          exact p2
        · rw [hk52 1 (by decide)]
          exact p3
        · exact absurd hj (by show ¬ (j : Int) < 0; omega)
        · have hj2 : (j : Int) < M 124 21 := hj
          have e131 : (fun i => q_backed M (k : Int) 131 (18 * j + i)) = fun i => M 131 (18 * j + i) := by rw [q_backed_ne (by decide) (by decide)]
          rw [e131]
          exact (p5 j hj2).congr (hk _ (by omega) (by omega) (by omega) (by omega) (by omega)) (hk _ (by omega) (by omega) (by omega) (by omega) (by omega)) (hk _ (by omega) (by omega) (by omega) (by omega) (by omega))
      · refine p_aload_n 16 dX11_back_15 rfl rfl (by decide) ?_
        refine p_iconst 17 dX11_back_16 ?_
        refine p_callV1i 0 20 dX11_back_17 s_deny lk_X11_329 mX11_deny rfl rfl (by decide) (Nat.le_of_ble_eq_true rfl) ?_
        rintro _ _ ⟨rfl, rfl⟩
        refine p_zret dX11_back_20 rfl (by decide) ?_
        exact ⟨_, rfl, CA.no hI hF (by unfold ga_back; (repeat' split) <;> first | rfl | (exfalso; omega)) (by unfold ga_back; (repeat' split) <;> first | rfl | (exfalso; omega)) (by decide)⟩
  · have hto : M 25 0 = M 124 14 := hC.1.1
    have hla : M 25 1 = M 127 0 := hC.1.2.1
    have hsn : M 25 2 = M 127 1 := hC.1.2.2.1
    have hcs : M 26 0 = M 127 2 := hC.1.2.2.2.1
    have hca : M 31 0 = M 127 3 := hC.1.2.2.2.2.1
    have hcw : M 36 0 = M 127 4 := hC.1.2.2.2.2.2.1
    have hcb : M 36 1 = M 127 5 := hC.1.2.2.2.2.2.2.1
    have hcor : M 42 0 = M 127 6 := hC.1.2.2.2.2.2.2.2.1
    have hcn : M 42 4 = M 127 7 := hC.1.2.2.2.2.2.2.2.2
    have hu := hF.u
    have hm3 := hF.m
    obtain ⟨p1, p2, top, ht16, p3, p4, p5⟩ := id hpast
    obtain ⟨cnt, hcnt⟩ : ∃ k : Nat, M 124 20 = (k : Int) := ⟨(M 124 20).toNat, by omega⟩
    have hc52 : M 52 2 = (cnt : Int) := by omega
    obtain ⟨ki, hki⟩ : ∃ k : Nat, M 124 21 = (k : Int) := ⟨(M 124 21).toNat, by omega⟩
    have hc54 : M 52 4 = (ki : Int) := by omega
    refine p_iload_n 1 dX11_back_0 rfl rfl ?_
    refine p_if_lt 15 4 dX11_back_1 (by omega) (by omega) (fun h1 => ?_) (fun h1 => ?_)
    · refine p_aload_n 16 dX11_back_15 rfl rfl (by decide) ?_
      refine p_iconst 17 dX11_back_16 ?_
      refine p_callV1i 0 20 dX11_back_17 s_deny lk_X11_329 mX11_deny rfl rfl (by decide) (Nat.le_of_ble_eq_true rfl) ?_
      rintro _ _ ⟨rfl, rfl⟩
      refine p_zret dX11_back_20 rfl (by decide) ?_
      exact ⟨_, rfl, CA.no hI hF (by unfold ga_back; (repeat' split) <;> first | rfl | (exfalso; omega)) (by unfold ga_back; (repeat' split) <;> first | rfl | (exfalso; omega)) (by decide)⟩
    · refine p_iload_n 5 dX11_back_4 rfl rfl ?_
      refine p_aload_n 6 dX11_back_5 rfl rfl (by decide) ?_
      refine p_getR 0 9 dX11_back_6 fX11_40 rfl (hW (0, 9, 52) (by decide)) ?_
      refine p_getI 52 12 dX11_back_9 fX11_357 rfl ?_
      rw [hc54]
      refine p_icmp_lt 21 15 dX11_back_12 (by omega) (by omega) (by omega) (by omega) (fun h12 => ?_) (fun h12 => ?_)
      · obtain ⟨k, rfl⟩ : ∃ k : Nat, v = (k : Int) := ⟨v.toNat, by omega⟩
        have h1 : M 124 14 = 1 := by
          rcases hF.h with g | g
          · have := (hF.t0 g).2.2; omega
          · exact g
        have hrow := p5 k (by omega)
        have hw3 := hrow.2.2.2.1
        have hwt := hF.mr k (by omega)
        have hwa := hwt.1 16 (by decide)
        have hwb := hwt.2.2.2.2.1
        have hw01 : M 131 (18 * k + 16) = 0 ∨ M 131 (18 * k + 16) = 1 := by
          have g1 : 0 ≤ M 131 (18 * k + 16) := hwa
          have g2 : M 131 (18 * k + 16) ≤ 1 := hwb
          omega
        refine p_aload_n 22 dX11_back_21 rfl rfl (by decide) ?_
        refine p_getR 0 25 dX11_back_22 fX11_40 rfl (hW (0, 9, 52) (by decide)) ?_
        refine p_aload_n 26 dX11_back_25 rfl rfl (by decide) ?_
        refine p_getR 0 29 dX11_back_26 fX11_33 rfl (hW (0, 8, 49) (by decide)) ?_
        refine p_iload_n 30 dX11_back_29 rfl rfl ?_
        refine p_callV2v 52 33 dX11_back_30 (s_goBack hW (k := k) (by omega) (by rw [hw3]; exact hw01)) lk_X11_364 mX5_goBack rfl rfl (by decide) (Nat.le_of_ble_eq_true rfl) ?_
        rintro _ rfl
        refine p_aload_n 34 dX11_back_33 rfl rfl (by decide) ?_
        refine p_callV0i 0 37 dX11_back_34 s_allow lk_X11_339 mX11_allow rfl rfl (by decide) (Nat.le_of_ble_eq_true rfl) ?_
        rintro _ _ ⟨rfl, rfl⟩
        refine p_zret dX11_back_37 rfl (by decide) ?_
        refine ⟨_, rfl, ?_⟩
        unfold ga_back
        rw [if_neg (by omega)]
        refine ⟨rfl, ?_, fun k hk => by rw [zset_ne _ (by omega), zset_ne _ (by omega), zcp_other (by omega) (by omega) (by omega)]⟩
        have hk : ∀ a, a ≠ 0 → a ≠ 49 → a ≠ 50 → a ≠ 51 → a ≠ 52 → zset (zset (zcp M 49 (103 + 3 * k) 7) 52 2 0) 0 2 0 a = M a := fun a g0 g1 g2 g3 g4 => by
          rw [zset_ne _ g0, zset_ne _ g4, zcp_other g1 g2 g3]
        have hk52 : ∀ b, b ≠ 2 → zset (zset (zcp M 49 (103 + 3 * k) 7) 52 2 0) 0 2 0 52 b = M 52 b := fun b g => by
          rw [zset_ne _ (by decide), zset_k g, zcp_other (by decide) (by decide) (by decide)]
        refine hI.past (s' := q_backed M (k : Int)) ?_ (q_backed_ne (by decide) (by decide)) (q_backed_ne (by decide) (by decide)) rfl rfl rfl (fun a g => hk a (by omega) (by omega) (by omega) (by omega) (by omega)) (fun b hb2 => ?_) rfl (by show (0 : Int) ≠ 4; decide) ?_ ⟨?_, ?_, top, ht16, ?_, fun j hj => ?_, fun j hj => ?_⟩
        · exact ((zcp_wc hW isNow_49).set (by decide +kernel)).set (by decide +kernel)
        · rw [zset_k hb2, zset_ne _ (by decide), zcp_other (by decide) (by decide) (by decide)]
        · have e14 : q_backed M (k : Int) 124 14 = 1 := h1
          rw [e14]
          have hz := zcp_ICn (e := 49) hrow (Or.inr (by omega))
          refine (hz.congr (by rw [zset_ne _ (by decide), zset_ne _ (by decide)]) (by rw [zset_ne _ (by decide), zset_ne _ (by decide)]) (by rw [zset_ne _ (by decide), zset_ne _ (by decide)])).rows (fun i hi => ?_)
          rw [q_backed_129 hi, Int.toNat_natCast]
        · rfl
        · rw [hk52 4 (by decide)]
          exact p2
        · rw [hk52 1 (by decide)]
          exact p3
        · exact absurd hj (by show ¬ (j : Int) < 0; omega)
        · have hj2 : (j : Int) < M 124 21 := hj
          have e131 : (fun i => q_backed M (k : Int) 131 (18 * j + i)) = fun i => M 131 (18 * j + i) := by rw [q_backed_ne (by decide) (by decide)]
          rw [e131]
          exact (p5 j hj2).congr (hk _ (by omega) (by omega) (by omega) (by omega) (by omega)) (hk _ (by omega) (by omega) (by omega) (by omega) (by omega)) (hk _ (by omega) (by omega) (by omega) (by omega) (by omega))
      · refine p_aload_n 16 dX11_back_15 rfl rfl (by decide) ?_
        refine p_iconst 17 dX11_back_16 ?_
        refine p_callV1i 0 20 dX11_back_17 s_deny lk_X11_329 mX11_deny rfl rfl (by decide) (Nat.le_of_ble_eq_true rfl) ?_
        rintro _ _ ⟨rfl, rfl⟩
        refine p_zret dX11_back_20 rfl (by decide) ?_
        exact ⟨_, rfl, CA.no hI hF (by unfold ga_back; (repeat' split) <;> first | rfl | (exfalso; omega)) (by unfold ga_back; (repeat' split) <;> first | rfl | (exfalso; omega)) (by decide)⟩
theorem m_back {l : Launch} {X : ZX} {M : ZM} (hW : zWm M) (hF : WF M) {v : Int} (hv1 : -2147483648 ≤ v) (hv2 : v < 2147483648) : zCi l X 1 yX12_back tX12_back [zr 124, zi v] M (MA M (ga_back M v)) := by
  have hWg : zWm (zset (zset M 124 0 0) 124 11 0) := (hW.set (by decide +kernel)).set (by decide +kernel)
  have hR := hF.r
  have hT := hF.t
  have hh := hF.h
  have e0 : M 127 0 = (q_n (M 127) 0 : Int) := hR.n (by decide)
  have e2 : M 127 2 = (q_n (M 127) 2 : Int) := hR.n (by decide)
  have e3 : M 127 3 = (q_n (M 127) 3 : Int) := hR.n (by decide)
  have e4 : M 127 4 = (q_n (M 127) 4 : Int) := hR.n (by decide)
  have bR := hR.2.1
  have h20 : M 124 14 = 0 → M 127 2 = 0 := fun h => hF.r0 h 2 (by decide)
  have h30 : M 124 14 = 0 → M 127 3 = 0 := fun h => hF.r0 h 3 (by decide)
  have h40 : M 124 14 = 0 → M 127 4 = 0 := fun h => hF.r0 h 4 (by decide)
  have hu := hF.u
  have hm3 := hF.m
  obtain ⟨cnt, hcnt⟩ : ∃ k : Nat, M 124 20 = (k : Int) := ⟨(M 124 20).toNat, by omega⟩
  obtain ⟨ki, hki⟩ : ∃ k : Nat, M 124 21 = (k : Int) := ⟨(M 124 21).toNat, by omega⟩
  refine zC.of [some (zr 124), some (zi v)] (by decide +kernel) rfl rfl (Nat.le_of_ble_eq_true rfl) rfl ?_
  refine p_aload_n 1 dX12_back_0 rfl rfl (by decide) ?_
  refine p_callV0v 124 4 dX12_back_1 s_good lk_X12_165 mX12_good rfl rfl (by decide) (Nat.le_of_ble_eq_true rfl) ?_
  rintro _ rfl
  refine p_iload_n 5 dX12_back_4 rfl rfl ?_
  refine p_iconst 6 dX12_back_5 ?_
  refine p_aload_n 7 dX12_back_6 rfl rfl (by decide) ?_
  refine p_getI 124 10 dX12_back_7 fX12_184 rfl ?_
  rw [show zset (zset M 124 0 0) 124 11 0 124 21 = (ki : Int) from hki]
  refine p_iconst 11 dX12_back_10 ?_
  refine p_isub 12 dX12_back_11 ?_
  refine p_callS3i 15 dX12_back_12 (s_in (by omega) (by omega) (by omega) (by omega) (by omega) (by omega)) lk_X12_146 mX12_in (by decide) (Nat.le_of_ble_eq_true rfl) ?_
  rintro _ _ ⟨rfl, e9⟩
  have e9 := e9.symm
  subst e9
  refine p_if_ne 24 18 dX12_back_15 (by split <;> omega) (by split <;> omega) (fun h15 => ?_) (fun h15 => ?_)
  · have h15 := if_ne0 h15
    obtain ⟨k, rfl⟩ : ∃ k : Nat, v = (k : Int) := ⟨v.toNat, by omega⟩
    refine p_aload_n 25 dX12_back_24 rfl rfl (by decide) ?_
    refine p_getR 124 28 dX12_back_25 fX12_32 rfl (hWg (124, 19, 131) (by decide)) ?_
    refine p_bipush 30 dX12_back_28 rfl ?_
    refine p_iload_n 31 dX12_back_30 rfl rfl ?_
    refine p_imul 32 dX12_back_31 ?_
    rw [show (18 : Int) * (k : Int) = ((18 * k : Nat) : Int) by omega]
    refine p_aload_n 33 dX12_back_32 rfl rfl (by decide) ?_
    refine p_getR 124 36 dX12_back_33 fX12_26 rfl (hWg (124, 17, 129) (by decide)) ?_
    refine p_iconst 37 dX12_back_36 ?_
    refine p_bipush 39 dX12_back_37 rfl ?_
    refine p_callS5v 42 dX12_back_39 (s_copy (f := 131) (t := 129) (a := 18 * k) (i := 0) (m := 18) rfl rfl (by decide) (by omega) (by decide) (by decide)) lk_X12_174 mX12_copy (by decide) (Nat.le_of_ble_eq_true rfl) ?_
    rintro _ rfl
    refine p_aload_n 43 dX12_back_42 rfl rfl (by decide) ?_
    refine p_iconst 44 dX12_back_43 ?_
    refine p_putI 124 47 dX12_back_44 wX12_181 rfl ?_
    refine p_iconst 48 dX12_back_47 ?_
    refine p_zret dX12_back_48 rfl (by decide) ?_
    refine ⟨_, rfl, ?_⟩
    unfold ga_back
    rw [if_neg (by omega)]
    refine ⟨rfl, fun a ha => by rw [zset_ne _ (by omega), zcopy_ne _ (by omega), zset_ne _ (by omega), zset_ne _ (by omega)], (zcopy_wm hWg (by decide +kernel)).set (by decide +kernel), ?_⟩
    show Obs (q_backed M (k : Int)) _
    unfold q_backed
    rw [Int.toNat_natCast]
    have g : ∀ a, a ≠ 129 → a ≠ 124 → zset (zcopy (zset (zset M 124 0 0) 124 11 0) 131 (18 * k) 129 0 18) 124 20 0 a = zset (zset M 124 0 0) 124 11 0 a := fun a hk h2 => by rw [zset_ne _ h2, zcopy_ne _ hk]
    have g4 : ∀ a, a ≠ 20 → zset (zcopy (zset (zset M 124 0 0) 124 11 0) 131 (18 * k) 129 0 18) 124 20 0 124 a = zset (zset M 124 0 0) 124 11 0 124 a := fun a hk => by rw [zset_k hk, zcopy_ne _ (by decide)]
    refine ⟨g 125 (by decide) (by decide), g 127 (by decide) (by decide), (zset_ne _ (by decide)).trans (zcopy_congr rfl rfl), g 130 (by decide) (by decide), g 131 (by decide) (by decide), ?_, ?_, ?_, ?_, ?_, rfl, ?_⟩
    · rw [g4 2 (by decide)]; rfl
    · rw [g4 9 (by decide)]; rfl
    · rw [g4 10 (by decide)]; rfl
    · rw [g4 11 (by decide)]; rfl
    · rw [g4 14 (by decide)]; rfl
    · rw [g4 21 (by decide)]; rfl
  · have h15 := if_nne0 h15
    refine p_aload_n 19 dX12_back_18 rfl rfl (by decide) ?_
    refine p_iconst 20 dX12_back_19 ?_
    refine p_callV1i 124 23 dX12_back_20 s_isNot lk_X12_431 mX12_isNot rfl rfl (by decide) (Nat.le_of_ble_eq_true rfl) ?_
    rintro _ _ ⟨rfl, rfl⟩
    refine p_zret dX12_back_23 rfl (by decide) ?_
    exact ⟨_, rfl, MA.no hW (by unfold ga_back; (repeat' split) <;> first | rfl | (exfalso; omega)) (by unfold ga_back; (repeat' split) <;> first | rfl | (exfalso; omega))⟩
