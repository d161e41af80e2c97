/-- an act's end: the class's, the model's -/
def CA (M : ZM) (p : Int × ZM) : Int → ZM → Prop := fun a M' => a = p.1 ∧ IC p.2 M' ∧ ∀ k, 124 ≤ k → M' k = M k
def MA (M : ZM) (p : Int × ZM) : Int → ZM → Prop := fun a M' => a = p.1 ∧ (∀ k, k < 124 → M' k = M k) ∧ zWm M' ∧ Obs p.2 M'
theorem CA.no {M : ZM} {p : Int × ZM} {a v : Int} (hI : IC M M) (hF : WF M) (ha : a = p.1) (hp : p.2 = zset M 124 11 v) (h4 : v ≠ 4) : CA M p a (zset M 0 2 v) := by
  refine ⟨ha, ?_, fun k hk => zset_ne M (by omega)⟩
  rw [hp]
  exact hI.tr hF h4
theorem MA.no {M : ZM} {p : Int × ZM} {a v : Int} (hW : zWm M) (ha : a = p.1) (hp : p.2 = zset M 124 11 v) : MA M p a (zset (zset (zset M 124 0 0) 124 11 0) 124 11 v) := by
  refine ⟨ha, fun k hk => ?_, hid_no.wm hW, ?_⟩
  · rw [zset_ne _ (by omega), zset_ne _ (by omega), zset_ne _ (by omega)]
  · rw [hp]
    exact ⟨rfl, rfl, rfl, rfl, rfl, rfl, rfl, rfl, rfl, rfl, rfl, rfl⟩
def ga_seed (M : ZM) (v : Int) : Int × ZM := if M 124 14 = 0 then (0, zset M 124 11 1) else if 0 ≤ v ∧ v ≤ 65536 then (1, zset (zset M 129 17 v) 124 11 0) else (0, zset M 124 11 2)
theorem zset_k {M : ZM} {c k b : Nat} {v : Int} (h : b ≠ k) : zset M c k v c b = M c b := by
  unfold zset
  rw [if_pos rfl, if_neg h]
theorem WF.now {s s' : ZM} (h : WF s) (h1 : s 124 14 = 1) (e125 : s' 125 = s 125) (e127 : s' 127 = s 127) (e130 : s' 130 = s 130) (e131 : s' 131 = s 131) (e14 : s' 124 14 = s 124 14) (e2 : s' 124 2 = s 124 2) (e9 : s' 124 9 = s 124 9) (e10 : s' 124 10 = s 124 10) (e20 : s' 124 20 = s 124 20) (e21 : s' 124 21 = s 124 21) (htr : 0 ≤ s' 124 11 ∧ s' 124 11 ≤ 6) (hT : wfT (s 127) (s' 129)) : WF s' := by
  obtain ⟨a1, a2, a3, a4, a5, a6, a7, a8, a9, a10, a11, a12, a13, a14, a15⟩ := h
  unfold WF
  rw [e125, e127, e130, e131, e14, e2, e9, e10, e20, e21]
  exact ⟨a1, a2, htr, a4, a5, a6, a7, a8, a9, hT, a11, a12, a13, a14, fun h0 => absurd h0 (by omega)⟩
theorem WF.tr {s : ZM} (h : WF s) {v : Int} (h1 : 0 ≤ v) (h2 : v ≤ 6) : WF (zset s 124 11 v) := by
  obtain ⟨a1, a2, a3, a4, a5, a6, a7, a8, a9, a10, a11, a12, a13, a14, a15⟩ := h
  exact ⟨a1, a2, ⟨h1, h2⟩, a4, a5, a6, a7, a8, a9, a10, a11, a12, a13, a14, a15⟩
theorem WF.seed {M : ZM} (h : WF M) (v : Int) : WF (ga_seed M v).2 := by
  unfold ga_seed
  split
  · exact h.tr (by decide) (by decide)
  · split
    · rename_i h0 hv
      refine h.now (by have := h.h; omega) rfl rfl rfl rfl rfl rfl rfl rfl rfl rfl ⟨Int.le_refl 0, by show (0 : Int) ≤ 6; decide⟩ ?_
      obtain ⟨b1, b2, b3, b4, b5, b6, b7⟩ := h.t
      have hz : ∀ i, i ≠ 17 → (1, zset (zset M 129 17 v) 124 11 0).2 129 i = M 129 i := fun i hi => (show zset M 129 17 v 129 i = M 129 i from zset_k hi)
      have hz17 : (1, zset (zset M 129 17 v) 124 11 0).2 129 17 = v := rfl
      refine ⟨fun i hi => ?_, fun s hs => ?_, ?_, ?_, ?_, ?_, fun a ha => ?_⟩
      · by_cases e : i = 17
        · subst e; rw [hz17]; exact hv.1
        · rw [hz i e]; exact b1 i hi
      · rw [hz s (by omega), hz (7 + s) (by omega), hz 15 (by decide)]; exact b2 s hs
      · rw [hz 14 (by decide)]; exact b3
      · rw [hz 15 (by decide)]; exact b4
      · rw [hz 16 (by decide)]; exact b5
      · rw [hz17]; exact hv.2
      · rw [q_sum_congr (g := fun s => if M 129 (7 + s) = (a : Int) + 1 then 1 else 0) (fun i hi => by show (if _ = _ then _ else _) = _; rw [hz (7 + i) (by omega)])]
        exact b7 a ha
    · exact h.tr (by decide) (by decide)
theorem c_seed {l : Launch} {X : ZX} {M : ZM} (hI : IC M M) (hF : WF M) {v : Int} (hv1 : -2147483648 ≤ v) (hv2 : v < 2147483648) : zCi l X 1 yX11_seed tX11_seed [zr 0, zi v] M (CA M (ga_seed M v)) := by
  obtain ⟨hW, ⟨c, c', hcc, hco, hsp, hC⟩, ⟨j1, j2, j3, j4, j5⟩, hN, hpast, hten, ⟨hz0, hsea⟩, hfit⟩ := id hI
  have hR := hF.r
  have hT := hF.t
  have hh := hF.h
  have e0 : M 127 0 = (q_n (M 127) 0 : Int) := hR.n (by decide)
  have e2 : M 127 2 = (q_n (M 127) 2 : Int) := hR.n (by decide)
  have e3 : M 127 3 = (q_n (M 127) 3 : Int) := hR.n (by decide)
  have e4 : M 127 4 = (q_n (M 127) 4 : Int) := hR.n (by decide)
  have bR := hR.2.1
  have h20 : M 124 14 = 0 → M 127 2 = 0 := fun h => hF.r0 h 2 (by decide)
  have h30 : M 124 14 = 0 → M 127 3 = 0 := fun h => hF.r0 h 3 (by decide)
  have h40 : M 124 14 = 0 → M 127 4 = 0 := fun h => hF.r0 h 4 (by decide)
  have hwo : M 49 3 = M 129 16 := hN.2.2.2.1
  have t160 := hT.1 16 (by decide)
  have t161 := hT.2.2.2.2.1
  refine zC.of [some (zr 0), some (zi v)] (by decide +kernel) rfl rfl (Nat.le_of_ble_eq_true rfl) rfl ?_
  rcases hcc with ⟨rfl, rfl⟩ | ⟨rfl, rfl⟩
  · have hto : M 2 0 = M 124 14 := hC.1.1
    have hla : M 2 1 = M 127 0 := hC.1.2.1
    have hsn : M 2 2 = M 127 1 := hC.1.2.2.1
    have hcs : M 3 0 = M 127 2 := hC.1.2.2.2.1
    have hca : M 8 0 = M 127 3 := hC.1.2.2.2.2.1
    have hcw : M 13 0 = M 127 4 := hC.1.2.2.2.2.2.1
    have hcb : M 13 1 = M 127 5 := hC.1.2.2.2.2.2.2.1
    have hcor : M 19 0 = M 127 6 := hC.1.2.2.2.2.2.2.2.1
    have hcn : M 19 4 = M 127 7 := hC.1.2.2.2.2.2.2.2.2
    refine p_aload_n 1 dX11_seed_0 rfl rfl (by decide) ?_
    refine p_getR 0 4 dX11_seed_1 fX11_16 rfl hco ?_
    refine p_getI 2 7 dX11_seed_4 fX11_114 rfl ?_
    rw [hto]
    refine p_if_ne 16 10 dX11_seed_7 (by omega) (by omega) (fun h7 => ?_) (fun h7 => ?_)
    · refine p_iload_n 17 dX11_seed_16 rfl rfl ?_
      refine p_if_lt 27 20 dX11_seed_17 (by omega) (by omega) (fun h17 => ?_) (fun h17 => ?_)
      · refine p_aload_n 28 dX11_seed_27 rfl rfl (by decide) ?_
        refine p_iconst 29 dX11_seed_28 ?_
        refine p_callV1i 0 32 dX11_seed_29 s_deny lk_X11_329 mX11_deny rfl rfl (by decide) (Nat.le_of_ble_eq_true rfl) ?_
        rintro _ _ ⟨rfl, rfl⟩
        refine p_zret dX11_seed_32 rfl (by decide) ?_
        exact ⟨_, rfl, CA.no hI hF (by unfold ga_seed; (repeat' split) <;> first | rfl | (exfalso; omega)) (by unfold ga_seed; (repeat' split) <;> first | rfl | (exfalso; omega)) (by decide)⟩
      · refine p_iload_n 21 dX11_seed_20 rfl rfl ?_
        refine p_ldcw (z := 65536) 24 dX11_seed_21 kk_X11_352 rfl ?_
        refine p_icmp_le 33 27 dX11_seed_24 (by omega) (by omega) (by omega) (by omega) (fun h24 => ?_) (fun h24 => ?_)
        · refine p_aload_n 34 dX11_seed_33 rfl rfl (by decide) ?_
          refine p_getR 0 37 dX11_seed_34 fX11_33 rfl (hW (0, 8, 49) (by decide)) ?_
          refine p_iload_n 38 dX11_seed_37 rfl rfl ?_
          refine p_putI 49 41 dX11_seed_38 wX11_349 rfl ?_
          refine p_aload_n 42 dX11_seed_41 rfl rfl (by decide) ?_
          refine p_callV0i 0 45 dX11_seed_42 s_allow lk_X11_339 mX11_allow rfl rfl (by decide) (Nat.le_of_ble_eq_true rfl) ?_
          rintro _ _ ⟨rfl, rfl⟩
          refine p_zret dX11_seed_45 rfl (by decide) ?_
          refine ⟨_, rfl, ?_⟩
          unfold ga_seed
          rw [if_neg (by omega), if_pos (by omega)]
          refine ⟨rfl, ?_, fun k hk => by rw [zset_ne _ (by omega), zset_ne _ (by omega)]⟩
          refine hI.now hF ((hW.set (by decide +kernel)).set (by decide +kernel)) rfl rfl rfl rfl rfl rfl rfl rfl rfl (fun a g1 g2 g3 g4 g5 => by rw [zset_ne _ g1, zset_ne _ g2]) (fun k hk => ?_) rfl (by show (0 : Int) ≠ 4; decide) ?_
          · rw [zset_k hk]
            rfl
          · obtain ⟨n1, n2, n3, n4, n5, n6⟩ := hN
            refine ⟨n1, rfl, n3, n4, fun s hs => ?_, fun h1 s hs => ?_⟩
            · show M 50 s = zset M 129 17 v 129 s
              rw [zset_k (by omega)]
              exact n5 s hs
            · show M 51 s = q_tnd (zset M 129 17 v 129 (7 + s))
              rw [zset_k (by omega)]
              exact n6 h1 s hs
        · refine p_aload_n 28 dX11_seed_27 rfl rfl (by decide) ?_
          refine p_iconst 29 dX11_seed_28 ?_
          refine p_callV1i 0 32 dX11_seed_29 s_deny lk_X11_329 mX11_deny rfl rfl (by decide) (Nat.le_of_ble_eq_true rfl) ?_
          rintro _ _ ⟨rfl, rfl⟩
          refine p_zret dX11_seed_32 rfl (by decide) ?_
          exact ⟨_, rfl, CA.no hI hF (by unfold ga_seed; (repeat' split) <;> first | rfl | (exfalso; omega)) (by unfold ga_seed; (repeat' split) <;> first | rfl | (exfalso; omega)) (by decide)⟩
    · refine p_aload_n 11 dX11_seed_10 rfl rfl (by decide) ?_
      refine p_iconst 12 dX11_seed_11 ?_
      refine p_callV1i 0 15 dX11_seed_12 s_deny lk_X11_329 mX11_deny rfl rfl (by decide) (Nat.le_of_ble_eq_true rfl) ?_
      rintro _ _ ⟨rfl, rfl⟩
      refine p_zret dX11_seed_15 rfl (by decide) ?_
      exact ⟨_, rfl, CA.no hI hF (by unfold ga_seed; (repeat' split) <;> first | rfl | (exfalso; omega)) (by unfold ga_seed; (repeat' split) <;> first | rfl | (exfalso; omega)) (by decide)⟩
  · have hto : M 25 0 = M 124 14 := hC.1.1
    have hla : M 25 1 = M 127 0 := hC.1.2.1
    have hsn : M 25 2 = M 127 1 := hC.1.2.2.1
    have hcs : M 26 0 = M 127 2 := hC.1.2.2.2.1
    have hca : M 31 0 = M 127 3 := hC.1.2.2.2.2.1
    have hcw : M 36 0 = M 127 4 := hC.1.2.2.2.2.2.1
    have hcb : M 36 1 = M 127 5 := hC.1.2.2.2.2.2.2.1
    have hcor : M 42 0 = M 127 6 := hC.1.2.2.2.2.2.2.2.1
    have hcn : M 42 4 = M 127 7 := hC.1.2.2.2.2.2.2.2.2
    refine p_aload_n 1 dX11_seed_0 rfl rfl (by decide) ?_
    refine p_getR 0 4 dX11_seed_1 fX11_16 rfl hco ?_
    refine p_getI 25 7 dX11_seed_4 fX11_114 rfl ?_
    rw [hto]
    refine p_if_ne 16 10 dX11_seed_7 (by omega) (by omega) (fun h7 => ?_) (fun h7 => ?_)
    · refine p_iload_n 17 dX11_seed_16 rfl rfl ?_
      refine p_if_lt 27 20 dX11_seed_17 (by omega) (by omega) (fun h17 => ?_) (fun h17 => ?_)
      · refine p_aload_n 28 dX11_seed_27 rfl rfl (by decide) ?_
        refine p_iconst 29 dX11_seed_28 ?_
        refine p_callV1i 0 32 dX11_seed_29 s_deny lk_X11_329 mX11_deny rfl rfl (by decide) (Nat.le_of_ble_eq_true rfl) ?_
        rintro _ _ ⟨rfl, rfl⟩
        refine p_zret dX11_seed_32 rfl (by decide) ?_
        exact ⟨_, rfl, CA.no hI hF (by unfold ga_seed; (repeat' split) <;> first | rfl | (exfalso; omega)) (by unfold ga_seed; (repeat' split) <;> first | rfl | (exfalso; omega)) (by decide)⟩
      · refine p_iload_n 21 dX11_seed_20 rfl rfl ?_
        refine p_ldcw (z := 65536) 24 dX11_seed_21 kk_X11_352 rfl ?_
        refine p_icmp_le 33 27 dX11_seed_24 (by omega) (by omega) (by omega) (by omega) (fun h24 => ?_) (fun h24 => ?_)
        · refine p_aload_n 34 dX11_seed_33 rfl rfl (by decide) ?_
          refine p_getR 0 37 dX11_seed_34 fX11_33 rfl (hW (0, 8, 49) (by decide)) ?_
          refine p_iload_n 38 dX11_seed_37 rfl rfl ?_
          refine p_putI 49 41 dX11_seed_38 wX11_349 rfl ?_
          refine p_aload_n 42 dX11_seed_41 rfl rfl (by decide) ?_
          refine p_callV0i 0 45 dX11_seed_42 s_allow lk_X11_339 mX11_allow rfl rfl (by decide) (Nat.le_of_ble_eq_true rfl) ?_
          rintro _ _ ⟨rfl, rfl⟩
          refine p_zret dX11_seed_45 rfl (by decide) ?_
          refine ⟨_, rfl, ?_⟩
          unfold ga_seed
          rw [if_neg (by omega), if_pos (by omega)]
          refine ⟨rfl, ?_, fun k hk => by rw [zset_ne _ (by omega), zset_ne _ (by omega)]⟩
          refine hI.now hF ((hW.set (by decide +kernel)).set (by decide +kernel)) rfl rfl rfl rfl rfl rfl rfl rfl rfl (fun a g1 g2 g3 g4 g5 => by rw [zset_ne _ g1, zset_ne _ g2]) (fun k hk => ?_) rfl (by show (0 : Int) ≠ 4; decide) ?_
          · rw [zset_k hk]
            rfl
          · obtain ⟨n1, n2, n3, n4, n5, n6⟩ := hN
            refine ⟨n1, rfl, n3, n4, fun s hs => ?_, fun h1 s hs => ?_⟩
            · show M 50 s = zset M 129 17 v 129 s
              rw [zset_k (by omega)]
              exact n5 s hs
            · show M 51 s = q_tnd (zset M 129 17 v 129 (7 + s))
              rw [zset_k (by omega)]
              exact n6 h1 s hs
        · refine p_aload_n 28 dX11_seed_27 rfl rfl (by decide) ?_
          refine p_iconst 29 dX11_seed_28 ?_
          refine p_callV1i 0 32 dX11_seed_29 s_deny lk_X11_329 mX11_deny rfl rfl (by decide) (Nat.le_of_ble_eq_true rfl) ?_
          rintro _ _ ⟨rfl, rfl⟩
          refine p_zret dX11_seed_32 rfl (by decide) ?_
          exact ⟨_, rfl, CA.no hI hF (by unfold ga_seed; (repeat' split) <;> first | rfl | (exfalso; omega)) (by unfold ga_seed; (repeat' split) <;> first | rfl | (exfalso; omega)) (by decide)⟩
    · refine p_aload_n 11 dX11_seed_10 rfl rfl (by decide) ?_
      refine p_iconst 12 dX11_seed_11 ?_
      refine p_callV1i 0 15 dX11_seed_12 s_deny lk_X11_329 mX11_deny rfl rfl (by decide) (Nat.le_of_ble_eq_true rfl) ?_
      rintro _ _ ⟨rfl, rfl⟩
      refine p_zret dX11_seed_15 rfl (by decide) ?_
      exact ⟨_, rfl, CA.no hI hF (by unfold ga_seed; (repeat' split) <;> first | rfl | (exfalso; omega)) (by unfold ga_seed; (repeat' split) <;> first | rfl | (exfalso; omega)) (by decide)⟩
theorem m_seed {l : Launch} {X : ZX} {M : ZM} (hW : zWm M) (hF : WF M) {v : Int} (hv1 : -2147483648 ≤ v) (hv2 : v < 2147483648) : zCi l X 1 yX12_seed tX12_seed [zr 124, zi v] M (MA M (ga_seed M v)) := by
  have hWg : zWm (zset (zset M 124 0 0) 124 11 0) := (hW.set (by decide +kernel)).set (by decide +kernel)
  have hR := hF.r
  have hT := hF.t
  have hh := hF.h
  have e0 : M 127 0 = (q_n (M 127) 0 : Int) := hR.n (by decide)
  have e2 : M 127 2 = (q_n (M 127) 2 : Int) := hR.n (by decide)
  have e3 : M 127 3 = (q_n (M 127) 3 : Int) := hR.n (by decide)
  have e4 : M 127 4 = (q_n (M 127) 4 : Int) := hR.n (by decide)
  have bR := hR.2.1
  have h20 : M 124 14 = 0 → M 127 2 = 0 := fun h => hF.r0 h 2 (by decide)
  have h30 : M 124 14 = 0 → M 127 3 = 0 := fun h => hF.r0 h 3 (by decide)
  have h40 : M 124 14 = 0 → M 127 4 = 0 := fun h => hF.r0 h 4 (by decide)
  refine zC.of [some (zr 124), some (zi v)] (by decide +kernel) rfl rfl (Nat.le_of_ble_eq_true rfl) rfl ?_
  refine p_aload_n 1 dX12_seed_0 rfl rfl (by decide) ?_
  refine p_callV0v 124 4 dX12_seed_1 s_good lk_X12_165 mX12_good rfl rfl (by decide) (Nat.le_of_ble_eq_true rfl) ?_
  rintro _ rfl
  refine p_aload_n 5 dX12_seed_4 rfl rfl (by decide) ?_
  refine p_getI 124 8 dX12_seed_5 fX12_178 rfl ?_
  refine p_if_ne 17 11 dX12_seed_8 (by show _ ≤ M 124 14; omega) (by show M 124 14 < _; omega) (fun h8 => ?_) (fun h8 => ?_)
  · have h8 : ¬ M 124 14 = 0 := h8
    refine p_iload_n 18 dX12_seed_17 rfl rfl ?_
    refine p_iconst 19 dX12_seed_18 ?_
    refine p_ldcw (z := 65536) 22 dX12_seed_19 kk_X12_419 rfl ?_
    refine p_callS3i 25 dX12_seed_22 (s_in (by omega) (by omega) (by omega) (by omega) (by omega) (by omega)) lk_X12_146 mX12_in (by decide) (Nat.le_of_ble_eq_true rfl) ?_
    rintro _ _ ⟨rfl, e9⟩
    have e9 := e9.symm
    subst e9
    refine p_if_ne 34 28 dX12_seed_25 (by split <;> omega) (by split <;> omega) (fun h25 => ?_) (fun h25 => ?_)
    · have h25 := if_ne0 h25
      refine p_aload_n 35 dX12_seed_34 rfl rfl (by decide) ?_
      refine p_getR 124 38 dX12_seed_35 fX12_26 rfl (hWg (124, 17, 129) (by decide)) ?_
      refine p_bipush 40 dX12_seed_38 rfl ?_
      refine p_iload_n 41 dX12_seed_40 rfl rfl ?_
      refine p_iast 129 42 dX12_seed_41 rfl (by omega) (by omega) ?_
      try simp only [Int.toNat_natCast, Int.reduceToNat]
      refine p_iconst 43 dX12_seed_42 ?_
      refine p_zret dX12_seed_43 rfl (by decide) ?_
      refine ⟨_, rfl, ?_⟩
      unfold ga_seed
      rw [if_neg (by omega), if_pos (by omega)]
      refine ⟨rfl, fun k hk => by rw [zset_ne _ (by omega), zset_ne _ (by omega), zset_ne _ (by omega)], hWg.set (by decide +kernel), ?_⟩
      exact ⟨rfl, rfl, rfl, rfl, rfl, rfl, rfl, rfl, rfl, rfl, rfl, rfl⟩
    · have h25 := if_nne0 h25
      refine p_aload_n 29 dX12_seed_28 rfl rfl (by decide) ?_
      refine p_iconst 30 dX12_seed_29 ?_
      refine p_callV1i 124 33 dX12_seed_30 s_isNot lk_X12_431 mX12_isNot rfl rfl (by decide) (Nat.le_of_ble_eq_true rfl) ?_
      rintro _ _ ⟨rfl, rfl⟩
      refine p_zret dX12_seed_33 rfl (by decide) ?_
      exact ⟨_, rfl, MA.no hW (by unfold ga_seed; (repeat' split) <;> first | rfl | (exfalso; omega)) (by unfold ga_seed; (repeat' split) <;> first | rfl | (exfalso; omega))⟩
  · have h8 : ¬ M 124 14 ≠ 0 := h8
    refine p_aload_n 12 dX12_seed_11 rfl rfl (by decide) ?_
    refine p_iconst 13 dX12_seed_12 ?_
    refine p_callV1i 124 16 dX12_seed_13 s_isNot lk_X12_431 mX12_isNot rfl rfl (by decide) (Nat.le_of_ble_eq_true rfl) ?_
    rintro _ _ ⟨rfl, rfl⟩
    refine p_zret dX12_seed_16 rfl (by decide) ?_
    exact ⟨_, rfl, MA.no hW (by unfold ga_seed; (repeat' split) <;> first | rfl | (exfalso; omega)) (by unfold ga_seed; (repeat' split) <;> first | rfl | (exfalso; omega))⟩
theorem zcopy_at {M : ZM} {f a t i m b : Nat} (h : b < m) : zcopy M f a t i m t (i + b) = M f (a + b) := by
  unfold zcopy
  rw [if_pos ⟨rfl, by omega, by omega⟩]
  congr 1
  omega
theorem zcopy_out {M : ZM} {f a t i m b : Nat} (h : b < i ∨ i + m ≤ b) : zcopy M f a t i m t b = M t b := by
  unfold zcopy
  rw [if_neg (by omega)]
def q_undone (M : ZM) : ZM := zset (zset (zcopy M 130 (18 * (M 124 20 - 1).toNat) 129 0 18) 124 20 (M 124 20 - 1)) 124 11 0
def ga_undo (M : ZM) : Int × ZM := if M 124 20 = 0 then (0, zset M 124 11 6) else (1, q_undone M)
def q_imaged (M : ZM) : ZM := zset (zset (zcopy M 129 0 131 (18 * (M 124 21).toNat) 18) 124 21 (M 124 21 + 1)) 124 11 0
def ga_image (M : ZM) : Int × ZM := if M 124 14 = 0 then (-1, zset M 124 11 1) else if M 124 21 = 3 then (-1, zset M 124 11 3) else (M 124 21, q_imaged M)
def q_backed (M : ZM) (v : Int) : ZM := zset (zset (zcopy M 131 (18 * v.toNat) 129 0 18) 124 20 0) 124 11 0
def ga_back (M : ZM) (v : Int) : Int × ZM := if v < 0 ∨ M 124 21 ≤ v then (0, zset M 124 11 1) else (1, q_backed M v)
theorem q_undone_129 {M : ZM} {i : Nat} (hi : i < 18) : q_undone M 129 i = M 130 (18 * (M 124 20 - 1).toNat + i) := by
  have h := zcopy_at (M := M) (f := 130) (a := 18 * (M 124 20 - 1).toNat) (t := 129) (i := 0) (m := 18) hi
  rw [Nat.zero_add] at h
  exact h
theorem q_backed_129 {M : ZM} {v : Int} {i : Nat} (hi : i < 18) : q_backed M v 129 i = M 131 (18 * v.toNat + i) := by
  have h := zcopy_at (M := M) (f := 131) (a := 18 * v.toNat) (t := 129) (i := 0) (m := 18) hi
  rw [Nat.zero_add] at h
  exact h
theorem zcopy_cell {M : ZM} {f a t i m x : Nat} (h : x ≠ t) : zcopy M f a t i m x = M x := zcopy_ne M h
theorem q_undone_ne {M : ZM} {x : Nat} (h1 : x ≠ 124) (h2 : x ≠ 129) : q_undone M x = M x := by
  unfold q_undone
  rw [zset_ne _ h1, zset_ne _ h1, zcopy_ne _ h2]
theorem q_backed_ne {M : ZM} {v : Int} {x : Nat} (h1 : x ≠ 124) (h2 : x ≠ 129) : q_backed M v x = M x := by
  unfold q_backed
  rw [zset_ne _ h1, zset_ne _ h1, zcopy_ne _ h2]
theorem q_imaged_ne {M : ZM} {x : Nat} (h1 : x ≠ 124) (h2 : x ≠ 131) : q_imaged M x = M x := by
  unfold q_imaged
  rw [zset_ne _ h1, zset_ne _ h1, zcopy_ne _ h2]
theorem WF.undo {M : ZM} (h : WF M) : WF (ga_undo M).2 := by
  unfold ga_undo
  split
  · exact h.tr (by decide) (by decide)
  · rename_i hu
    have hu2 := h.u
    have hr := h.ur (M 124 20 - 1).toNat (by omega)
    have h1 : M 124 14 = 1 := by
      rcases h.h with g | g
      · exact absurd (h.t0 g).2.1 hu
      · exact g
    have hm := h.ur
    obtain ⟨a1, a2, a3, a4, a5, a6, a7, a8, a9, a10, a11, a12, a13, a14, a15⟩ := h
    have e125 : q_undone M 125 = M 125 := q_undone_ne (by decide) (by decide)
    have e127 : q_undone M 127 = M 127 := q_undone_ne (by decide) (by decide)
    have e130 : q_undone M 130 = M 130 := q_undone_ne (by decide) (by decide)
    have e131 : q_undone M 131 = M 131 := q_undone_ne (by decide) (by decide)
    have e124 : ∀ k, k ≠ 11 → k ≠ 20 → q_undone M 124 k = M 124 k := fun k g1 g2 => by
      unfold q_undone
      rw [zset_k g1, zset_k g2, zcopy_cell (by decide)]
    have e20 : q_undone M 124 20 = M 124 20 - 1 := rfl
    show WF (q_undone M)
    unfold WF
    rw [e125, e127, e130, e131, e124 2 (by decide) (by decide), e124 9 (by decide) (by decide), e124 10 (by decide) (by decide), e124 14 (by decide) (by decide), e124 21 (by decide) (by decide), e20]
    exact ⟨a1, a2, ⟨Int.le_refl 0, by show (0 : Int) ≤ 6; decide⟩, a4, a5, a6, a7, a8, a9, hr.congr (fun i hi => q_undone_129 hi), ⟨by omega, by omega⟩, fun j hj => hm j (by omega), a13, a14, fun g => absurd g (by omega)⟩
theorem WF.back {M : ZM} (h : WF M) (v : Int) : WF (ga_back M v).2 := by
  unfold ga_back
  split
  · exact h.tr (by decide) (by decide)
  · rename_i hv
    have hm := h.m
    have hr := h.mr v.toNat (by omega)
    have h1 : M 124 14 = 1 := by
      rcases h.h with g | g
      · have := (h.t0 g).2.2; omega
      · exact g
    obtain ⟨a1, a2, a3, a4, a5, a6, a7, a8, a9, a10, a11, a12, a13, a14, a15⟩ := h
    have e125 : q_backed M v 125 = M 125 := q_backed_ne (by decide) (by decide)
    have e127 : q_backed M v 127 = M 127 := q_backed_ne (by decide) (by decide)
    have e130 : q_backed M v 130 = M 130 := q_backed_ne (by decide) (by decide)
    have e131 : q_backed M v 131 = M 131 := q_backed_ne (by decide) (by decide)
    have e124 : ∀ k, k ≠ 11 → k ≠ 20 → q_backed M v 124 k = M 124 k := fun k g1 g2 => by
      unfold q_backed
      rw [zset_k g1, zset_k g2, zcopy_cell (by decide)]
    have e20 : q_backed M v 124 20 = 0 := rfl
    show WF (q_backed M v)
    unfold WF
    rw [e125, e127, e130, e131, e124 2 (by decide) (by decide), e124 9 (by decide) (by decide), e124 10 (by decide) (by decide), e124 14 (by decide) (by decide), e124 21 (by decide) (by decide), e20]
    exact ⟨a1, a2, ⟨Int.le_refl 0, by show (0 : Int) ≤ 6; decide⟩, a4, a5, a6, a7, a8, a9, hr.congr (fun i hi => q_backed_129 hi), ⟨by decide, by decide⟩, fun j hj => absurd hj (by omega), a13, a14, fun g => absurd g (by omega)⟩
theorem q_imaged_row {M : ZM} {j i : Nat} (hm : 0 ≤ M 124 21) (hj : (j : Int) < M 124 21 + 1) (hi : i < 18) : q_imaged M 131 (18 * j + i) = if (j : Int) = M 124 21 then M 129 i else M 131 (18 * j + i) := by
  show zcopy M 129 0 131 (18 * (M 124 21).toNat) 18 131 (18 * j + i) = _
  by_cases e : (j : Int) = M 124 21
  · rw [if_pos e]
    have h := zcopy_at (M := M) (f := 129) (a := 0) (t := 131) (i := 18 * (M 124 21).toNat) (m := 18) hi
    rw [Nat.zero_add, show 18 * (M 124 21).toNat + i = 18 * j + i by omega] at h
    exact h
  · rw [if_neg e]
    exact zcopy_out (by omega)
theorem WF.image {M : ZM} (h : WF M) : WF (ga_image M).2 := by
  unfold ga_image
  split
  · exact h.tr (by decide) (by decide)
  · split
    · exact h.tr (by decide) (by decide)
    · rename_i h0 h3
      have hm := h.m
      have hmr := h.mr
      have hT := h.t
      obtain ⟨a1, a2, a3, a4, a5, a6, a7, a8, a9, a10, a11, a12, a13, a14, a15⟩ := h
      have e125 : q_imaged M 125 = M 125 := q_imaged_ne (by decide) (by decide)
      have e127 : q_imaged M 127 = M 127 := q_imaged_ne (by decide) (by decide)
      have e130 : q_imaged M 130 = M 130 := q_imaged_ne (by decide) (by decide)
      have e129 : q_imaged M 129 = M 129 := q_imaged_ne (by decide) (by decide)
      have e124 : ∀ k, k ≠ 11 → k ≠ 21 → q_imaged M 124 k = M 124 k := fun k g1 g2 => by
        unfold q_imaged
        rw [zset_k g1, zset_k g2, zcopy_cell (by decide)]
      have e21 : q_imaged M 124 21 = M 124 21 + 1 := rfl
      show WF (q_imaged M)
      unfold WF
      rw [e125, e127, e130, e129, e124 2 (by decide) (by decide), e124 9 (by decide) (by decide), e124 10 (by decide) (by decide), e124 14 (by decide) (by decide), e124 20 (by decide) (by decide), e21]
      refine ⟨a1, a2, ⟨Int.le_refl 0, by show (0 : Int) ≤ 6; decide⟩, a4, a5, a6, a7, a8, a9, a10, a11, a12, ⟨by omega, by omega⟩, fun j hj => ?_, fun g => absurd g h0⟩
      by_cases e : (j : Int) = M 124 21
      · exact hT.congr (fun i hi => by show q_imaged M 131 (18 * j + i) = _; rw [q_imaged_row hm.1 hj hi, if_pos e])
      · exact (hmr j (by omega)).congr (fun i hi => by show q_imaged M 131 (18 * j + i) = _; rw [q_imaged_row hm.1 hj hi, if_neg e])
theorem c_undo {l : Launch} {X : ZX} {M : ZM} (hI : IC M M) (hF : WF M)  : zCi l X 2 yX11_undo tX11_undo [zr 0] M (CA M (ga_undo M)) := by
  obtain ⟨hW, ⟨c, c', hcc, hco, hsp, hC⟩, ⟨j1, j2, j3, j4, j5⟩, hN, hpast, hten, ⟨hz0, hsea⟩, hfit⟩ := id hI
  have hR := hF.r
  have hT := hF.t
  have hh := hF.h
  have e0 : M 127 0 = (q_n (M 127) 0 : Int) := hR.n (by decide)
  have e2 : M 127 2 = (q_n (M 127) 2 : Int) := hR.n (by decide)
  have e3 : M 127 3 = (q_n (M 127) 3 : Int) := hR.n (by decide)
  have e4 : M 127 4 = (q_n (M 127) 4 : Int) := hR.n (by decide)
  have bR := hR.2.1
  have h20 : M 124 14 = 0 → M 127 2 = 0 := fun h => hF.r0 h 2 (by decide)
  have h30 : M 124 14 = 0 → M 127 3 = 0 := fun h => hF.r0 h 3 (by decide)
  have h40 : M 124 14 = 0 → M 127 4 = 0 := fun h => hF.r0 h 4 (by decide)
  have hwo : M 49 3 = M 129 16 := hN.2.2.2.1
  have t160 := hT.1 16 (by decide)
  have t161 := hT.2.2.2.2.1
  refine zC.of [some (zr 0)] (by decide +kernel) rfl rfl (Nat.le_of_ble_eq_true rfl) rfl ?_
  rcases hcc with ⟨rfl, rfl⟩ | ⟨rfl, rfl⟩
  · have hto : M 2 0 = M 124 14 := hC.1.1
    have hla : M 2 1 = M 127 0 := hC.1.2.1
    have hsn : M 2 2 = M 127 1 := hC.1.2.2.1
    have hcs : M 3 0 = M 127 2 := hC.1.2.2.2.1
    have hca : M 8 0 = M 127 3 := hC.1.2.2.2.2.1
    have hcw : M 13 0 = M 127 4 := hC.1.2.2.2.2.2.1
    have hcb : M 13 1 = M 127 5 := hC.1.2.2.2.2.2.2.1
    have hcor : M 19 0 = M 127 6 := hC.1.2.2.2.2.2.2.2.1
    have hcn : M 19 4 = M 127 7 := hC.1.2.2.2.2.2.2.2.2
    have hu := hF.u
    obtain ⟨p1, p2, top, ht16, p3, p4, p5⟩ := id hpast
    obtain ⟨cnt, hcnt⟩ : ∃ k : Nat, M 124 20 = (k : Int) := ⟨(M 124 20).toNat, by omega⟩
    have hc52 : M 52 2 = (cnt : Int) := by omega
    refine p_aload_n 1 dX11_undo_0 rfl rfl (by decide) ?_
    refine p_getR 0 4 dX11_undo_1 fX11_40 rfl (hW (0, 9, 52) (by decide)) ?_
    refine p_getI 52 7 dX11_undo_4 fX11_353 rfl ?_
    rw [hc52]
    refine p_if_gt 17 10 dX11_undo_7 (by omega) (by omega) (fun h7 => ?_) (fun h7 => ?_)
    · refine p_aload_n 18 dX11_undo_17 rfl rfl (by decide) ?_
      refine p_getR 0 21 dX11_undo_18 fX11_40 rfl (hW (0, 9, 52) (by decide)) ?_
      refine p_aload_n 22 dX11_undo_21 rfl rfl (by decide) ?_
      refine p_getR 0 25 dX11_undo_22 fX11_33 rfl (hW (0, 8, 49) (by decide)) ?_
      refine p_callV1v 52 28 dX11_undo_25 (s_takeBack hW ht16 (by omega) (by omega) p3 hc52 (by rw [hw3]; exact hw01)) lk_X11_354 mX5_takeBack rfl rfl (by decide) (Nat.le_of_ble_eq_true rfl) ?_
      rintro _ rfl
      refine p_aload_n 29 dX11_undo_28 rfl rfl (by decide) ?_
      refine p_callV0i 0 32 dX11_undo_29 s_allow lk_X11_339 mX11_allow rfl rfl (by decide) (Nat.le_of_ble_eq_true rfl) ?_
      rintro _ _ ⟨rfl, rfl⟩
      refine p_zret dX11_undo_32 rfl (by decide) ?_
      skip
    · have h1 : M 124 14 = 1 := by
        rcases hF.h with g | g
        · have := (hF.t0 g).2.1; omega
        · exact g
      have hrw := p4 (cnt - 1) (by omega)
      have ecw : (top + 16 - (M 124 20).toNat + (cnt - 1)) % 16 = (top + 15) % 16 := by
        congr 1
        omega
      rw [ecw] at hrw
      have hw3 := hrw.2.2.2.1
      have hwt := hF.ur (cnt - 1) (by omega)
      have hwa := hwt.1 16 (by decide)
      have hwb := hwt.2.2.2.2.1
      have hw01 : M 130 (18 * (cnt - 1) + 16) = 0 ∨ M 130 (18 * (cnt - 1) + 16) = 1 := by
        have g1 : 0 ≤ M 130 (18 * (cnt - 1) + 16) := hwa
        have g2 : M 130 (18 * (cnt - 1) + 16) ≤ 1 := hwb
        omega
      refine p_aload_n 11 dX11_undo_10 rfl rfl (by decide) ?_
      refine p_bipush 13 dX11_undo_11 rfl ?_
      refine p_callV1i 0 16 dX11_undo_13 s_deny lk_X11_329 mX11_deny rfl rfl (by decide) (Nat.le_of_ble_eq_true rfl) ?_
      rintro _ _ ⟨rfl, rfl⟩
      refine p_zret dX11_undo_16 rfl (by decide) ?_
      skip
  · have hto : M 25 0 = M 124 14 := hC.1.1
    have hla : M 25 1 = M 127 0 := hC.1.2.1
    have hsn : M 25 2 = M 127 1 := hC.1.2.2.1
    have hcs : M 26 0 = M 127 2 := hC.1.2.2.2.1
    have hca : M 31 0 = M 127 3 := hC.1.2.2.2.2.1
    have hcw : M 36 0 = M 127 4 := hC.1.2.2.2.2.2.1
    have hcb : M 36 1 = M 127 5 := hC.1.2.2.2.2.2.2.1
    have hcor : M 42 0 = M 127 6 := hC.1.2.2.2.2.2.2.2.1
    have hcn : M 42 4 = M 127 7 := hC.1.2.2.2.2.2.2.2.2
    have hu := hF.u
    obtain ⟨p1, p2, top, ht16, p3, p4, p5⟩ := id hpast
    obtain ⟨cnt, hcnt⟩ : ∃ k : Nat, M 124 20 = (k : Int) := ⟨(M 124 20).toNat, by omega⟩
    have hc52 : M 52 2 = (cnt : Int) := by omega
    refine p_aload_n 1 dX11_undo_0 rfl rfl (by decide) ?_
    refine p_getR 0 4 dX11_undo_1 fX11_40 rfl (hW (0, 9, 52) (by decide)) ?_
    refine p_getI 52 7 dX11_undo_4 fX11_353 rfl ?_
    rw [hc52]
    refine p_if_gt 17 10 dX11_undo_7 (by omega) (by omega) (fun h7 => ?_) (fun h7 => ?_)
    · refine p_aload_n 18 dX11_undo_17 rfl rfl (by decide) ?_
      refine p_getR 0 21 dX11_undo_18 fX11_40 rfl (hW (0, 9, 52) (by decide)) ?_
      refine p_aload_n 22 dX11_undo_21 rfl rfl (by decide) ?_
      refine p_getR 0 25 dX11_undo_22 fX11_33 rfl (hW (0, 8, 49) (by decide)) ?_
      refine p_callV1v 52 28 dX11_undo_25 (s_takeBack hW ht16 (by omega) (by omega) p3 hc52 (by rw [hw3]; exact hw01)) lk_X11_354 mX5_takeBack rfl rfl (by decide) (Nat.le_of_ble_eq_true rfl) ?_
      rintro _ rfl
      refine p_aload_n 29 dX11_undo_28 rfl rfl (by decide) ?_
      refine p_callV0i 0 32 dX11_undo_29 s_allow lk_X11_339 mX11_allow rfl rfl (by decide) (Nat.le_of_ble_eq_true rfl) ?_
      rintro _ _ ⟨rfl, rfl⟩
      refine p_zret dX11_undo_32 rfl (by decide) ?_
      skip
    · have h1 : M 124 14 = 1 := by
        rcases hF.h with g | g
        · have := (hF.t0 g).2.1; omega
        · exact g
      have hrw := p4 (cnt - 1) (by omega)
      have ecw : (top + 16 - (M 124 20).toNat + (cnt - 1)) % 16 = (top + 15) % 16 := by
        congr 1
        omega
      rw [ecw] at hrw
      have hw3 := hrw.2.2.2.1
      have hwt := hF.ur (cnt - 1) (by omega)
      have hwa := hwt.1 16 (by decide)
      have hwb := hwt.2.2.2.2.1
      have hw01 : M 130 (18 * (cnt - 1) + 16) = 0 ∨ M 130 (18 * (cnt - 1) + 16) = 1 := by
        have g1 : 0 ≤ M 130 (18 * (cnt - 1) + 16) := hwa
        have g2 : M 130 (18 * (cnt - 1) + 16) ≤ 1 := hwb
        omega
      refine p_aload_n 11 dX11_undo_10 rfl rfl (by decide) ?_
      refine p_bipush 13 dX11_undo_11 rfl ?_
      refine p_callV1i 0 16 dX11_undo_13 s_deny lk_X11_329 mX11_deny rfl rfl (by decide) (Nat.le_of_ble_eq_true rfl) ?_
      rintro _ _ ⟨rfl, rfl⟩
      refine p_zret dX11_undo_16 rfl (by decide) ?_
      skip
