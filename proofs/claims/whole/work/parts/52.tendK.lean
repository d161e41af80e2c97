theorem l_learnA {l : Launch} {X : ZX} {M : ZM} {c : Nat} (hc : isC c) {ρ : Nat → Int} {h : Int} (hW : zWc M) (hC : ICc ρ h c M) (hR : wfR ρ) {Q : Option ZV → ZM → Prop} (hQ : zP l X 5 tX9_learn 74 [some (zr 112), some (zr (c : Int)), some (zi (q_T ρ : Int)), some (zi (q_n ρ 3 : Int)), none, none] [] (zset M 112 1 (q_allHands (q_n ρ) : Int)) Q) : ∀ (j i : Nat), i + j = q_n ρ 3 → zP l X 5 tX9_learn 17 [some (zr 112), some (zr (c : Int)), some (zi (q_sum (fun a => (q_n ρ (29 + 3 * a + 1) + 1) * 8 ^ a) i : Int)), some (zi (i : Int)), none, none] [] (zset M 112 1 (q_sum (fun a => q_n ρ (29 + 3 * a + 1) * 8 ^ a) i : Int)) (Q) := by
  have e2 : ρ 2 = (q_n ρ 2 : Int) := hR.n (by decide)
  have b2 := hR.2.1.2.2.1
  have e3 : ρ 3 = (q_n ρ 3 : Int) := hR.n (by decide)
  have b3 := hR.2.1.2.2.2.1
  have hcl := hc.lt
  have hT := q_T_le hR (n := q_n ρ 3) (by omega)
  change q_T ρ ≤ 365 at hT
  intro j
  induction j with
  | zero =>
    intro i hi
    have hW9 : zWc (zset M 112 1 (q_sum (fun a => q_n ρ (29 + 3 * a + 1) * 8 ^ a) i : Int)) := hW.set (by decide +kernel)
    refine p_iload_n 18 dX9_learn_17 rfl rfl ?_
    refine p_aload_n 19 dX9_learn_18 rfl rfl (by omega) ?_
    refine p_getR (c) 22 dX9_learn_19 fX9_26 hc.tt2.1 (hc.wire2 hW9).2.1 ?_
    refine p_getI (c + 6) 25 dX9_learn_22 fX9_32 hc.tt2.2.2.1 ?_
    rw [zset_ne _ (by omega), hC.1.2.2.2.2.1]
    refine p_icmp_ge 74 28 dX9_learn_25 (by omega) (by omega) (by omega) (by omega) (fun h25 => ?_) (fun h25 => absurd (by omega) (fun h9 : False => h9))
    rw [Nat.add_zero] at hi
    subst hi
    exact hQ
  | succ j ih =>
    intro i hi
    have hW9 : zWc (zset M 112 1 (q_sum (fun a => q_n ρ (29 + 3 * a + 1) * 8 ^ a) i : Int)) := hW.set (by decide +kernel)
    have hh4 := q_hand4 hR (a := i) (by omega)
    have eh : ρ (29 + 3 * i + 1) = (q_n ρ (29 + 3 * i + 1) : Int) := hR.n (by omega)
    refine p_iload_n 18 dX9_learn_17 rfl rfl ?_
    refine p_aload_n 19 dX9_learn_18 rfl rfl (by omega) ?_
    refine p_getR (c) 22 dX9_learn_19 fX9_26 hc.tt2.1 (hc.wire2 hW9).2.1 ?_
    refine p_getI (c + 6) 25 dX9_learn_22 fX9_32 hc.tt2.2.2.1 ?_
    rw [zset_ne _ (by omega), hC.1.2.2.2.2.1]
    refine p_icmp_ge 74 28 dX9_learn_25 (by omega) (by omega) (by omega) (by omega) (fun h25 => absurd (by omega) (fun h9 : False => h9)) (fun h25 => ?_)
    refine p_aload_n 29 dX9_learn_28 rfl rfl (by decide) ?_
    refine p_dupR 30 dX9_learn_29 ?_
    refine p_getI 112 33 dX9_learn_30 fX9_22 rfl ?_
    rw [zset_at]
    refine p_iload_n 34 dX9_learn_33 rfl rfl ?_
    refine p_aload_n 35 dX9_learn_34 rfl rfl (by omega) ?_
    refine p_getR (c) 38 dX9_learn_35 fX9_26 hc.tt2.1 (hc.wire2 hW9).2.1 ?_
    refine p_getR (c + 6) 41 dX9_learn_38 fX9_37 hc.tt2.2.2.1 (hc.wire2 hW9).2.2 ?_
    refine p_iload_n 42 dX9_learn_41 rfl rfl ?_
    refine p_ialdn (c + 9) 43 (i) dX9_learn_42 hc.tt2.2.2.2 (by omega) (by omega) ?_
    rw [zset_ne _ (by omega), (hC.2.2.1 i (by omega)).2.1, eh]
    refine p_callN2i 46 dX9_learn_43 (s_handsAt (i := i) (v := q_n ρ (29 + 3 * i + 1)) (by omega) (by omega)) ln_X9_40 mX11_handsAt (by decide) (Nat.le_of_ble_eq_true rfl) ?_
    rintro _ _ ⟨rfl, e9⟩
    have e9 := e9.symm
    subst e9
    refine p_iadd 47 dX9_learn_46 ?_
    refine p_putI 112 50 dX9_learn_47 wX9_22 rfl ?_
    rw [zset_zset]
    have hW9 : zWc (zset M 112 1 (((q_sum (fun a => q_n ρ (29 + 3 * a + 1) * 8 ^ a) i : Nat) : Int) + ((q_n ρ (29 + 3 * i + 1) * 8 ^ i : Nat) : Int))) := hW.set (by decide +kernel)
    refine p_iload_n 51 dX9_learn_50 rfl rfl ?_
    refine p_iload_n 52 dX9_learn_51 rfl rfl ?_
    refine p_aload_n 53 dX9_learn_52 rfl rfl (by omega) ?_
    refine p_getR (c) 56 dX9_learn_53 fX9_26 hc.tt2.1 (hc.wire2 hW9).2.1 ?_
    refine p_getR (c + 6) 59 dX9_learn_56 fX9_37 hc.tt2.2.2.1 (hc.wire2 hW9).2.2 ?_
    refine p_iload_n 60 dX9_learn_59 rfl rfl ?_
    refine p_ialdn (c + 9) 61 (i) dX9_learn_60 hc.tt2.2.2.2 (by omega) (by omega) ?_
    rw [zset_ne _ (by omega), (hC.2.2.1 i (by omega)).2.1, eh]
    refine p_iconst 62 dX9_learn_61 ?_
    refine p_iadd 63 dX9_learn_62 ?_
    refine p_callN2i 66 dX9_learn_63 (s_handsAt (i := i) (v := q_n ρ (29 + 3 * i + 1) + 1) (by omega) (by omega)) ln_X9_40 mX11_handsAt (by decide) (Nat.le_of_ble_eq_true rfl) ?_
    rintro _ _ ⟨rfl, e9⟩
    have e9 := e9.symm
    subst e9
    refine p_iadd 67 dX9_learn_66 ?_
    refine p_istore_n 68 dX9_learn_67 rfl (Nat.le_of_ble_eq_true rfl) rfl rfl ?_
    dsimp only [List.set]
    refine p_iinc 71 dX9_learn_68 rfl rfl rfl ?_
    dsimp only [List.set]
    refine p_goto 17 dX9_learn_71 ?_
    exact ih (i + 1) (by omega)
theorem l_learnB {l : Launch} {X : ZX} {M : ZM} {c : Nat} {ρ : Nat → Int} (hR : wfR ρ) {N : ZM} (hW : zWc N) {Q : Option ZV → ZM → Prop} (hQ : ∀ M : ZM, (∀ a, a ≠ 114 → M a = N a) → ICb ρ 0 M → zP l X 5 tX9_learn 111 [some (zr 112), some (zr (c : Int)), some (zi (q_T ρ : Int)), some (zi (q_n ρ 2 : Int)), some (zi (((q_T ρ + 1 : Nat)) : Int)), none] [] M Q) : ∀ (j i : Nat), i + j = q_T ρ + 1 → ∀ {M : ZM}, (∀ a, a ≠ 114 → M a = N a) → (∀ st, st < i → M 114 (q_n ρ 2 * 366 + st) = 0) → zP l X 5 tX9_learn 85 [some (zr 112), some (zr (c : Int)), some (zi (q_T ρ : Int)), some (zi (q_n ρ 2 : Int)), some (zi (i : Int)), none] [] M (Q) := by
  have e2 : ρ 2 = (q_n ρ 2 : Int) := hR.n (by decide)
  have b2 := hR.2.1.2.2.1
  have e3 : ρ 3 = (q_n ρ 3 : Int) := hR.n (by decide)
  have b3 := hR.2.1.2.2.2.1
  have hT := q_T_le hR (n := q_n ρ 3) (by omega)
  change q_T ρ ≤ 365 at hT
  intro j
  induction j with
  | zero =>
    intro i hi M hM hk
    have hW9 : zWc M := hW.fr (fun q hq => by
      have hr : ∀ q ∈ zwC, q.1 ≠ 114 := by decide +kernel
      rw [hM _ (hr q hq)])
    refine p_iload 87 dX9_learn_85 rfl ?_
    refine p_iload_n 88 dX9_learn_87 rfl rfl ?_
    refine p_icmp_gt 111 91 dX9_learn_88 (by omega) (by omega) (by omega) (by omega) (fun h88 => ?_) (fun h88 => absurd (by omega) (fun h9 : False => h9))
    rw [Nat.add_zero] at hi
    subst hi
    refine hQ M hM (fun m' hm' st hst => ?_)
    have e : m' = 0 := by omega
    subst e
    exact hk st (by omega)
  | succ j ih =>
    intro i hi M hM hk
    have hW9 : zWc M := hW.fr (fun q hq => by
      have hr : ∀ q ∈ zwC, q.1 ≠ 114 := by decide +kernel
      rw [hM _ (hr q hq)])
    refine p_iload 87 dX9_learn_85 rfl ?_
    refine p_iload_n 88 dX9_learn_87 rfl rfl ?_
    refine p_icmp_gt 111 91 dX9_learn_88 (by omega) (by omega) (by omega) (by omega) (fun h88 => absurd (by omega) (fun h9 : False => h9)) (fun h88 => ?_)
    refine p_aload_n 92 dX9_learn_91 rfl rfl (by decide) ?_
    refine p_getR 112 95 dX9_learn_92 fX9_15 rfl (hW9 (112, 4, 114) (by decide)) ?_
    refine p_iload_n 96 dX9_learn_95 rfl rfl ?_
    refine p_sipush 99 dX9_learn_96 rfl ?_
    refine p_imul 100 dX9_learn_99 ?_
    refine p_iload 102 dX9_learn_100 rfl ?_
    refine p_iadd 103 dX9_learn_102 ?_
    refine p_iconst 104 dX9_learn_103 ?_
    refine p_iastn 114 105 (q_n ρ 2 * 366 + i) dX9_learn_104 rfl (by omega) (by omega) ?_
    refine p_iinc 108 dX9_learn_105 rfl rfl rfl ?_
    dsimp only [List.set]
    refine p_goto 85 dX9_learn_108 ?_
    refine ih (i + 1) (by omega) (fun a ha => by rw [zset_ne _ ha]; exact hM a ha) (fun st hst => ?_)
    by_cases e : st = i
    · subst e
      exact zset_at _ _ _ _
    · rw [zset_k (by omega)]
      exact hk st (by omega)
theorem l_learnD {l : Launch} {X : ZX} {M : ZM} {c : Nat} (hc : isC c) {ρ : Nat → Int} {h : Int} (hR : wfR ρ) {N : ZM} (hW : zWc N) (hC : ICc ρ h c N) {s m : Nat} (hm : s + (m + 1) = q_n ρ 2) {Q : Option ZV → ZM → Prop} (hQ : ∀ M : ZM, (∀ a, a ≠ 114 → M a = N a) → ICb ρ (m + 1) M → zP l X 5 tX9_learn 159 [some (zr 112), some (zr (c : Int)), some (zi (q_T ρ : Int)), some (zi (q_n ρ 2 : Int)), some (zi (s : Int)), some (zi (((q_T ρ + 1 : Nat)) : Int))] [] M Q) : ∀ (j i : Nat), i + j = q_T ρ + 1 → ∀ {M : ZM}, (∀ a, a ≠ 114 → M a = N a) → ICb ρ m M → (∀ st, st < i → M 114 (s * 366 + st) = (q_bt (q_n ρ) (m + 1) (q_dg st) : Int)) → zP l X 5 tX9_learn 124 [some (zr 112), some (zr (c : Int)), some (zi (q_T ρ : Int)), some (zi (q_n ρ 2 : Int)), some (zi (s : Int)), some (zi (i : Int))] [] M (Q) := by
  have e2 : ρ 2 = (q_n ρ 2 : Int) := hR.n (by decide)
  have b2 := hR.2.1.2.2.1
  have e3 : ρ 3 = (q_n ρ 3 : Int) := hR.n (by decide)
  have b3 := hR.2.1.2.2.2.1
  have hcl := hc.lt
  have hT := q_T_le hR (n := q_n ρ 3) (by omega)
  change q_T ρ ≤ 365 at hT
  intro j
  induction j with
  | zero =>
    intro i hi M hM hB hk
    have hW9 : zWc M := hW.fr (fun q hq => by
      have hr : ∀ q ∈ zwC, q.1 ≠ 114 := by decide +kernel
      rw [hM _ (hr q hq)])
    refine p_iload 126 dX9_learn_124 rfl ?_
    refine p_iload_n 127 dX9_learn_126 rfl rfl ?_
    refine p_icmp_gt 159 130 dX9_learn_127 (by omega) (by omega) (by omega) (by omega) (fun h127 => ?_) (fun h127 => absurd (by omega) (fun h9 : False => h9))
    rw [Nat.add_zero] at hi
    subst hi
    refine hQ M hM (fun m' hm' st hst => ?_)
    by_cases e : m' = m + 1
    · subst e
      rw [show q_n ρ 2 - (m + 1) = s by omega]
      exact hk st (by omega)
    · exact hB m' (by omega) st hst
  | succ j ih =>
    intro i hi M hM hB hk
    have hW9 : zWc M := hW.fr (fun q hq => by
      have hr : ∀ q ∈ zwC, q.1 ≠ 114 := by decide +kernel
      rw [hM _ (hr q hq)])
    refine p_iload 126 dX9_learn_124 rfl ?_
    refine p_iload_n 127 dX9_learn_126 rfl rfl ?_
    refine p_icmp_gt 159 130 dX9_learn_127 (by omega) (by omega) (by omega) (by omega) (fun h127 => absurd (by omega) (fun h9 : False => h9)) (fun h127 => ?_)
    refine p_aload_n 131 dX9_learn_130 rfl rfl (by decide) ?_
    refine p_getR 112 134 dX9_learn_131 fX9_15 rfl (hW9 (112, 4, 114) (by decide)) ?_
    refine p_iload 136 dX9_learn_134 rfl ?_
    refine p_sipush 139 dX9_learn_136 rfl ?_
    refine p_imul 140 dX9_learn_139 ?_
    refine p_iload 142 dX9_learn_140 rfl ?_
    refine p_iadd 143 dX9_learn_142 ?_
    refine p_aload_n 144 dX9_learn_143 rfl rfl (by decide) ?_
    refine p_aload_n 145 dX9_learn_144 rfl rfl (by omega) ?_
    refine p_iload 147 dX9_learn_145 rfl ?_
    refine p_iload 149 dX9_learn_147 rfl ?_
    refine p_callV3i 112 152 dX9_learn_149 (s_bestOf hc hW9 (hC.congr (fun a g1 g2 => hM a (by omega))) hR (s := s) (st := i) (m := m) hm (by omega) (fun x hx => by rw [show s + 1 = q_n ρ 2 - m by omega]; exact hB m (Nat.le_refl m) x hx)) lk_X9_51 mX9_bestOf rfl rfl (by decide) (Nat.le_of_ble_eq_true rfl) ?_
    rintro _ _ ⟨rfl, e9⟩
    have e9 := e9.symm
    subst e9
    refine p_iastn 114 153 (s * 366 + i) dX9_learn_152 rfl (by omega) (by omega) ?_
    refine p_iinc 156 dX9_learn_153 rfl rfl rfl ?_
    dsimp only [List.set]
    refine p_goto 124 dX9_learn_156 ?_
    refine ih (i + 1) (by omega) (fun a ha => by rw [zset_ne _ ha]; exact hM a ha) (fun m' hm' st hst => ?_) (fun st hst => ?_)
    · rw [zset_k (by omega)]
      exact hB m' hm' st hst
    · by_cases e : st = i
      · subst e
        exact zset_at _ _ _ _
      · rw [zset_k (by omega)]
        exact hk st (by omega)
theorem l_learnC {l : Launch} {X : ZX} {M : ZM} {c : Nat} (hc : isC c) {ρ : Nat → Int} {h : Int} (hR : wfR ρ) {N : ZM} (hW : zWc N) (hC : ICc ρ h c N) {Q : Option ZV → ZM → Prop} (hQ : ∀ (M : ZM) (o4 o5 : Option ZV), (∀ a, a ≠ 114 → M a = N a) → ICb ρ (q_n ρ 2) M → zP l X 5 tX9_learn 165 [some (zr 112), some (zr (c : Int)), some (zi (q_T ρ : Int)), some (zi (q_n ρ 2 : Int)), o4, o5] [] M Q) : ∀ (j i : Nat), i + j = q_n ρ 2 → ∀ {M : ZM} (o5 : Option ZV), (∀ a, a ≠ 114 → M a = N a) → ICb ρ i M → zP l X 5 tX9_learn 116 [some (zr 112), some (zr (c : Int)), some (zi (q_T ρ : Int)), some (zi (q_n ρ 2 : Int)), some (zi ((q_n ρ 2 : Int) - (i : Int) - 1)), o5] [] M (Q) := by
  have e2 : ρ 2 = (q_n ρ 2 : Int) := hR.n (by decide)
  have b2 := hR.2.1.2.2.1
  have e3 : ρ 3 = (q_n ρ 3 : Int) := hR.n (by decide)
  have b3 := hR.2.1.2.2.2.1
  have hcl := hc.lt
  have hT := q_T_le hR (n := q_n ρ 3) (by omega)
  change q_T ρ ≤ 365 at hT
  intro j
  induction j with
  | zero =>
    intro i hi M o5 hM hB
    refine p_iload 118 dX9_learn_116 rfl ?_
    refine p_if_lt 165 121 dX9_learn_118 (by omega) (by omega) (fun h118 => ?_) (fun h118 => absurd (by omega) (fun h9 : False => h9))
    rw [Nat.add_zero] at hi
    subst hi
    exact hQ M _ _ hM hB
  | succ j ih =>
    intro i hi M o5 hM hB
    refine p_iload 118 dX9_learn_116 rfl ?_
    refine p_if_lt 165 121 dX9_learn_118 (by omega) (by omega) (fun h118 => absurd (by omega) (fun h9 : False => h9)) (fun h118 => ?_)
    refine p_iconst 122 dX9_learn_121 ?_
    refine p_istore 124 dX9_learn_122 (Nat.le_of_ble_eq_true rfl) rfl rfl ?_
    dsimp only [List.set]
    obtain ⟨s, hs⟩ : ∃ s, s + (i + 1) = q_n ρ 2 := ⟨q_n ρ 2 - (i + 1), by omega⟩
    rw [show (q_n ρ 2 : Int) - (i : Int) - 1 = (s : Int) by omega]
    refine l_learnD (l := l) (X := X) (M := M) hc hR hW hC (s := s) (m := i) hs (fun M9 hM9 hB9 => ?_) (q_T ρ + 1) 0 (Nat.zero_add _) hM hB (fun st hst => absurd hst (by omega))
    refine p_iinc 162 dX9_learn_159 rfl rfl rfl ?_
    dsimp only [List.set]
    refine p_goto 116 dX9_learn_162 ?_
    have e := ih (i + 1) (by omega) (some (zi ((q_T ρ + 1 : Nat) : Int))) hM9 hB9
    rw [show ((q_n ρ 2 : Int) - ((i + 1 : Nat) : Int) - 1) = (s : Int) + -1 by omega] at e
    exact e
theorem s_learnT {l : Launch} {X : ZX} {M : ZM} {c : Nat} (hc : isC c) {ρ : Nat → Int} {h : Int} (hW : zWc M) (hC : ICc ρ h c M) (hR : wfR ρ) (hs : M 112 0 = 0 ∨ M 112 0 = 1 ∧ ICt ρ M) : zCv l X 5 yX9_learn tX9_learn [zr 112, zr (c : Int)] M (fun M' => (∀ a, a < 112 ∨ 114 < a → M' a = M a) ∧ (∀ k, 3 ≤ k → M' 112 k = M 112 k) ∧ M' 112 0 = 1 ∧ ICt ρ M') := by
  have e2 : ρ 2 = (q_n ρ 2 : Int) := hR.n (by decide)
  have b2 := hR.2.1.2.2.1
  have e3 : ρ 3 = (q_n ρ 3 : Int) := hR.n (by decide)
  have b3 := hR.2.1.2.2.2.1
  have hcl := hc.lt
  have hT := q_T_le hR (n := q_n ρ 3) (by omega)
  change q_T ρ ≤ 365 at hT
  refine zC.of [some (zr 112), some (zr (c : Int)), none, none, none, none] (by decide +kernel) rfl rfl (Nat.le_of_ble_eq_true rfl) rfl ?_
  refine p_aload_n 1 dX9_learn_0 rfl rfl (by decide) ?_
  refine p_getI 112 4 dX9_learn_1 fX9_18 rfl ?_
  refine p_if_eq 8 7 dX9_learn_4 (by omega) (by omega) (fun h4 => ?_) (fun h4 => ?_)
  · refine p_aload_n 9 dX9_learn_8 rfl rfl (by decide) ?_
    refine p_iconst 10 dX9_learn_9 ?_
    refine p_putI 112 13 dX9_learn_10 wX9_22 rfl ?_
    refine p_iconst 14 dX9_learn_13 ?_
    refine p_istore_n 15 dX9_learn_14 rfl (Nat.le_of_ble_eq_true rfl) rfl rfl ?_
    dsimp only [List.set]
    refine p_iconst 16 dX9_learn_15 ?_
    refine p_istore_n 17 dX9_learn_16 rfl (Nat.le_of_ble_eq_true rfl) rfl rfl ?_
    dsimp only [List.set]
    have hW1 : zWc (zset M 112 1 0) := hW.set (by decide +kernel)
    have hWa : zWc (zset M 112 1 (q_allHands (q_n ρ) : Int)) := hW.set (by decide +kernel)
    have hCa : ICc ρ h c (zset M 112 1 (q_allHands (q_n ρ) : Int)) := hC.congr (fun a g1 g2 => zset_ne _ (by omega))
    refine l_learnA (l := l) (X := X) (M := M) hc hW hC hR ?_ (q_n ρ 3) 0 (Nat.zero_add _)
    refine p_aload_n 75 dX9_learn_74 rfl rfl (by omega) ?_
    refine p_getR (c) 78 dX9_learn_75 fX9_44 hc.tt2.1 (hc.wire2 hWa).1 ?_
    refine p_getI (c + 1) 81 dX9_learn_78 fX9_48 hc.tt2.2.1 ?_
    rw [show zset M 112 1 (q_allHands (q_n ρ) : Int) (c + 1) 0 = (q_n ρ 2 : Int) by rw [zset_ne _ (by omega), hC.1.2.2.2.1, e2]]
    refine p_istore_n 82 dX9_learn_81 rfl (Nat.le_of_ble_eq_true rfl) rfl rfl ?_
    dsimp only [List.set]
    refine p_iconst 83 dX9_learn_82 ?_
    refine p_istore 85 dX9_learn_83 (Nat.le_of_ble_eq_true rfl) rfl rfl ?_
    dsimp only [List.set]
    refine l_learnB (l := l) (X := X) (M := M) (c := c) hR hWa (fun M2 hM2 hB2 => ?_) (q_T ρ + 1) 0 (Nat.zero_add _) (fun _ _ => rfl) (fun st hst => absurd hst (by omega))
    refine p_iload_n 112 dX9_learn_111 rfl rfl ?_
    refine p_iconst 113 dX9_learn_112 ?_
    refine p_isub 114 dX9_learn_113 ?_
    refine p_istore 116 dX9_learn_114 (Nat.le_of_ble_eq_true rfl) rfl rfl ?_
    dsimp only [List.set]
    have hC3 := l_learnC (l := l) (X := X) (M := M) (N := zset M 112 1 (q_allHands (q_n ρ) : Int)) (Q := fun r M' => r = none ∧ ((∀ a, a < 112 ∨ 114 < a → M' a = M a) ∧ (∀ k, 3 ≤ k → M' 112 k = M 112 k) ∧ M' 112 0 = 1 ∧ ICt ρ M')) hc hR hWa hCa (fun M3 o4 o5 hM3 hB3 => ?_) (q_n ρ 2) 0 (Nat.zero_add _) none hM2 hB2
    · rw [show (q_n ρ 2 : Int) - ((0 : Nat) : Int) - 1 = (q_n ρ 2 : Int) - 1 by omega] at hC3
      exact hC3
    have hW3 : zWc M3 := hWa.fr (fun q hq => by
      have hr : ∀ q ∈ zwC, q.1 ≠ 114 := by decide +kernel
      rw [hM3 _ (hr q hq)])
    have hCc : ICc ρ h c M3 := hCa.congr (fun a g1 g2 => hM3 a (by omega))
    have hal : M3 112 1 = (q_allHands (q_n ρ) : Int) := by rw [hM3 112 (by decide), zset_at]
    refine p_aload_n 166 dX9_learn_165 rfl rfl (by decide) ?_
    refine p_aload_n 167 dX9_learn_166 rfl rfl (by omega) ?_
    refine p_callV1v 112 170 dX9_learn_167 (s_follow hc hW3 hCc hR hB3 hal) lk_X9_55 mX9_follow rfl rfl (by decide) (Nat.le_of_ble_eq_true rfl) ?_
    intro M4 h4
    obtain ⟨g1, g2, g3, g4⟩ := h4
    refine p_aload_n 171 dX9_learn_170 rfl rfl (by decide) ?_
    refine p_iconst 172 dX9_learn_171 ?_
    refine p_putZ 112 175 dX9_learn_172 wX9_18 rfl (by decide) ?_
    refine p_vret dX9_learn_175 rfl ?_
    refine ⟨rfl, fun a ha => ?_, fun k hk => ?_, rfl, ?_⟩
    · rw [zset_ne _ (by omega), g1 a (by omega) (by omega), hM3 a (by omega), zset_ne _ (by omega)]
    · rw [zset_k (by omega), g2 k (by omega), hM3 112 (by decide), zset_k (by omega)]
    · refine ⟨?_, ?_, fun s hs => ?_, fun m hm st hst => ?_⟩
      · rw [zset_k (by decide), g2 1 (by decide), hal]
      · rw [zset_k (by decide), g3]
      · rw [zset_ne _ (by decide), g4 s hs]
      · rw [zset_ne _ (by decide), g1 114 (by decide) (by decide)]
        exact hB3 m hm st hst
  · have hs1 : M 112 0 = 1 ∧ ICt ρ M := hs.resolve_left h4
    refine p_vret dX9_learn_7 rfl ?_
    exact ⟨rfl, fun a _ => rfl, fun k _ => rfl, hs1.1, hs1.2⟩
