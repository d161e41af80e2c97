/-! THE READER, the model's: an order's line, a line of what was seen -/
theorem z_nx {k v : Int} (h : ¬ v ≤ k) (hv : v < 2147483648) : k + 1 < 2147483648 := by omega
theorem l_ordF {l : Launch} {X : ZX} {d : Nat} {M : ZM} {e : Int × Int} {N : ZM} (hS : MF e N M) {L1 L2 : Int} {Q : Option ZV → ZM → Prop} (hQ : ∀ k9 : Int, zP l X d tX12_orderLine 130 [some (zr 124), some (zi L1), some (zi L2), some (zi k9)] [] M Q) : ∀ (j : Nat) (k : Int), -1 ≤ k → (w32 (M 128 6) - k).toNat ≤ j → k < 2147483648 → zP l X d tX12_orderLine 59 [some (zr 124), some (zi L1), some (zi L2), some (zi k)] [] M Q := by
  have hw9 := w32_bd (M 128 6)
  intro j
  induction j with
  | zero =>
    intro k hk0 hk hk2
    refine p_iload_n 60 dX12_orderLine_59 rfl rfl ?_
    refine p_aload_n 61 dX12_orderLine_60 rfl rfl (by decide) ?_
    refine p_getR 124 64 dX12_orderLine_61 fX12_23 rfl (hS.1 (124, 16, 128) (by decide)) ?_
    refine p_bipush 66 dX12_orderLine_64 rfl ?_
    refine p_ialdn 128 67 (6) dX12_orderLine_66 rfl (by omega) (by omega) ?_
    refine p_w32 ?_
    refine p_icmp_ge 130 70 dX12_orderLine_67 (by omega) (by omega) (by omega) (by omega) (fun h67 => ?_) (fun h67 => absurd (by omega) (fun h9 : False => h9))
    exact hQ k
  | succ j ih =>
    intro k hk0 hk hk2
    refine p_iload_n 60 dX12_orderLine_59 rfl rfl ?_
    refine p_aload_n 61 dX12_orderLine_60 rfl rfl (by decide) ?_
    refine p_getR 124 64 dX12_orderLine_61 fX12_23 rfl (hS.1 (124, 16, 128) (by decide)) ?_
    refine p_bipush 66 dX12_orderLine_64 rfl ?_
    refine p_ialdn 128 67 (6) dX12_orderLine_66 rfl (by omega) (by omega) ?_
    refine p_w32 ?_
    refine p_icmp_ge 130 70 dX12_orderLine_67 (by omega) (by omega) (by omega) (by omega) (fun h67 => ?_) (fun h67 => ?_)
    · exact hQ k
    · refine p_aload_n 71 dX12_orderLine_70 rfl rfl (by decide) ?_
      refine p_getI 124 74 dX12_orderLine_71 fX12_91 rfl ?_
      rw [hS.2.1]
      refine p_if_ne 124 77 dX12_orderLine_74 (by decide) (by decide) (fun h74 => ?_) (fun h74 => absurd (h74 (by decide)) (fun h9 : False => h9))
      refine p_iinc 127 dX12_orderLine_124 rfl rfl rfl ?_
      dsimp only [List.set]
      refine p_goto 59 dX12_orderLine_127 ?_
      exact ih (k + 1) (by omega) (by omega) (by omega)
theorem l_seeF {l : Launch} {X : ZX} {d : Nat} {M : ZM} {e : Int × Int} {N : ZM} (hS : MF e N M) {L1 : Int} {Q : Option ZV → ZM → Prop} (hQ : ∀ k9 : Int, zP l X d tX12_seenLine 88 [some (zr 124), some (zi L1), some (zi k9)] [] M Q) : ∀ (j : Nat) (k : Int), -1 ≤ k → (w32 (M 128 7) - k).toNat ≤ j → k < 2147483648 → zP l X d tX12_seenLine 32 [some (zr 124), some (zi L1), some (zi k)] [] M Q := by
  have hw9 := w32_bd (M 128 7)
  intro j
  induction j with
  | zero =>
    intro k hk0 hk hk2
    refine p_iload_n 33 dX12_seenLine_32 rfl rfl ?_
    refine p_aload_n 34 dX12_seenLine_33 rfl rfl (by decide) ?_
    refine p_getR 124 37 dX12_seenLine_34 fX12_23 rfl (hS.1 (124, 16, 128) (by decide)) ?_
    refine p_bipush 39 dX12_seenLine_37 rfl ?_
    refine p_ialdn 128 40 (7) dX12_seenLine_39 rfl (by omega) (by omega) ?_
    refine p_w32 ?_
    refine p_icmp_ge 88 43 dX12_seenLine_40 (by omega) (by omega) (by omega) (by omega) (fun h40 => ?_) (fun h40 => absurd (by omega) (fun h9 : False => h9))
    exact hQ k
  | succ j ih =>
    intro k hk0 hk hk2
    refine p_iload_n 33 dX12_seenLine_32 rfl rfl ?_
    refine p_aload_n 34 dX12_seenLine_33 rfl rfl (by decide) ?_
    refine p_getR 124 37 dX12_seenLine_34 fX12_23 rfl (hS.1 (124, 16, 128) (by decide)) ?_
    refine p_bipush 39 dX12_seenLine_37 rfl ?_
    refine p_ialdn 128 40 (7) dX12_seenLine_39 rfl (by omega) (by omega) ?_
    refine p_w32 ?_
    refine p_icmp_ge 88 43 dX12_seenLine_40 (by omega) (by omega) (by omega) (by omega) (fun h40 => ?_) (fun h40 => ?_)
    · exact hQ k
    · refine p_aload_n 44 dX12_seenLine_43 rfl rfl (by decide) ?_
      refine p_getI 124 47 dX12_seenLine_44 fX12_91 rfl ?_
      rw [hS.2.1]
      refine p_if_ne 82 50 dX12_seenLine_47 (by decide) (by decide) (fun h47 => ?_) (fun h47 => absurd (h47 (by decide)) (fun h9 : False => h9))
      refine p_iinc 85 dX12_seenLine_82 rfl rfl rfl ?_
      dsimp only [List.set]
      refine p_goto 32 dX12_seenLine_85 ?_
      exact ih (k + 1) (by omega) (by omega) (by omega)
theorem l_ordL {l : Launch} {X : ZX} {M : ZM} {o : Nat} {rk sh : Int} {t : Nat → Int} {n p4 : Nat} {ρ ρ2 : Nat → Int} {N : ZM} (hn : n ≤ 900) (ht : ∀ i, i < n → 0 ≤ t i ∧ t i < 256) (hp : p4 ≤ n) (hS : MS t n p4 ρ2 N M) (ho : o ≤ 5) (h6 : ρ2 6 = (o : Int)) (hrk : 0 ≤ rk ∧ rk ≤ 9) (h0 : ∀ i, i < 421 → 0 ≤ ρ2 i) (hk : ∀ k, k < o → ρ2 (59 + 19 * k) = ρ (59 + 19 * k) ∧ ρ2 (59 + 19 * k) ≤ 9 ∧ q_sign ρ2 (59 + 19 * k + 1) = q_sg ρ k ∧ q_wordOk ρ2 (59 + 19 * k + 1)) (hs : q_sign ρ2 (59 + 19 * o + 1) = sh ∧ q_wordOk ρ2 (59 + 19 * o + 1)) {Q : Option ZV → ZM → Prop} (hy : q_all (fun k => !(decide (ρ (59 + 19 * k) = rk) && decide (q_sg ρ k = sh))) o = true → zP l X 9 tX12_orderLine 130 [some (zr 124), some (zi (59 + 19 * (o : Int))), some (zi rk), some (zi (o : Int))] [] M Q) (hno : ¬ q_all (fun k => !(decide (ρ (59 + 19 * k) = rk) && decide (q_sg ρ k = sh))) o = true → ∀ (M' : ZM) (k9 : Int), MF (3, (q_at t n p4 : Int)) N M' → zP l X 9 tX12_orderLine 130 [some (zr 124), some (zi (59 + 19 * (o : Int))), some (zi rk), some (zi k9)] [] M' Q) : ∀ (j i : Nat), i + j = o → q_all (fun k => !(decide (ρ (59 + 19 * k) = rk) && decide (q_sg ρ k = sh))) i = true → zP l X 9 tX12_orderLine 59 [some (zr 124), some (zi (59 + 19 * (o : Int))), some (zi rk), some (zi (i : Int))] [] M (Q) := by
  obtain ⟨hB, hT, hf0, hr, hfa, hfk⟩ := id hS
  obtain ⟨t4, t5, t6, t8, t7⟩ := id hT
  intro j
  induction j with
  | zero =>
    intro i hi hv
    refine p_iload_n 60 dX12_orderLine_59 rfl rfl ?_
    refine p_aload_n 61 dX12_orderLine_60 rfl rfl (by decide) ?_
    refine p_getR 124 64 dX12_orderLine_61 fX12_23 rfl (hB.1 (124, 16, 128) (by decide)) ?_
    refine p_bipush 66 dX12_orderLine_64 rfl ?_
    refine p_ialdn 128 67 (6) dX12_orderLine_66 rfl (by omega) (by omega) ?_
    rw [hr 6 (by decide), h6]
    refine p_icmp_ge 130 70 dX12_orderLine_67 (by omega) (by omega) (by omega) (by omega) (fun h67 => ?_) (fun h67 => absurd (by omega) (fun h9 : False => h9))
    rw [Nat.add_zero] at hi
    subst hi
    exact hy hv
  | succ j ih =>
    intro i hi hv
    obtain ⟨g1, g2, g3, g4⟩ := hk i (by omega)
    have g5 := h0 (59 + 19 * i) (by omega)
    refine p_iload_n 60 dX12_orderLine_59 rfl rfl ?_
    refine p_aload_n 61 dX12_orderLine_60 rfl rfl (by decide) ?_
    refine p_getR 124 64 dX12_orderLine_61 fX12_23 rfl (hB.1 (124, 16, 128) (by decide)) ?_
    refine p_bipush 66 dX12_orderLine_64 rfl ?_
    refine p_ialdn 128 67 (6) dX12_orderLine_66 rfl (by omega) (by omega) ?_
    rw [hr 6 (by decide), h6]
    refine p_icmp_ge 130 70 dX12_orderLine_67 (by omega) (by omega) (by omega) (by omega) (fun h67 => absurd (by omega) (fun h9 : False => h9)) (fun h67 => ?_)
    refine p_aload_n 71 dX12_orderLine_70 rfl rfl (by decide) ?_
    refine p_getI 124 74 dX12_orderLine_71 fX12_91 rfl ?_
    rw [hf0]
    refine p_if_ne 124 77 dX12_orderLine_74 (by decide) (by decide) (fun h74 => absurd (absurd rfl h74) (fun h9 : False => h9)) (fun h74 => ?_)
    refine p_aload_n 78 dX12_orderLine_77 rfl rfl (by decide) ?_
    refine p_getR 124 81 dX12_orderLine_78 fX12_23 rfl (hB.1 (124, 16, 128) (by decide)) ?_
    refine p_bipush 83 dX12_orderLine_81 rfl ?_
    refine p_bipush 85 dX12_orderLine_83 rfl ?_
    refine p_iload_n 86 dX12_orderLine_85 rfl rfl ?_
    refine p_imul 87 dX12_orderLine_86 ?_
    refine p_iadd 88 dX12_orderLine_87 ?_
    refine p_ialdn 128 89 (59 + 19 * i) dX12_orderLine_88 rfl (by omega) (by omega) ?_
    rw [hr _ (by omega), g1]
    refine p_iload_n 90 dX12_orderLine_89 rfl rfl ?_
    refine p_icmp_ne 124 93 dX12_orderLine_90 (by omega) (by omega) (by omega) (by omega) (fun h90 => ?_) (fun h90 => ?_)
    · have hx : q_all (fun k => !(decide (ρ (59 + 19 * k) = rk) && decide (q_sg ρ k = sh))) (i + 1) = true := by rw [q_all_succ, hv, decide_eq_false (p := ρ (59 + 19 * i) = rk) (by omega)]; rfl
      refine p_iinc 127 dX12_orderLine_124 rfl rfl rfl ?_
      dsimp only [List.set]
      refine p_goto 59 dX12_orderLine_127 ?_
      first
        | exact ih (i + 1) (by omega) hx
        | exact l_ordF hF9 (fun k9 => hno hx M9 k9 hF9) _ _ (by omega) (Nat.le_refl _) (by omega)
    · refine p_aload_n 94 dX12_orderLine_93 rfl rfl (by decide) ?_
      refine p_getR 124 97 dX12_orderLine_94 fX12_23 rfl (hB.1 (124, 16, 128) (by decide)) ?_
      refine p_bipush 99 dX12_orderLine_97 rfl ?_
      refine p_bipush 101 dX12_orderLine_99 rfl ?_
      refine p_iload_n 102 dX12_orderLine_101 rfl rfl ?_
      refine p_imul 103 dX12_orderLine_102 ?_
      refine p_iadd 104 dX12_orderLine_103 ?_
      refine p_iconst 105 dX12_orderLine_104 ?_
      refine p_iadd 106 dX12_orderLine_105 ?_
      refine p_iload_n 107 dX12_orderLine_106 rfl rfl ?_
      refine p_iconst 108 dX12_orderLine_107 ?_
      refine p_iadd 109 dX12_orderLine_108 ?_
      rw [show (59 : Int) + 19 * (i : Int) + 1 = ((59 + 19 * i + 1 : Nat) : Int) by omega, show (59 : Int) + 19 * (o : Int) + 1 = ((59 + 19 * o + 1 : Nat) : Int) by omega]
      refine p_callS3i 112 dX12_orderLine_109 (s_isSame (w := 128) (Or.inr rfl) hr (f := 59 + 19 * i + 1) (g := 59 + 19 * o + 1) (by omega) (by omega) (h0 _ (by omega)) (h0 _ (by omega)) g4 hs.2) lk_X12_257 mX12_isSame (by decide) (Nat.le_of_ble_eq_true rfl) ?_
      rintro _ _ ⟨rfl, e9⟩
      have e9 := e9.symm
      subst e9
      refine p_if_eq 124 115 dX12_orderLine_112 (by split <;> omega) (by split <;> omega) (fun h112 => ?_) (fun h112 => ?_)
      · have hx : q_all (fun k => !(decide (ρ (59 + 19 * k) = rk) && decide (q_sg ρ k = sh))) (i + 1) = true := by rw [q_all_succ, hv, decide_eq_false (p := q_sg ρ i = sh) (fun g => if_eq0 h112 (by rw [g3, hs.1]; exact g)), Bool.and_false]; rfl
        refine p_iinc 127 dX12_orderLine_124 rfl rfl rfl ?_
        dsimp only [List.set]
        refine p_goto 59 dX12_orderLine_127 ?_
        first
          | exact ih (i + 1) (by omega) hx
          | exact l_ordF hF9 (fun k9 => hno hx M9 k9 hF9) _ _ (by omega) (Nat.le_refl _) (by omega)
      · have hx : ¬ q_all (fun k => !(decide (ρ (59 + 19 * k) = rk) && decide (q_sg ρ k = sh))) o = true := fun g => by
          have g9 := q_all_iff.mp g i (by omega)
          have g7 := if_neq0 h112
          rw [g3, hs.1] at g7
          have g8 : (!(decide (ρ (59 + 19 * i) = rk) && decide (q_sg ρ i = sh))) = true := g9
          rw [decide_eq_true (p := ρ (59 + 19 * i) = rk) (by omega), decide_eq_true (p := q_sg ρ i = sh) g7] at g8
          exact absurd g8 (by decide)
        refine p_aload_n 116 dX12_orderLine_115 rfl rfl (by decide) ?_
        refine p_iconst 117 dX12_orderLine_116 ?_
        refine p_aload_n 118 dX12_orderLine_117 rfl rfl (by decide) ?_
        refine p_getI 124 121 dX12_orderLine_118 fX12_72 rfl ?_
        rw [t4]
        refine p_callV2v 124 124 dX12_orderLine_121 (s_wrongS hn hp hS) lk_X12_118 mX12_wrong rfl rfl (by decide) (Nat.le_of_ble_eq_true rfl) ?_
        intro M9 hF9
        refine p_iinc 127 dX12_orderLine_124 rfl rfl rfl ?_
        dsimp only [List.set]
        refine p_goto 59 dX12_orderLine_127 ?_
        first
          | exact ih (i + 1) (by omega) hx
          | exact l_ordF hF9 (fun k9 => hno hx M9 k9 hF9) _ _ (by omega) (Nat.le_refl _) (by omega)
theorem l_seeL {l : Launch} {X : ZX} {M : ZM} {o : Nat} {sh : Int} {t : Nat → Int} {n p4 : Nat} {ρ ρ2 : Nat → Int} {N : ZM} (hn : n ≤ 900) (ht : ∀ i, i < n → 0 ≤ t i ∧ t i < 256) (hp : p4 ≤ n) (hS : MS t n p4 ρ2 N M) (ho : o ≤ 4) (h6 : ρ2 7 = (o : Int)) (h0 : ∀ i, i < 421 → 0 ≤ ρ2 i) (hk : ∀ k, k < o → q_sign ρ2 (173 + 19 * k + 1) = q_ss ρ k ∧ q_wordOk ρ2 (173 + 19 * k + 1)) (hs : q_sign ρ2 (173 + 19 * o + 1) = sh ∧ q_wordOk ρ2 (173 + 19 * o + 1)) {Q : Option ZV → ZM → Prop} (hy : q_all (fun k => decide (q_ss ρ k ≠ sh)) o = true → zP l X 9 tX12_seenLine 88 [some (zr 124), some (zi (173 + 19 * (o : Int))), some (zi (o : Int))] [] M Q) (hno : q_all (fun k => decide (q_ss ρ k ≠ sh)) o = false → ∀ (M' : ZM) (k9 : Int), MF (3, (q_at t n p4 : Int)) N M' → zP l X 9 tX12_seenLine 88 [some (zr 124), some (zi (173 + 19 * (o : Int))), some (zi k9)] [] M' Q) : ∀ (j i : Nat), i + j = o → q_all (fun k => decide (q_ss ρ k ≠ sh)) i = true → zP l X 9 tX12_seenLine 32 [some (zr 124), some (zi (173 + 19 * (o : Int))), some (zi (i : Int))] [] M (Q) := by
  obtain ⟨hB, hT, hf0, hr, hfa, hfk⟩ := id hS
  obtain ⟨t4, t5, t6, t8, t7⟩ := id hT
  intro j
  induction j with
  | zero =>
    intro i hi hv
    refine p_iload_n 33 dX12_seenLine_32 rfl rfl ?_
    refine p_aload_n 34 dX12_seenLine_33 rfl rfl (by decide) ?_
    refine p_getR 124 37 dX12_seenLine_34 fX12_23 rfl (hB.1 (124, 16, 128) (by decide)) ?_
    refine p_bipush 39 dX12_seenLine_37 rfl ?_
    refine p_ialdn 128 40 (7) dX12_seenLine_39 rfl (by omega) (by omega) ?_
    rw [hr 7 (by decide), h6]
    refine p_icmp_ge 88 43 dX12_seenLine_40 (by omega) (by omega) (by omega) (by omega) (fun h40 => ?_) (fun h40 => absurd (by omega) (fun h9 : False => h9))
    rw [Nat.add_zero] at hi
    subst hi
    exact hy hv
  | succ j ih =>
    intro i hi hv
    obtain ⟨g3, g4⟩ := hk i (by omega)
    refine p_iload_n 33 dX12_seenLine_32 rfl rfl ?_
    refine p_aload_n 34 dX12_seenLine_33 rfl rfl (by decide) ?_
    refine p_getR 124 37 dX12_seenLine_34 fX12_23 rfl (hB.1 (124, 16, 128) (by decide)) ?_
    refine p_bipush 39 dX12_seenLine_37 rfl ?_
    refine p_ialdn 128 40 (7) dX12_seenLine_39 rfl (by omega) (by omega) ?_
    rw [hr 7 (by decide), h6]
    refine p_icmp_ge 88 43 dX12_seenLine_40 (by omega) (by omega) (by omega) (by omega) (fun h40 => absurd (by omega) (fun h9 : False => h9)) (fun h40 => ?_)
    refine p_aload_n 44 dX12_seenLine_43 rfl rfl (by decide) ?_
    refine p_getI 124 47 dX12_seenLine_44 fX12_91 rfl ?_
    rw [hf0]
    refine p_if_ne 82 50 dX12_seenLine_47 (by decide) (by decide) (fun h47 => absurd (absurd rfl h47) (fun h9 : False => h9)) (fun h47 => ?_)
    refine p_aload_n 51 dX12_seenLine_50 rfl rfl (by decide) ?_
    refine p_getR 124 54 dX12_seenLine_51 fX12_23 rfl (hB.1 (124, 16, 128) (by decide)) ?_
    refine p_sipush 57 dX12_seenLine_54 rfl ?_
    refine p_bipush 59 dX12_seenLine_57 rfl ?_
    refine p_iload_n 60 dX12_seenLine_59 rfl rfl ?_
    refine p_imul 61 dX12_seenLine_60 ?_
    refine p_iadd 62 dX12_seenLine_61 ?_
    refine p_iconst 63 dX12_seenLine_62 ?_
    refine p_iadd 64 dX12_seenLine_63 ?_
    refine p_iload_n 65 dX12_seenLine_64 rfl rfl ?_
    refine p_iconst 66 dX12_seenLine_65 ?_
    refine p_iadd 67 dX12_seenLine_66 ?_
    rw [show (173 : Int) + 19 * (i : Int) + 1 = ((173 + 19 * i + 1 : Nat) : Int) by omega, show (173 : Int) + 19 * (o : Int) + 1 = ((173 + 19 * o + 1 : Nat) : Int) by omega]
    refine p_callS3i 70 dX12_seenLine_67 (s_isSame (w := 128) (Or.inr rfl) hr (f := 173 + 19 * i + 1) (g := 173 + 19 * o + 1) (by omega) (by omega) (h0 _ (by omega)) (h0 _ (by omega)) g4 hs.2) lk_X12_257 mX12_isSame (by decide) (Nat.le_of_ble_eq_true rfl) ?_
    rintro _ _ ⟨rfl, e9⟩
    have e9 := e9.symm
    subst e9
    refine p_if_eq 82 73 dX12_seenLine_70 (by split <;> omega) (by split <;> omega) (fun h70 => ?_) (fun h70 => ?_)
    · have hx : q_all (fun k => decide (q_ss ρ k ≠ sh)) (i + 1) = true := by rw [q_all_succ, hv, Bool.true_and]; exact decide_eq_true (fun g => if_eq0 h70 (by rw [g3, hs.1]; exact g))
      refine p_iinc 85 dX12_seenLine_82 rfl rfl rfl ?_
      dsimp only [List.set]
      refine p_goto 32 dX12_seenLine_85 ?_
      first
        | exact ih (i + 1) (by omega) hx
        | exact l_seeF hF9 (fun k9 => hno hx M9 k9 hF9) _ _ (by omega) (Nat.le_refl _) (by omega)
    · have hx : q_all (fun k => decide (q_ss ρ k ≠ sh)) o = false := Bool.eq_false_iff.mpr (fun g => by
        have g9 := of_decide_eq_true (q_all_iff.mp g i (by omega))
        have g7 := if_neq0 h70
        rw [g3, hs.1] at g7
        exact g9 g7)
      refine p_aload_n 74 dX12_seenLine_73 rfl rfl (by decide) ?_
      refine p_iconst 75 dX12_seenLine_74 ?_
      refine p_aload_n 76 dX12_seenLine_75 rfl rfl (by decide) ?_
      refine p_getI 124 79 dX12_seenLine_76 fX12_72 rfl ?_
      rw [t4]
      refine p_callV2v 124 82 dX12_seenLine_79 (s_wrongS hn hp hS) lk_X12_118 mX12_wrong rfl rfl (by decide) (Nat.le_of_ble_eq_true rfl) ?_
      intro M9 hF9
      refine p_iinc 85 dX12_seenLine_82 rfl rfl rfl ?_
      dsimp only [List.set]
      refine p_goto 32 dX12_seenLine_85 ?_
      first
        | exact ih (i + 1) (by omega) hx
        | exact l_seeF hF9 (fun k9 => hno hx M9 k9 hF9) _ _ (by omega) (Nat.le_refl _) (by omega)
