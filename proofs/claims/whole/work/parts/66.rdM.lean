/-! THE READER, the model's: tokens -/
def MB (t : Nat → Int) (n : Nat) (M : ZM) : Prop := zWm M ∧ M 124 3 = (n : Int) ∧ ∀ i, i < n → M 125 i = t i
def TM (t : Nat → Int) (n p : Nat) (M : ZM) : Prop := M 124 4 = (q_at t n p : Int) ∧ M 124 5 = (q_en t n p : Int) ∧ M 124 6 = (q_tk t n p : Int) ∧ (q_tk t n p = 2 → M 124 8 = (q_ln t n p : Int) ∧ ∀ j, j < q_ln t n p → M 126 j = t (q_at t n p + j)) ∧ (q_tk t n p = 3 → M 124 7 = q_nb t n p)
def MK (N M : ZM) : Prop := (∀ a, a ≠ 124 → a ≠ 126 → M a = N a) ∧ ∀ k, k < 4 ∨ 8 < k → M 124 k = N 124 k
theorem MK.rfl {N : ZM} : MK N N := ⟨fun _ _ _ => Eq.refl _, fun _ _ => Eq.refl _⟩
theorem MK.trans {A B C : ZM} (h1 : MK A B) (h2 : MK B C) : MK A C := ⟨fun a ha hb => (h2.1 a ha hb).trans (h1.1 a ha hb), fun k hk => (h2.2 k hk).trans (h1.2 k hk)⟩
theorem MK.set {N M : ZM} {k : Nat} {v : Int} (h : MK N M) (hk : 4 ≤ k ∧ k ≤ 8) : MK N (zset M 124 k v) := ⟨fun a ha hb => (zset_ne M ha).trans (h.1 a ha hb), fun j hj => (zset_k (by omega)).trans (h.2 j hj)⟩
theorem MK.lt {N M : ZM} {k : Nat} {v : Int} (h : MK N M) : MK N (zset M 126 k v) := ⟨fun a ha hb => (zset_ne M hb).trans (h.1 a ha hb), fun j hj => by rw [zset_ne _ (by decide)]; exact h.2 j hj⟩
theorem MK.wm {N M : ZM} (h : MK N M) (hW : zWm N) : zWm M := by
  intro q hq
  have hr : ∀ q ∈ zwM, q.1 ≠ 126 ∧ (q.1 = 124 → q.2.1 < 4 ∨ 8 < q.2.1) := by decide +kernel
  have g := hr q hq
  by_cases e : q.1 = 124
  · have h9 := hW q hq
    rw [e] at h9 ⊢
    rw [h.2 _ (g.2 e)]
    exact h9
  · rw [h.1 _ e g.1]
    exact hW q hq
theorem MB.of {t : Nat → Int} {n : Nat} {N M : ZM} (h : MB t n N) (hk : MK N M) : MB t n M := by
  obtain ⟨h1, h2, h3⟩ := h
  refine ⟨hk.wm h1, (hk.2 3 (by omega)).trans h2, fun i hi => ?_⟩
  rw [hk.1 125 (by decide) (by decide)]
  exact h3 i hi
def q_look (t : Nat → Int) (n k : Nat) : Int := if k < n then t k else -1
theorem s_look {l : Launch} {X : ZX} {M : ZM} {t : Nat → Int} {n : Nat} (hn : n ≤ 900) (ht : ∀ i, i < n → 0 ≤ t i ∧ t i < 256) (hB : MB t n M) {k : Nat} (hk : k ≤ 1000) : zCi l X 0 yX12_look tX12_look [zr 124, zi (k : Int)] M (fun a M' => a = q_look t n k ∧ M' = M) := by
  refine zC.of [some (zr 124), some (zi (k : Int))] (by decide +kernel) rfl rfl (Nat.le_of_ble_eq_true rfl) rfl ?_
  refine p_iload_n 1 dX12_look_0 rfl rfl ?_
  refine p_aload_n 2 dX12_look_1 rfl rfl (by decide) ?_
  refine p_getI 124 5 dX12_look_2 fX12_62 rfl ?_
  rw [hB.2.1]
  refine p_icmp_ge 17 8 dX12_look_5 (by omega) (by omega) (by omega) (by omega) (fun h5 => ?_) (fun h5 => ?_)
  · refine p_iconst 18 dX12_look_17 ?_
    refine p_iret dX12_look_18 rfl ?_
    refine ⟨_, rfl, ?_, rfl⟩
    unfold q_look
    first | (rw [if_pos (by omega)]; done) | (rw [if_neg (by omega)]; done)
  · refine p_aload_n 9 dX12_look_8 rfl rfl (by decide) ?_
    refine p_getR 124 12 dX12_look_9 fX12_7 rfl (hB.1 (124, 1, 125) (by decide)) ?_
    refine p_iload_n 13 dX12_look_12 rfl rfl ?_
    refine p_ialdn 125 14 (k) dX12_look_13 rfl (by omega) (by omega) ?_
    rw [hB.2.2 k (by omega)]
    refine p_goto 18 dX12_look_14 ?_
    refine p_iret dX12_look_18 rfl ?_
    refine ⟨_, rfl, ?_, rfl⟩
    unfold q_look
    first | (rw [if_pos (by omega)]; done) | (rw [if_neg (by omega)]; done)
theorem s_isSmallM {l : Launch} {X : ZX} {M : ZM} {x : Int} (h1 : -2147483648 ≤ x) (h2 : x < 2147483648) : zCi l X 0 yX12_isSmall tX12_isSmall [zi x] M (fun a M' => a = (if q_sm x = true then 1 else 0) ∧ M' = M) := by
  refine zC.of [some (zi x)] (by decide +kernel) rfl rfl (Nat.le_of_ble_eq_true rfl) rfl ?_
  refine p_iload_n 1 dX12_isSmall_0 rfl rfl ?_
  refine p_bipush 3 dX12_isSmall_1 rfl ?_
  refine p_icmp_lt 16 6 dX12_isSmall_3 (by omega) (by omega) (by decide) (by decide) (fun h3 => ?_) (fun h3 => ?_)
  · refine p_iconst 17 dX12_isSmall_16 ?_
    refine p_zret dX12_isSmall_17 rfl (by decide) ?_
    refine ⟨_, rfl, ?_, rfl⟩
    unfold q_sm
    first | (rw [if_pos (by rw [decide_eq_true (by omega), decide_eq_true (by omega)]; rfl)]; done) | (rw [if_neg (by rw [Bool.and_eq_true, decide_eq_true_eq, decide_eq_true_eq]; omega)]; done)
  · refine p_iload_n 7 dX12_isSmall_6 rfl rfl ?_
    refine p_bipush 9 dX12_isSmall_7 rfl ?_
    refine p_icmp_gt 16 12 dX12_isSmall_9 (by omega) (by omega) (by decide) (by decide) (fun h9 => ?_) (fun h9 => ?_)
    · refine p_iconst 17 dX12_isSmall_16 ?_
      refine p_zret dX12_isSmall_17 rfl (by decide) ?_
      refine ⟨_, rfl, ?_, rfl⟩
      unfold q_sm
      first | (rw [if_pos (by rw [decide_eq_true (by omega), decide_eq_true (by omega)]; rfl)]; done) | (rw [if_neg (by rw [Bool.and_eq_true, decide_eq_true_eq, decide_eq_true_eq]; omega)]; done)
    · refine p_iconst 13 dX12_isSmall_12 ?_
      refine p_goto 17 dX12_isSmall_13 ?_
      refine p_zret dX12_isSmall_17 rfl (by decide) ?_
      refine ⟨_, rfl, ?_, rfl⟩
      unfold q_sm
      first | (rw [if_pos (by rw [decide_eq_true (by omega), decide_eq_true (by omega)]; rfl)]; done) | (rw [if_neg (by rw [Bool.and_eq_true, decide_eq_true_eq, decide_eq_true_eq]; omega)]; done)
theorem s_isDigitM {l : Launch} {X : ZX} {M : ZM} {x : Int} (h1 : -2147483648 ≤ x) (h2 : x < 2147483648) : zCi l X 0 yX12_isDigit tX12_isDigit [zi x] M (fun a M' => a = (if q_dgt x = true then 1 else 0) ∧ M' = M) := by
  refine zC.of [some (zi x)] (by decide +kernel) rfl rfl (Nat.le_of_ble_eq_true rfl) rfl ?_
  refine p_iload_n 1 dX12_isDigit_0 rfl rfl ?_
  refine p_bipush 3 dX12_isDigit_1 rfl ?_
  refine p_icmp_lt 16 6 dX12_isDigit_3 (by omega) (by omega) (by decide) (by decide) (fun h3 => ?_) (fun h3 => ?_)
  · refine p_iconst 17 dX12_isDigit_16 ?_
    refine p_zret dX12_isDigit_17 rfl (by decide) ?_
    refine ⟨_, rfl, ?_, rfl⟩
    unfold q_dgt
    first | (rw [if_pos (by rw [decide_eq_true (by omega), decide_eq_true (by omega)]; rfl)]; done) | (rw [if_neg (by rw [Bool.and_eq_true, decide_eq_true_eq, decide_eq_true_eq]; omega)]; done)
  · refine p_iload_n 7 dX12_isDigit_6 rfl rfl ?_
    refine p_bipush 9 dX12_isDigit_7 rfl ?_
    refine p_icmp_gt 16 12 dX12_isDigit_9 (by omega) (by omega) (by decide) (by decide) (fun h9 => ?_) (fun h9 => ?_)
    · refine p_iconst 17 dX12_isDigit_16 ?_
      refine p_zret dX12_isDigit_17 rfl (by decide) ?_
      refine ⟨_, rfl, ?_, rfl⟩
      unfold q_dgt
      first | (rw [if_pos (by rw [decide_eq_true (by omega), decide_eq_true (by omega)]; rfl)]; done) | (rw [if_neg (by rw [Bool.and_eq_true, decide_eq_true_eq, decide_eq_true_eq]; omega)]; done)
    · refine p_iconst 13 dX12_isDigit_12 ?_
      refine p_goto 17 dX12_isDigit_13 ?_
      refine p_zret dX12_isDigit_17 rfl (by decide) ?_
      refine ⟨_, rfl, ?_, rfl⟩
      unfold q_dgt
      first | (rw [if_pos (by rw [decide_eq_true (by omega), decide_eq_true (by omega)]; rfl)]; done) | (rw [if_neg (by rw [Bool.and_eq_true, decide_eq_true_eq, decide_eq_true_eq]; omega)]; done)
theorem q_look_bd {t : Nat → Int} {n : Nat} (ht : ∀ i, i < n → 0 ≤ t i ∧ t i < 256) (k : Nat) : -1 ≤ q_look t n k ∧ q_look t n k < 256 := by
  unfold q_look
  split
  · rename_i h
    have := ht k h
    omega
  · omega
theorem q_look_in {t : Nat → Int} {n k : Nat} (h : k < n) : q_look t n k = t k := by
  unfold q_look
  rw [if_pos h]
theorem q_look_out {t : Nat → Int} {n k : Nat} (h : ¬ k < n) : q_look t n k = -1 := by
  unfold q_look
  rw [if_neg h]
theorem q_sm_neg : q_sm (-1) = false := by decide
theorem q_dgt_neg : q_dgt (-1) = false := by decide
theorem l_goA {l : Launch} {X : ZX} {M : ZM} {t : Nat → Int} {n : Nat} (hn : n ≤ 900) (ht : ∀ i, i < n → 0 ≤ t i ∧ t i < 256) (hB9 : MB t n M) {p : Nat} {Q : Option ZV → ZM → Prop} (hQ : zP l X 1 tX12_goOn 21 [some (zr 124), some (zi (q_at t n p : Int)), none, none] [] M Q) : ∀ (j i : Nat), i + j = n → q_go q_sp t n i = q_at t n p → zP l X 1 tX12_goOn 5 [some (zr 124), some (zi (i : Int)), none, none] [] M (Q) := by
  intro j
  induction j with
  | zero =>
    intro i hi hg
    refine p_aload_n 6 dX12_goOn_5 rfl rfl (by decide) ?_
    refine p_iload_n 7 dX12_goOn_6 rfl rfl ?_
    refine p_callV1i 124 10 dX12_goOn_7 (s_look hn ht hB9 (k := i) (by omega)) lk_X12_68 mX12_look rfl rfl (by decide) (Nat.le_of_ble_eq_true rfl) ?_
    rintro _ _ ⟨rfl, e9⟩
    have e9 := e9.symm
    subst e9
    rw [q_look_out (by omega)]
    refine p_bipush 12 dX12_goOn_10 rfl ?_
    refine p_icmp_ne 21 15 dX12_goOn_12 (by decide) (by decide) (by decide) (by decide) (fun h12 => ?_) (fun h12 => absurd (absurd (by decide : (-1 : Int) ≠ 32) h12) (fun h9 : False => h9))
    have e : q_at t n p = i := by rw [← hg, q_go_stop (fun g => by omega)]
    rw [e] at hQ
    exact hQ
  | succ j ih =>
    intro i hi hg
    have hti := ht i (by omega)
    refine p_aload_n 6 dX12_goOn_5 rfl rfl (by decide) ?_
    refine p_iload_n 7 dX12_goOn_6 rfl rfl ?_
    refine p_callV1i 124 10 dX12_goOn_7 (s_look hn ht hB9 (k := i) (by omega)) lk_X12_68 mX12_look rfl rfl (by decide) (Nat.le_of_ble_eq_true rfl) ?_
    rintro _ _ ⟨rfl, e9⟩
    have e9 := e9.symm
    subst e9
    rw [q_look_in (by omega)]
    refine p_bipush 12 dX12_goOn_10 rfl ?_
    refine p_icmp_ne 21 15 dX12_goOn_12 (by omega) (by omega) (by decide) (by decide) (fun h12 => ?_) (fun h12 => ?_)
    · have e : q_at t n p = i := by
        rw [← hg, q_go_stop (fun g => ?_)]
        have := g.2
        unfold q_sp at this
        rw [decide_eq_true_eq] at this
        exact h12 this
      rw [e] at hQ
      exact hQ
    · refine p_iinc 18 dX12_goOn_15 rfl rfl rfl ?_
      dsimp only [List.set]
      refine p_goto 5 dX12_goOn_18 ?_
      have hs : q_sp (t i) = true := by
        unfold q_sp
        rw [decide_eq_true_eq]
        exact Decidable.not_not.mp h12
      exact ih (i + 1) (by omega) (by rw [q_go_step (by omega) hs]; exact hg)
theorem l_goW {l : Launch} {X : ZX} {M : ZM} {t : Nat → Int} {n : Nat} (hn : n ≤ 900) (ht : ∀ i, i < n → 0 ≤ t i ∧ t i < 256) {N : ZM} (hB : MB t n N) {a : Nat} (hal : a ≤ n) {cc : Int} {Q : Option ZV → ZM → Prop} (hQ : ∀ M' : ZM, MK N M' → M' 124 4 = N 124 4 → M' 124 8 = ((q_go q_sm t n a - a : Nat) : Int) → (∀ j, j < q_go q_sm t n a - a → j < 8 → M' 126 j = t (a + j)) → zP l X 1 tX12_goOn 117 [some (zr 124), some (zi (q_go q_sm t n a : Int)), some (zi cc), none] [] M' Q) : ∀ (j i : Nat), i + j = n → ∀ (M : ZM), MK N M → M 124 4 = N 124 4 → a ≤ i → q_go q_sm t n i = q_go q_sm t n a → M 124 8 = ((i - a : Nat) : Int) → (∀ j, j < i - a → j < 8 → M 126 j = t (a + j)) → zP l X 1 tX12_goOn 67 [some (zr 124), some (zi (i : Int)), some (zi cc), none] [] M (Q) := by
  intro j
  induction j with
  | zero =>
    intro i hi M hk h4 hai hg h8 hl
    have hB9 := hB.of hk
    refine p_aload_n 68 dX12_goOn_67 rfl rfl (by decide) ?_
    refine p_iload_n 69 dX12_goOn_68 rfl rfl ?_
    refine p_callV1i 124 72 dX12_goOn_69 (s_look hn ht hB9 (k := i) (by omega)) lk_X12_68 mX12_look rfl rfl (by decide) (Nat.le_of_ble_eq_true rfl) ?_
    rintro _ _ ⟨rfl, e9⟩
    have e9 := e9.symm
    subst e9
    rw [q_look_out (by omega)]
    refine p_callS1i 75 dX12_goOn_72 (s_isSmallM (by have := q_look_bd ht i; omega) (by have := q_look_bd ht i; omega)) lk_X12_84 mX12_isSmall (by decide) (Nat.le_of_ble_eq_true rfl) ?_
    rintro _ _ ⟨rfl, e9⟩
    have e9 := e9.symm
    subst e9
    refine p_if_eq 117 78 dX12_goOn_75 (by split <;> omega) (by split <;> omega) (fun h75 => ?_) (fun h75 => absurd (absurd (if_neq0 h75) (by rw [q_sm_neg]; decide)) (fun h9 : False => h9))
    have he : q_go q_sm t n a = i := by rw [← hg, q_go_stop (fun g => by omega)]
    have q9 := hQ M hk h4
    rw [he] at q9
    exact q9 h8 hl
  | succ j ih =>
    intro i hi M hk h4 hai hg h8 hl
    have hB9 := hB.of hk
    have hti := ht i (by omega)
    refine p_aload_n 68 dX12_goOn_67 rfl rfl (by decide) ?_
    refine p_iload_n 69 dX12_goOn_68 rfl rfl ?_
    refine p_callV1i 124 72 dX12_goOn_69 (s_look hn ht hB9 (k := i) (by omega)) lk_X12_68 mX12_look rfl rfl (by decide) (Nat.le_of_ble_eq_true rfl) ?_
    rintro _ _ ⟨rfl, e9⟩
    have e9 := e9.symm
    subst e9
    rw [q_look_in (by omega)]
    refine p_callS1i 75 dX12_goOn_72 (s_isSmallM (by omega) (by omega)) lk_X12_84 mX12_isSmall (by decide) (Nat.le_of_ble_eq_true rfl) ?_
    rintro _ _ ⟨rfl, e9⟩
    have e9 := e9.symm
    subst e9
    refine p_if_eq 117 78 dX12_goOn_75 (by split <;> omega) (by split <;> omega) (fun h75 => ?_) (fun h75 => ?_)
    · have he : q_go q_sm t n a = i := by rw [← hg, q_go_stop (fun g => if_eq0 h75 g.2)]
      have q9 := hQ M hk h4
      rw [he] at q9
      exact q9 h8 hl
    · refine p_aload_n 79 dX12_goOn_78 rfl rfl (by decide) ?_
      refine p_getI 124 82 dX12_goOn_79 fX12_75 rfl ?_
      rw [h8]
      refine p_bipush 84 dX12_goOn_82 rfl ?_
      refine p_icmp_ge 101 87 dX12_goOn_84 (by omega) (by omega) (by omega) (by omega) (fun h84 => ?_) (fun h84 => ?_)
      · refine p_aload_n 102 dX12_goOn_101 rfl rfl (by decide) ?_
        refine p_dupR 103 dX12_goOn_102 ?_
        refine p_getI 124 106 dX12_goOn_103 fX12_75 rfl ?_
        first | rw [zset_ne _ (by decide), h8] | rw [h8]
        refine p_iconst 107 dX12_goOn_106 ?_
        refine p_iadd 108 dX12_goOn_107 ?_
        refine p_putI 124 111 dX12_goOn_108 wX12_75 rfl ?_
        refine p_iinc 114 dX12_goOn_111 rfl rfl rfl ?_
        dsimp only [List.set]
        refine p_goto 67 dX12_goOn_114 ?_
        have hs : q_sm (t i) = true := if_neq0 h75
        first
          | (refine ih (i + 1) (by omega) _ (hk.lt.set (by omega)) (by rw [zset_k (by decide), zset_ne _ (by decide)]; exact h4) (by omega) (by rw [q_go_step (by omega) hs]; exact hg) (by rw [zset_at]; omega) (fun j hj hj8 => ?_)
             rw [zset_ne _ (by decide)]
             by_cases e : j = i - a
             · rw [e, zset_at, show a + (i - a) = i by omega]
             · rw [zset_k e]
               exact hl j (by omega) hj8)
          | (refine ih (i + 1) (by omega) _ (hk.set (by omega)) (by rw [zset_k (by decide)]; exact h4) (by omega) (by rw [q_go_step (by omega) hs]; exact hg) (by rw [zset_at]; omega) (fun j hj hj8 => ?_)
             rw [zset_ne _ (by decide)]
             exact hl j (by omega) hj8)
      · refine p_aload_n 88 dX12_goOn_87 rfl rfl (by decide) ?_
        refine p_getR 124 91 dX12_goOn_88 fX12_17 rfl (hB9.1 (124, 12, 126) (by decide)) ?_
        refine p_aload_n 92 dX12_goOn_91 rfl rfl (by decide) ?_
        refine p_getI 124 95 dX12_goOn_92 fX12_75 rfl ?_
        rw [h8]
        refine p_aload_n 96 dX12_goOn_95 rfl rfl (by decide) ?_
        refine p_iload_n 97 dX12_goOn_96 rfl rfl ?_
        refine p_callV1i 124 100 dX12_goOn_97 (s_look hn ht hB9 (k := i) (by omega)) lk_X12_68 mX12_look rfl rfl (by decide) (Nat.le_of_ble_eq_true rfl) ?_
        rintro _ _ ⟨rfl, e9⟩
        have e9 := e9.symm
        subst e9
        rw [q_look_in (by omega)]
        refine p_iastn 126 101 (i - a) dX12_goOn_100 rfl (by omega) (by omega) ?_
        refine p_aload_n 102 dX12_goOn_101 rfl rfl (by decide) ?_
        refine p_dupR 103 dX12_goOn_102 ?_
        refine p_getI 124 106 dX12_goOn_103 fX12_75 rfl ?_
        first | rw [zset_ne _ (by decide), h8] | rw [h8]
        refine p_iconst 107 dX12_goOn_106 ?_
        refine p_iadd 108 dX12_goOn_107 ?_
        refine p_putI 124 111 dX12_goOn_108 wX12_75 rfl ?_
        refine p_iinc 114 dX12_goOn_111 rfl rfl rfl ?_
        dsimp only [List.set]
        refine p_goto 67 dX12_goOn_114 ?_
        have hs : q_sm (t i) = true := if_neq0 h75
        first
          | (refine ih (i + 1) (by omega) _ (hk.lt.set (by omega)) (by rw [zset_k (by decide), zset_ne _ (by decide)]; exact h4) (by omega) (by rw [q_go_step (by omega) hs]; exact hg) (by rw [zset_at]; omega) (fun j hj hj8 => ?_)
             rw [zset_ne _ (by decide)]
             by_cases e : j = i - a
             · rw [e, zset_at, show a + (i - a) = i by omega]
             · rw [zset_k e]
               exact hl j (by omega) hj8)
          | (refine ih (i + 1) (by omega) _ (hk.set (by omega)) (by rw [zset_k (by decide)]; exact h4) (by omega) (by rw [q_go_step (by omega) hs]; exact hg) (by rw [zset_at]; omega) (fun j hj hj8 => ?_)
             rw [zset_ne _ (by decide)]
             exact hl j (by omega) hj8)
theorem l_goD {l : Launch} {X : ZX} {M : ZM} {t : Nat → Int} {n : Nat} (hn : n ≤ 900) (ht : ∀ i, i < n → 0 ≤ t i ∧ t i < 256) {N : ZM} (hB : MB t n N) {a : Nat} (hal : a ≤ n) {cc : Int} {Q : Option ZV → ZM → Prop} (hQ : ∀ M' : ZM, MK N M' → M' 124 4 = N 124 4 → (q_go q_dgt t n a - a ≤ 3 → M' 124 7 = q_dec (fun j => t (a + j)) (q_go q_dgt t n a - a)) → zP l X 1 tX12_goOn 197 [some (zr 124), some (zi (q_go q_dgt t n a : Int)), some (zi cc), some (zi ((q_go q_dgt t n a - a : Nat) : Int))] [] M' Q) : ∀ (j i : Nat), i + j = n → ∀ (M : ZM), MK N M → M 124 4 = N 124 4 → a ≤ i → q_go q_dgt t n i = q_go q_dgt t n a → (i - a ≤ 3 → M 124 7 = q_dec (fun j => t (a + j)) (i - a)) → zP l X 1 tX12_goOn 152 [some (zr 124), some (zi (i : Int)), some (zi cc), some (zi ((i - a : Nat) : Int))] [] M (Q) := by
  intro j
  induction j with
  | zero =>
    intro i hi M hk h4 hai hg h7
    have hB9 := hB.of hk
    refine p_aload_n 153 dX12_goOn_152 rfl rfl (by decide) ?_
    refine p_iload_n 154 dX12_goOn_153 rfl rfl ?_
    refine p_callV1i 124 157 dX12_goOn_154 (s_look hn ht hB9 (k := i) (by omega)) lk_X12_68 mX12_look rfl rfl (by decide) (Nat.le_of_ble_eq_true rfl) ?_
    rintro _ _ ⟨rfl, e9⟩
    have e9 := e9.symm
    subst e9
    rw [q_look_out (by omega)]
    refine p_callS1i 160 dX12_goOn_157 (s_isDigitM (by have := q_look_bd ht i; omega) (by have := q_look_bd ht i; omega)) lk_X12_88 mX12_isDigit (by decide) (Nat.le_of_ble_eq_true rfl) ?_
    rintro _ _ ⟨rfl, e9⟩
    have e9 := e9.symm
    subst e9
    refine p_if_eq 197 163 dX12_goOn_160 (by split <;> omega) (by split <;> omega) (fun h160 => ?_) (fun h160 => absurd (absurd (if_neq0 h160) (by rw [q_dgt_neg]; decide)) (fun h9 : False => h9))
    have he : q_go q_dgt t n a = i := by rw [← hg, q_go_stop (fun g => by omega)]
    have q9 := hQ M hk h4
    rw [he] at q9
    exact q9 h7
  | succ j ih =>
    intro i hi M hk h4 hai hg h7
    have hB9 := hB.of hk
    have hti := ht i (by omega)
    refine p_aload_n 153 dX12_goOn_152 rfl rfl (by decide) ?_
    refine p_iload_n 154 dX12_goOn_153 rfl rfl ?_
    refine p_callV1i 124 157 dX12_goOn_154 (s_look hn ht hB9 (k := i) (by omega)) lk_X12_68 mX12_look rfl rfl (by decide) (Nat.le_of_ble_eq_true rfl) ?_
    rintro _ _ ⟨rfl, e9⟩
    have e9 := e9.symm
    subst e9
    rw [q_look_in (by omega)]
    refine p_callS1i 160 dX12_goOn_157 (s_isDigitM (by omega) (by omega)) lk_X12_88 mX12_isDigit (by decide) (Nat.le_of_ble_eq_true rfl) ?_
    rintro _ _ ⟨rfl, e9⟩
    have e9 := e9.symm
    subst e9
    refine p_if_eq 197 163 dX12_goOn_160 (by split <;> omega) (by split <;> omega) (fun h160 => ?_) (fun h160 => ?_)
    · have he : q_go q_dgt t n a = i := by rw [← hg, q_go_stop (fun g => if_eq0 h160 g.2)]
      have q9 := hQ M hk h4
      rw [he] at q9
      exact q9 h7
    · refine p_iload_n 164 dX12_goOn_163 rfl rfl ?_
      refine p_iconst 165 dX12_goOn_164 ?_
      refine p_icmp_ge 188 168 dX12_goOn_165 (by omega) (by omega) (by omega) (by omega) (fun h165 => ?_) (fun h165 => ?_)
      · refine p_iinc 191 dX12_goOn_188 rfl rfl rfl ?_
        dsimp only [List.set]
        refine p_iinc 194 dX12_goOn_191 rfl rfl rfl ?_
        dsimp only [List.set]
        refine p_goto 152 dX12_goOn_194 ?_
        have hs : q_dgt (t i) = true := if_neq0 h160
        have e9 : ((i + 1 - a : Nat) : Int) = ((i - a : Nat) : Int) + 1 := by omega
        first
          | (have e := ih (i + 1) (by omega) (zset M 124 7 (10 * q_dec (fun j => t (a + j)) (i - a) + t i - 48)) (hk.set (by omega)) (by rw [zset_k (by decide)]; exact h4) (by omega) (by rw [q_go_step (by omega) hs]; exact hg) (fun _ => by
               rw [zset_at, show i + 1 - a = (i - a) + 1 by omega]
               show _ = 10 * q_dec (fun j => t (a + j)) (i - a) + (t (a + (i - a)) - 48)
               rw [show a + (i - a) = i by omega]
               omega)
             rw [e9] at e
             exact e)
          | (have e := ih (i + 1) (by omega) M hk h4 (by omega) (by rw [q_go_step (by omega) hs]; exact hg) (fun g => absurd g (by omega))
             rw [e9] at e
             exact e)
      · refine p_aload_n 169 dX12_goOn_168 rfl rfl (by decide) ?_
        refine p_bipush 171 dX12_goOn_169 rfl ?_
        refine p_aload_n 172 dX12_goOn_171 rfl rfl (by decide) ?_
        refine p_getI 124 175 dX12_goOn_172 fX12_78 rfl ?_
        rw [h7 (by omega)]
        refine p_imul 176 dX12_goOn_175 ?_
        refine p_aload_n 177 dX12_goOn_176 rfl rfl (by decide) ?_
        refine p_iload_n 178 dX12_goOn_177 rfl rfl ?_
        refine p_callV1i 124 181 dX12_goOn_178 (s_look hn ht hB9 (k := i) (by omega)) lk_X12_68 mX12_look rfl rfl (by decide) (Nat.le_of_ble_eq_true rfl) ?_
        rintro _ _ ⟨rfl, e9⟩
        have e9 := e9.symm
        subst e9
        rw [q_look_in (by omega)]
        refine p_iadd 182 dX12_goOn_181 ?_
        refine p_bipush 184 dX12_goOn_182 rfl ?_
        refine p_isub 185 dX12_goOn_184 ?_
        refine p_putI 124 188 dX12_goOn_185 wX12_78 rfl ?_
        refine p_iinc 191 dX12_goOn_188 rfl rfl rfl ?_
        dsimp only [List.set]
        refine p_iinc 194 dX12_goOn_191 rfl rfl rfl ?_
        dsimp only [List.set]
        refine p_goto 152 dX12_goOn_194 ?_
        have hs : q_dgt (t i) = true := if_neq0 h160
        have e9 : ((i + 1 - a : Nat) : Int) = ((i - a : Nat) : Int) + 1 := by omega
        first
          | (have e := ih (i + 1) (by omega) (zset M 124 7 (10 * q_dec (fun j => t (a + j)) (i - a) + t i - 48)) (hk.set (by omega)) (by rw [zset_k (by decide)]; exact h4) (by omega) (by rw [q_go_step (by omega) hs]; exact hg) (fun _ => by
               rw [zset_at, show i + 1 - a = (i - a) + 1 by omega]
               show _ = 10 * q_dec (fun j => t (a + j)) (i - a) + (t (a + (i - a)) - 48)
               rw [show a + (i - a) = i by omega]
               omega)
             rw [e9] at e
             exact e)
          | (have e := ih (i + 1) (by omega) M hk h4 (by omega) (by rw [q_go_step (by omega) hs]; exact hg) (fun g => absurd g (by omega))
             rw [e9] at e
             exact e)
theorem s_goOn {l : Launch} {X : ZX} {M : ZM} {t : Nat → Int} {n : Nat} (hn : n ≤ 900) (ht : ∀ i, i < n → 0 ≤ t i ∧ t i < 256) (hB : MB t n M) {p : Nat} (hp : p ≤ n) (h5 : M 124 5 = (p : Int)) : zCv l X 1 yX12_goOn tX12_goOn [zr 124] M (fun M' => MK M M' ∧ TM t n p M') := by
  refine zC.of [some (zr 124), none, none, none] (by decide +kernel) rfl rfl (Nat.le_of_ble_eq_true rfl) rfl ?_
  refine p_aload_n 1 dX12_goOn_0 rfl rfl (by decide) ?_
  refine p_getI 124 4 dX12_goOn_1 fX12_65 rfl ?_
  rw [h5]
  refine p_istore_n 5 dX12_goOn_4 rfl (Nat.le_of_ble_eq_true rfl) rfl rfl ?_
  dsimp only [List.set]
  refine l_goA (l := l) (X := X) hn ht hB (p := p) ?_ (n - p) p (by omega) rfl
  have hal := q_at_le t hp
  have hlb := q_look_bd ht (q_at t n p)
  refine p_aload_n 22 dX12_goOn_21 rfl rfl (by decide) ?_
  refine p_iload_n 23 dX12_goOn_22 rfl rfl ?_
  refine p_putI 124 26 dX12_goOn_23 wX12_72 rfl ?_
  have hB4 : MB t n (zset M 124 4 (q_at t n p : Int)) := hB.of (MK.rfl.set (by omega))
  refine p_aload_n 27 dX12_goOn_26 rfl rfl (by decide) ?_
  refine p_iload_n 28 dX12_goOn_27 rfl rfl ?_
  refine p_callV1i 124 31 dX12_goOn_28 (s_look hn ht hB4 (k := q_at t n p) (by omega)) lk_X12_68 mX12_look rfl rfl (by decide) (Nat.le_of_ble_eq_true rfl) ?_
  rintro _ _ ⟨rfl, e9⟩
  have e9 := e9.symm
  subst e9
  refine p_istore_n 32 dX12_goOn_31 rfl (Nat.le_of_ble_eq_true rfl) rfl rfl ?_
  dsimp only [List.set]
  refine p_aload_n 33 dX12_goOn_32 rfl rfl (by decide) ?_
  refine p_iconst 34 dX12_goOn_33 ?_
  refine p_putI 124 37 dX12_goOn_34 wX12_75 rfl ?_
  refine p_aload_n 38 dX12_goOn_37 rfl rfl (by decide) ?_
  refine p_iconst 39 dX12_goOn_38 ?_
  refine p_putI 124 42 dX12_goOn_39 wX12_78 rfl ?_
  have hK3 : MK M (zset (zset (zset M 124 4 (q_at t n p : Int)) 124 8 0) 124 7 0) := ((MK.rfl.set (by omega)).set (by omega)).set (by omega)
  have hB3 : MB t n (zset (zset (zset M 124 4 (q_at t n p : Int)) 124 8 0) 124 7 0) := hB.of hK3
  refine p_iload_n 43 dX12_goOn_42 rfl rfl ?_
  refine p_iconst 44 dX12_goOn_43 ?_
  refine p_icmp_ne 60 47 dX12_goOn_44 (by omega) (by omega) (by decide) (by decide) (fun h44 => ?_) (fun h44 => ?_)
  · have g0 : ¬ n ≤ q_at t n p := fun g => h44 (q_look_out (by omega))
    have hta := ht (q_at t n p) (by omega)
    have elk : q_look t n (q_at t n p) = t (q_at t n p) := q_look_in (by omega)
    rw [elk]
    refine p_iload_n 61 dX12_goOn_60 rfl rfl ?_
    refine p_callS1i 64 dX12_goOn_61 (s_isSmallM (by omega) (by omega)) lk_X12_84 mX12_isSmall (by decide) (Nat.le_of_ble_eq_true rfl) ?_
    rintro _ _ ⟨rfl, e9⟩
    have e9 := e9.symm
    subst e9
    refine p_if_eq 143 67 dX12_goOn_64 (by split <;> omega) (by split <;> omega) (fun h64 => ?_) (fun h64 => ?_)
    · have g1 := if_eq0 h64
      refine p_iload_n 144 dX12_goOn_143 rfl rfl ?_
      refine p_callS1i 147 dX12_goOn_144 (s_isDigitM (by omega) (by omega)) lk_X12_88 mX12_isDigit (by decide) (Nat.le_of_ble_eq_true rfl) ?_
      rintro _ _ ⟨rfl, e9⟩
      have e9 := e9.symm
      subst e9
      refine p_if_eq 219 150 dX12_goOn_147 (by split <;> omega) (by split <;> omega) (fun h147 => ?_) (fun h147 => ?_)
      · have g2 := if_eq0 h147
        have een : q_en t n p = q_at t n p + 1 := by unfold q_en; rw [if_neg g0, if_neg g1, if_neg g2]
        refine p_aload_n 220 dX12_goOn_219 rfl rfl (by decide) ?_
        refine p_iload_n 221 dX12_goOn_220 rfl rfl ?_
        refine p_iconst 222 dX12_goOn_221 ?_
        refine p_iadd 223 dX12_goOn_222 ?_
        refine p_putI 124 226 dX12_goOn_223 wX12_65 rfl ?_
        refine p_aload_n 227 dX12_goOn_226 rfl rfl (by decide) ?_
        refine p_iload_n 228 dX12_goOn_227 rfl rfl ?_
        refine p_bipush 230 dX12_goOn_228 rfl ?_
        refine p_icmp_ne 237 233 dX12_goOn_230 (by omega) (by omega) (by decide) (by decide) (fun h230 => ?_) (fun h230 => ?_)
        · refine p_iconst 238 dX12_goOn_237 ?_
          refine p_putI 124 241 dX12_goOn_238 wX12_81 rfl ?_
          refine p_vret dX12_goOn_241 rfl ?_
          first
            | (have een : q_en t n p = q_at t n p := by unfold q_en; rw [if_pos g0]
               have etk : q_tk t n p = 0 := by unfold q_tk; rw [if_pos g0]
               refine ⟨rfl, (hK3.set (by omega)).set (by omega), ?_⟩
               unfold TM
               rw [een, etk]
               exact ⟨rfl, rfl, rfl, fun g => absurd g (by decide), fun g => absurd g (by decide)⟩)
            | (have etk : q_tk t n p = 59 := by unfold q_tk; rw [if_neg g0, if_neg g1, if_neg g2, if_pos (by omega)]
               refine ⟨rfl, (hK3.set (by omega)).set (by omega), ?_⟩
               unfold TM
               rw [een, etk]
               exact ⟨rfl, rfl, by rw [zset_at]; omega, fun g => absurd g (by decide), fun g => absurd g (by decide)⟩)
            | (have etk : q_tk t n p = 1 := by unfold q_tk; rw [if_neg g0, if_neg g1, if_neg g2, if_neg (by omega)]
               refine ⟨rfl, (hK3.set (by omega)).set (by omega), ?_⟩
               unfold TM
               rw [een, etk]
               exact ⟨rfl, rfl, rfl, fun g => absurd g (by decide), fun g => absurd g (by decide)⟩)
        · refine p_iload_n 234 dX12_goOn_233 rfl rfl ?_
          refine p_goto 238 dX12_goOn_234 ?_
          refine p_putI 124 241 dX12_goOn_238 wX12_81 rfl ?_
          refine p_vret dX12_goOn_241 rfl ?_
          first
            | (have een : q_en t n p = q_at t n p := by unfold q_en; rw [if_pos g0]
               have etk : q_tk t n p = 0 := by unfold q_tk; rw [if_pos g0]
               refine ⟨rfl, (hK3.set (by omega)).set (by omega), ?_⟩
               unfold TM
               rw [een, etk]
               exact ⟨rfl, rfl, rfl, fun g => absurd g (by decide), fun g => absurd g (by decide)⟩)
            | (have etk : q_tk t n p = 59 := by unfold q_tk; rw [if_neg g0, if_neg g1, if_neg g2, if_pos (by omega)]
               refine ⟨rfl, (hK3.set (by omega)).set (by omega), ?_⟩
               unfold TM
               rw [een, etk]
               exact ⟨rfl, rfl, by rw [zset_at]; omega, fun g => absurd g (by decide), fun g => absurd g (by decide)⟩)
            | (have etk : q_tk t n p = 1 := by unfold q_tk; rw [if_neg g0, if_neg g1, if_neg g2, if_neg (by omega)]
               refine ⟨rfl, (hK3.set (by omega)).set (by omega), ?_⟩
               unfold TM
               rw [een, etk]
               exact ⟨rfl, rfl, rfl, fun g => absurd g (by decide), fun g => absurd g (by decide)⟩)
      · have g2 : q_dgt (t (q_at t n p)) = true := if_neq0 h147
        have een : q_en t n p = q_go q_dgt t n (q_at t n p) := by unfold q_en; rw [if_neg g0, if_neg g1, if_pos g2]
        have hg9 := q_go_le q_dgt t n (q_at t n p)
        have hg8 := q_go_le2 q_dgt t (n := n) (k := q_at t n p) (by omega)
        refine p_iconst 151 dX12_goOn_150 ?_
        refine p_istore_n 152 dX12_goOn_151 rfl (Nat.le_of_ble_eq_true rfl) rfl rfl ?_
        dsimp only [List.set]
        have hDD := l_goD (l := l) (X := X) (M := M) (Q := fun r M' => r = none ∧ (MK M M' ∧ TM t n p M')) (cc := t (q_at t n p)) hn ht hB3 (a := q_at t n p) (by omega) (fun M7 kk k4 k7 => ?_) (n - q_at t n p) (q_at t n p) (by omega) (zset (zset (zset M 124 4 (q_at t n p : Int)) 124 8 0) 124 7 0) MK.rfl rfl (Nat.le_refl _) rfl (fun _ => by rw [Nat.sub_self]; rfl)
        · rw [Nat.sub_self] at hDD
          exact hDD
        have hB7 := hB3.of kk
        refine p_aload_n 198 dX12_goOn_197 rfl rfl (by decide) ?_
        refine p_iload_n 199 dX12_goOn_198 rfl rfl ?_
        refine p_putI 124 202 dX12_goOn_199 wX12_65 rfl ?_
        refine p_aload_n 203 dX12_goOn_202 rfl rfl (by decide) ?_
        refine p_iload_n 204 dX12_goOn_203 rfl rfl ?_
        refine p_iconst 205 dX12_goOn_204 ?_
        refine p_icmp_le 212 208 dX12_goOn_205 (by omega) (by omega) (by decide) (by decide) (fun h205 => ?_) (fun h205 => ?_)
        · refine p_iconst 213 dX12_goOn_212 ?_
          refine p_putI 124 216 dX12_goOn_213 wX12_81 rfl ?_
          refine p_goto 241 dX12_goOn_216 ?_
          refine p_vret dX12_goOn_241 rfl ?_
          have etk : q_tk t n p = if 3 < q_en t n p - q_at t n p then 1 else 3 := by unfold q_tk; rw [if_neg g0, if_neg g1, if_pos g2]
          refine ⟨rfl, (hK3.trans kk).set (by omega) |>.set (by omega), ?_, ?_, ?_, fun g => ?_, fun g => ?_⟩
          · rw [zset_k (by decide), zset_k (by decide), k4]; rfl
          · rw [zset_k (by decide), zset_at, een]
          · rw [zset_at, etk, een]
            first | (rw [if_neg (by omega)]; rfl) | (rw [if_pos (by omega)]; rfl)
          · rw [etk] at g; split at g <;> omega
          · rw [zset_k (by decide), zset_k (by decide), k7 (by rw [etk, een] at g; split at g <;> omega)]
            unfold q_nb q_ln
            rw [een]
        · refine p_iconst 209 dX12_goOn_208 ?_
          refine p_goto 213 dX12_goOn_209 ?_
          refine p_putI 124 216 dX12_goOn_213 wX12_81 rfl ?_
          refine p_goto 241 dX12_goOn_216 ?_
          refine p_vret dX12_goOn_241 rfl ?_
          have etk : q_tk t n p = if 3 < q_en t n p - q_at t n p then 1 else 3 := by unfold q_tk; rw [if_neg g0, if_neg g1, if_pos g2]
          refine ⟨rfl, (hK3.trans kk).set (by omega) |>.set (by omega), ?_, ?_, ?_, fun g => ?_, fun g => ?_⟩
          · rw [zset_k (by decide), zset_k (by decide), k4]; rfl
          · rw [zset_k (by decide), zset_at, een]
          · rw [zset_at, etk, een]
            first | (rw [if_neg (by omega)]; rfl) | (rw [if_pos (by omega)]; rfl)
          · rw [etk] at g; split at g <;> omega
          · rw [zset_k (by decide), zset_k (by decide), k7 (by rw [etk, een] at g; split at g <;> omega)]
            unfold q_nb q_ln
            rw [een]
    · have g1 : q_sm (t (q_at t n p)) = true := if_neq0 h64
      have een : q_en t n p = q_go q_sm t n (q_at t n p) := by unfold q_en; rw [if_neg g0, if_pos g1]
      have hg9 := q_go_le q_sm t n (q_at t n p)
      have hg8 := q_go_le2 q_sm t (n := n) (k := q_at t n p) (by omega)
      refine l_goW (l := l) (X := X) (M := M) hn ht hB3 (a := q_at t n p) (by omega) (fun M7 kk k4 k8 kl => ?_) (n - q_at t n p) (q_at t n p) (by omega) (zset (zset (zset M 124 4 (q_at t n p : Int)) 124 8 0) 124 7 0) MK.rfl rfl (Nat.le_refl _) rfl (by rw [Nat.sub_self]; rfl) (fun j hj => absurd hj (by omega))
      have hB7 := hB3.of kk
      refine p_aload_n 118 dX12_goOn_117 rfl rfl (by decide) ?_
      refine p_iload_n 119 dX12_goOn_118 rfl rfl ?_
      refine p_putI 124 122 dX12_goOn_119 wX12_65 rfl ?_
      refine p_aload_n 123 dX12_goOn_122 rfl rfl (by decide) ?_
      refine p_aload_n 124 dX12_goOn_123 rfl rfl (by decide) ?_
      refine p_getI 124 127 dX12_goOn_124 fX12_75 rfl ?_
      rw [zset_k (by decide), k8]
      refine p_bipush 129 dX12_goOn_127 rfl ?_
      refine p_icmp_le 136 132 dX12_goOn_129 (by omega) (by omega) (by decide) (by decide) (fun h129 => ?_) (fun h129 => ?_)
      · refine p_iconst 137 dX12_goOn_136 ?_
        refine p_putI 124 140 dX12_goOn_137 wX12_81 rfl ?_
        refine p_goto 241 dX12_goOn_140 ?_
        refine p_vret dX12_goOn_241 rfl ?_
        have etk : q_tk t n p = if 8 < q_en t n p - q_at t n p then 1 else 2 := by unfold q_tk; rw [if_neg g0, if_pos g1]
        refine ⟨rfl, (hK3.trans kk).set (by omega) |>.set (by omega), ?_, ?_, ?_, fun g => ?_, fun g => ?_⟩
        · rw [zset_k (by decide), zset_k (by decide), k4]; rfl
        · rw [zset_k (by decide), zset_at, een]
        · rw [zset_at, etk, een]
          first | (rw [if_neg (by omega)]; rfl) | (rw [if_pos (by omega)]; rfl)
        · have hl8 : q_go q_sm t n (q_at t n p) - q_at t n p ≤ 8 := by rw [etk, een] at g; split at g <;> omega
          refine ⟨?_, fun j hj => ?_⟩
          · rw [zset_k (by decide), zset_k (by decide), k8]; unfold q_ln; rw [een]
          · rw [zset_ne _ (by decide), zset_ne _ (by decide)]
            unfold q_ln at hj
            rw [een] at hj
            exact kl j hj (by omega)
        · rw [etk] at g; split at g <;> omega
      · refine p_iconst 133 dX12_goOn_132 ?_
        refine p_goto 137 dX12_goOn_133 ?_
        refine p_putI 124 140 dX12_goOn_137 wX12_81 rfl ?_
        refine p_goto 241 dX12_goOn_140 ?_
        refine p_vret dX12_goOn_241 rfl ?_
        have etk : q_tk t n p = if 8 < q_en t n p - q_at t n p then 1 else 2 := by unfold q_tk; rw [if_neg g0, if_pos g1]
        refine ⟨rfl, (hK3.trans kk).set (by omega) |>.set (by omega), ?_, ?_, ?_, fun g => ?_, fun g => ?_⟩
        · rw [zset_k (by decide), zset_k (by decide), k4]; rfl
        · rw [zset_k (by decide), zset_at, een]
        · rw [zset_at, etk, een]
          first | (rw [if_neg (by omega)]; rfl) | (rw [if_pos (by omega)]; rfl)
        · have hl8 : q_go q_sm t n (q_at t n p) - q_at t n p ≤ 8 := by rw [etk, een] at g; split at g <;> omega
          refine ⟨?_, fun j hj => ?_⟩
          · rw [zset_k (by decide), zset_k (by decide), k8]; unfold q_ln; rw [een]
          · rw [zset_ne _ (by decide), zset_ne _ (by decide)]
            unfold q_ln at hj
            rw [een] at hj
            exact kl j hj (by omega)
        · rw [etk] at g; split at g <;> omega
  · have g0 : n ≤ q_at t n p := by
      by_cases g : n ≤ q_at t n p
      · exact g
      · rw [q_look_in (by omega)] at h44
        have := ht (q_at t n p) (by omega)
        omega
    refine p_aload_n 48 dX12_goOn_47 rfl rfl (by decide) ?_
    refine p_iconst 49 dX12_goOn_48 ?_
    refine p_putI 124 52 dX12_goOn_49 wX12_81 rfl ?_
    refine p_aload_n 53 dX12_goOn_52 rfl rfl (by decide) ?_
    refine p_iload_n 54 dX12_goOn_53 rfl rfl ?_
    refine p_putI 124 57 dX12_goOn_54 wX12_65 rfl ?_
    refine p_goto 241 dX12_goOn_57 ?_
    refine p_vret dX12_goOn_241 rfl ?_
    first
      | (have een : q_en t n p = q_at t n p := by unfold q_en; rw [if_pos g0]
         have etk : q_tk t n p = 0 := by unfold q_tk; rw [if_pos g0]
         refine ⟨rfl, (hK3.set (by omega)).set (by omega), ?_⟩
         unfold TM
         rw [een, etk]
         exact ⟨rfl, rfl, rfl, fun g => absurd g (by decide), fun g => absurd g (by decide)⟩)
      | (have etk : q_tk t n p = 59 := by unfold q_tk; rw [if_neg g0, if_neg g1, if_neg g2, if_pos (by omega)]
         refine ⟨rfl, (hK3.set (by omega)).set (by omega), ?_⟩
         unfold TM
         rw [een, etk]
         exact ⟨rfl, rfl, by rw [zset_at]; omega, fun g => absurd g (by decide), fun g => absurd g (by decide)⟩)
      | (have etk : q_tk t n p = 1 := by unfold q_tk; rw [if_neg g0, if_neg g1, if_neg g2, if_neg (by omega)]
         refine ⟨rfl, (hK3.set (by omega)).set (by omega), ?_⟩
         unfold TM
         rw [een, etk]
         exact ⟨rfl, rfl, rfl, fun g => absurd g (by decide), fun g => absurd g (by decide)⟩)
