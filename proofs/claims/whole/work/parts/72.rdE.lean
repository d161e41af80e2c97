/-! THE READER, the class's: the lines of one element -/
theorem q_bindR_r {α : Type} {x : PR} {p : Nat} {ρ : Nat → Int} {f : Nat → (Nat → Int) → (Int × Int) ⊕ α} (h : x = .inr (p, ρ)) : q_bindR x f = f p ρ := by
  rw [h]
  rfl
theorem q_bindR_l {α : Type} {x : PR} {e : Int × Int} {f : Nat → (Nat → Int) → (Int × Int) ⊕ α} (h : x = .inl e) : q_bindR x f = .inl e := by
  rw [h]
  rfl
theorem q_bindN_r {α : Type} {x : (Int × Int) ⊕ (Nat × Int)} {p : Nat} {v : Int} {f : Nat → Int → (Int × Int) ⊕ α} (h : x = .inr (p, v)) : q_bindN x f = f p v := by
  rw [h]
  rfl
theorem q_bindN_l {α : Type} {x : (Int × Int) ⊕ (Nat × Int)} {e : Int × Int} {f : Nat → Int → (Int × Int) ⊕ α} (h : x = .inl e) : q_bindN x f = .inl e := by
  rw [h]
  rfl
theorem q_bindW_r {α : Type} {x : (Int × Int) ⊕ Nat} {w : Nat} {f : Nat → (Int × Int) ⊕ α} (h : x = .inr w) : q_bindW x f = f w := by
  rw [h]
  rfl
theorem q_bindW_l {α : Type} {x : (Int × Int) ⊕ Nat} {e : Int × Int} {f : Nat → (Int × Int) ⊕ α} (h : x = .inl e) : q_bindW x f = .inl e := by
  rw [h]
  rfl
theorem q_aft_l1 {t : Nat → Int} {n p i : Nat} {lo hi : Int} (h : q_is t n p i = false) : q_aft t n p i lo hi = .inl (1, (q_at t n p : Int)) := by
  unfold q_aft
  rw [if_neg (by rw [h]; decide)]
theorem q_aft_l2 {t : Nat → Int} {n p i : Nat} {lo hi : Int} {e : Int × Int} (h : q_is t n p i = true) (h2 : q_num t n (q_en t n p) lo hi = .inl e) : q_aft t n p i lo hi = .inl e := by
  unfold q_aft
  rw [if_pos h, h2]
theorem q_aft_r {t : Nat → Int} {n p i : Nat} {lo hi : Int} {v : Nat × Int} (h : q_is t n p i = true) (h2 : q_num t n (q_en t n p) lo hi = .inr v) : q_aft t n p i lo hi = .inr v := by
  unfold q_aft
  rw [if_pos h, h2]
theorem PL.l {t : Nat → Int} {n c : Nat} {N M : ZM} {r : PR} {e : Int × Int} (hz : r = .inl e) (hF : FL c N e M) : PL t n c N r 0 M := by
  rw [hz]
  exact (⟨rfl, hF⟩ : (0 : Int) = 0 ∧ FL c N e M)
theorem PL.r {t : Nat → Int} {n c : Nat} {N M : ZM} {r : PR} {p : Nat} {ρ : Nat → Int} (hz : r = .inr (p, ρ)) (hS : RS t n c p ρ N M) : PL t n c N r 1 M := by
  rw [hz]
  exact (⟨rfl, hS⟩ : (1 : Int) = 1 ∧ RS t n c p ρ N M)
theorem RS.putf {t : Nat → Int} {n c p : Nat} {ρ : Nat → Int} {N M : ZM} {k j : Nat} {v : Int} (hc : isC c) (h : RS t n c p ρ N M) (hf : q_free ρ k j) : RS t n c p ρ N (zset M (c + k) j v) ∧ zset M (c + k) j v (c + k) j = v := ⟨h.put hc hf, zset_at _ _ _ _⟩
theorem q_kind_bd (t : Nat → Int) (n p : Nat) : -1 ≤ q_kind t n p ∧ q_kind t n p ≤ 3 := by
  unfold q_kind
  (repeat' split) <;> omega
theorem s_takeSleeper {l : Launch} {X : ZX} {M : ZM} {t : Nat → Int} {n c : Nat} (hn : n ≤ 900) (ht : ∀ i, i < n → 0 ≤ t i ∧ t i < 256) (hc : isC c) {p : Nat} (hp : p ≤ n) {ρ : Nat → Int} {N : ZM} (hS : RS t n c p ρ N M) (hP : PI ρ) (hr : ρ 2 < 7) : zCi l X 7 yX6_takeSleeper tX6_takeSleeper [zr 48] M (fun a M' => PL t n c N (q_lsleeper t n p ρ) a M') := by
  have hR := hP.1
  have e2 : ρ 2 = (q_n ρ 2 : Int) := hR.n (by decide)
  have e3 : ρ 3 = (q_n ρ 3 : Int) := hR.n (by decide)
  have e4 : ρ 4 = (q_n ρ 4 : Int) := hR.n (by decide)
  have e5 : ρ 5 = (q_n ρ 5 : Int) := hR.n (by decide)
  have e6 : ρ 6 = (q_n ρ 6 : Int) := hR.n (by decide)
  have e7 : ρ 7 = (q_n ρ 7 : Int) := hR.n (by decide)
  have hcl := hc.lt
  have hp1 := q_en_n t hp
  have hp2 := q_en_n t hp1
  have hp3 := q_en_n t hp2
  have hp4 := q_en_n t hp3
  have hp5 := q_en_n t hp4
  have hp6 := q_en_n t hp5
  refine zC.of [some (zr 48), none, none, none] (by decide +kernel) rfl rfl (Nat.le_of_ble_eq_true rfl) rfl ?_
  refine p_aload_n 1 dX6_takeSleeper_0 rfl rfl (by decide) ?_
  refine p_getR 48 4 dX6_takeSleeper_1 fX6_19 rfl hS.1.2.2.2.1 ?_
  refine p_getR (c) 7 dX6_takeSleeper_4 fX6_51 (tt_c hc) (wi_0_3 hc hS.1.1) ?_
  refine p_astore_n 8 dX6_takeSleeper_7 rfl (Nat.le_of_ble_eq_true rfl) rfl (by omega) rfl ?_
  dsimp only [List.set]
  refine p_aload_n 9 dX6_takeSleeper_8 rfl rfl (by omega) ?_
  refine p_getI (c + 1) 12 dX6_takeSleeper_9 fX6_55 (tt_1 hc) ?_
  rw [hS.2.2.1.1.1.2.2.2.1, e2]
  refine p_istore_n 13 dX6_takeSleeper_12 rfl (Nat.le_of_ble_eq_true rfl) rfl rfl ?_
  dsimp only [List.set]
  refine p_aload_n 14 dX6_takeSleeper_13 rfl rfl (by decide) ?_
  refine p_callV0i 48 17 dX6_takeSleeper_14 (s_isNewName hn ht hc hp hS hP) lk_X6_191 mX6_isNewName rfl rfl (by decide) (Nat.le_of_ble_eq_true rfl) ?_
  intro a1 M1 hd1
  have ha1 : 0 ≤ a1 ∧ a1 ≤ 1 := by
    rcases hd1 with ⟨-, -, -, h, -⟩ | ⟨_, -, h, -⟩ <;> omega
  refine p_if_ne 22 20 dX6_takeSleeper_17 (by omega) (by omega) (fun h17 => ?_) (fun h17 => ?_)
  · obtain ⟨hk2, hnr, hnf, -, e9⟩ := hd1.resolve_right (fun g => by obtain ⟨_, _, g, _⟩ := g; exact h17 g)
    have e9 := e9.symm
    subst e9
    have hN : q_newn t n p ρ (q_n ρ 2) = .inr (q_en t n p, q_nm t n p ρ (q_n ρ 2)) := by
      unfold q_newn
      rw [if_neg (fun g => g.elim (fun g => g hk2) hnr), if_neg hnf]
    have hlw := q_tk_word hp hk2
    refine p_aload_n 23 dX6_takeSleeper_22 rfl rfl (by omega) ?_
    refine p_getR (c + 1) 26 dX6_takeSleeper_23 fX6_194 (tt_1 hc) (wi_1_1 hc hS.1.1) ?_
    refine p_iload_n 27 dX6_takeSleeper_26 rfl rfl ?_
    refine p_aload_n 28 dX6_takeSleeper_27 rfl rfl (by decide) ?_
    refine p_getJ 48 31 dX6_takeSleeper_28 fX6_76 rfl ?_
    rw [hS.2.1.2.2.2.1 hk2]
    refine p_lastn (c + 2) 32 (q_n ρ 2) dX6_takeSleeper_31 (tt_2 hc) (by omega) (by omega) ?_
    obtain ⟨hS, fn⟩ := hS.putf hc (k := 2) (j := q_n ρ 2) (v := q_wd t n p) (Or.inl ⟨by omega, by omega, by omega⟩)
    refine p_aload_n 33 dX6_takeSleeper_32 rfl rfl (by decide) ?_
    refine p_callV0v 48 36 dX6_takeSleeper_33 (s_advance hn ht hS.1 (p := (q_en t n p)) hp1 hS.2.1.1) lk_X6_37 mX6_advance rfl rfl (by decide) (Nat.le_of_ble_eq_true rfl) ?_
    intro M9 h9
    obtain ⟨kk, hT9⟩ := h9
    have hS := hS.adv hc kk hT9
    have fn := (congrFun (kk.1 (c + 2) (by omega)) _).trans fn
    refine p_aload_n 37 dX6_takeSleeper_36 rfl rfl (by decide) ?_
    refine p_callV0i 48 40 dX6_takeSleeper_37 (s_kindSpelt hn ht hc hp1 hS.w) lk_X6_198 mX6_kindSpelt rfl rfl (by decide) (Nat.le_of_ble_eq_true rfl) ?_
    rintro _ _ ⟨rfl, e9⟩
    have e9 := e9.symm
    subst e9
    have hkb := q_kind_bd t n (q_en t n p)
    refine p_istore_n 41 dX6_takeSleeper_40 rfl (Nat.le_of_ble_eq_true rfl) rfl rfl ?_
    dsimp only [List.set]
    refine p_iload_n 42 dX6_takeSleeper_41 rfl rfl ?_
    refine p_iconst 43 dX6_takeSleeper_42 ?_
    refine p_icmp_ne 52 46 dX6_takeSleeper_43 (by omega) (by omega) (by decide) (by decide) (fun h43 => ?_) (fun h43 => ?_)
    · have hk0 : ¬ q_kind t n (q_en t n p) < 0 := by omega
      refine p_aload_n 53 dX6_takeSleeper_52 rfl rfl (by omega) ?_
      refine p_getR (c + 1) 56 dX6_takeSleeper_53 fX6_201 (tt_1 hc) (wi_1_2 hc hS.1.1) ?_
      refine p_iload_n 57 dX6_takeSleeper_56 rfl rfl ?_
      refine p_iload_n 58 dX6_takeSleeper_57 rfl rfl ?_
      refine p_iastn (c + 3) 59 (q_n ρ 2) dX6_takeSleeper_58 (tt_3 hc) (by omega) (by omega) ?_
      obtain ⟨hS, f3⟩ := hS.putf hc (k := 3) (j := q_n ρ 2) (v := q_kind t n (q_en t n p)) (Or.inl ⟨by omega, by omega, by omega⟩)
      have fn := (zset_o (a := c + 3) (i := q_n ρ 2) (v := q_kind t n (q_en t n p)) (Or.inl (by omega))).trans fn
      refine p_aload_n 60 dX6_takeSleeper_59 rfl rfl (by decide) ?_
      refine p_callV0v 48 63 dX6_takeSleeper_60 (s_advance hn ht hS.1 (p := (q_en t n (q_en t n p))) hp2 hS.2.1.1) lk_X6_37 mX6_advance rfl rfl (by decide) (Nat.le_of_ble_eq_true rfl) ?_
      intro M9 h9
      obtain ⟨kk, hT9⟩ := h9
      have hS := hS.adv hc kk hT9
      have fn := (congrFun (kk.1 (c + 2) (by omega)) _).trans fn
      have f3 := (congrFun (kk.1 (c + 3) (by omega)) _).trans f3
      refine p_aload_n 64 dX6_takeSleeper_63 rfl rfl (by decide) ?_
      refine p_ldcS 15 66 dX6_takeSleeper_64 rfl ?_
      refine p_callV1i 48 69 dX6_takeSleeper_66 (s_takeKeyword hn ht hc hp2 hS.w (i := 15) rfl (by decide)) lk_X6_179 mX6_takeKeyword rfl rfl (by decide) (Nat.le_of_ble_eq_true rfl) ?_
      intro b1 M9 hd
      have hb1 : 0 ≤ b1 ∧ b1 ≤ 1 := by
        rcases hd with ⟨-, h, -⟩ | ⟨-, h, -⟩ <;> omega
      refine p_if_eq 82 72 dX6_takeSleeper_69 (by omega) (by omega) (fun h69 => ?_) (fun h69 => ?_)
      · obtain ⟨hi0, -, hF⟩ := hd.resolve_left (fun g => by have := g.2.1; omega)
        have hz : q_lsleeper t n p ρ = .inl (1, (q_at t n (q_en t n (q_en t n p)) : Int)) := by
          unfold q_lsleeper
          rw [q_bindR_r hN]
          rw [if_neg hk0]
          rw [q_bindN_l (q_aft_l1 hi0)]
        refine p_iconst 83 dX6_takeSleeper_82 ?_
        refine p_zret dX6_takeSleeper_83 rfl (by decide) ?_
        exact ⟨_, rfl, PL.l hz hF⟩
      · obtain ⟨hi1, -, kk, hT9⟩ := hd.resolve_right (fun g => by have := g.2.1; omega)
        have hS := hS.adv hc kk hT9
        have fn := (congrFun (kk.1 (c + 2) (by omega)) _).trans fn
        have f3 := (congrFun (kk.1 (c + 3) (by omega)) _).trans f3
        refine p_aload_n 73 dX6_takeSleeper_72 rfl rfl (by decide) ?_
        refine p_iconst 74 dX6_takeSleeper_73 ?_
        refine p_bipush 76 dX6_takeSleeper_74 rfl ?_
        refine p_callV2i 48 79 dX6_takeSleeper_76 (s_isNumber hn ht hc hp3 hS.w (lo := 0) (hi := 9) (by decide) (by decide)) lk_X6_182 mX6_isNumber rfl rfl (by decide) (Nat.le_of_ble_eq_true rfl) ?_
        intro d1 M9 hd
        have hd1 : 0 ≤ d1 ∧ d1 ≤ 1 := by
          rcases hd with ⟨-, -, h, -⟩ | ⟨_, -, h, -⟩ <;> omega
        refine p_if_ne 84 82 dX6_takeSleeper_79 (by omega) (by omega) (fun h79 => ?_) (fun h79 => ?_)
        · obtain ⟨hn1, hk3, -, e9⟩ := hd.resolve_right (fun g => by obtain ⟨_, _, g, _⟩ := g; exact h79 g)
          have e9 := e9.symm
          subst e9
          have hA1 := q_aft_r hi1 hn1
          have hnb1 := q_nb_bd hp3 hk3
          refine p_aload_n 85 dX6_takeSleeper_84 rfl rfl (by omega) ?_
          refine p_getR (c + 1) 88 dX6_takeSleeper_85 fX6_207 (tt_1 hc) (wi_1_3 hc hS.1.1) ?_
          refine p_iload_n 89 dX6_takeSleeper_88 rfl rfl ?_
          refine p_aload_n 90 dX6_takeSleeper_89 rfl rfl (by decide) ?_
          refine p_getI 48 93 dX6_takeSleeper_90 fX6_80 rfl ?_
          rw [hS.2.1.2.2.2.2 hk3]
          refine p_iastn (c + 4) 94 (q_n ρ 2) dX6_takeSleeper_93 (tt_4 hc) (by omega) (by omega) ?_
          obtain ⟨hS, f4⟩ := hS.putf hc (k := 4) (j := q_n ρ 2) (v := q_nb t n (q_en t n (q_en t n (q_en t n p)))) (Or.inl ⟨by omega, by omega, by omega⟩)
          have fn := (zset_o (a := c + 4) (i := q_n ρ 2) (v := q_nb t n (q_en t n (q_en t n (q_en t n p)))) (Or.inl (by omega))).trans fn
          have f3 := (zset_o (a := c + 4) (i := q_n ρ 2) (v := q_nb t n (q_en t n (q_en t n (q_en t n p)))) (Or.inl (by omega))).trans f3
          refine p_aload_n 95 dX6_takeSleeper_94 rfl rfl (by decide) ?_
          refine p_callV0v 48 98 dX6_takeSleeper_95 (s_advance hn ht hS.1 (p := (q_en t n (q_en t n (q_en t n (q_en t n p))))) hp4 hS.2.1.1) lk_X6_37 mX6_advance rfl rfl (by decide) (Nat.le_of_ble_eq_true rfl) ?_
          intro M9 h9
          obtain ⟨kk, hT9⟩ := h9
          have hS := hS.adv hc kk hT9
          have fn := (congrFun (kk.1 (c + 2) (by omega)) _).trans fn
          have f3 := (congrFun (kk.1 (c + 3) (by omega)) _).trans f3
          have f4 := (congrFun (kk.1 (c + 4) (by omega)) _).trans f4
          refine p_aload_n 99 dX6_takeSleeper_98 rfl rfl (by decide) ?_
          refine p_ldcS 16 101 dX6_takeSleeper_99 rfl ?_
          refine p_callV1i 48 104 dX6_takeSleeper_101 (s_takeKeyword hn ht hc hp4 hS.w (i := 16) rfl (by decide)) lk_X6_179 mX6_takeKeyword rfl rfl (by decide) (Nat.le_of_ble_eq_true rfl) ?_
          intro b2 M9 hd
          have hb2 : 0 ≤ b2 ∧ b2 ≤ 1 := by
            rcases hd with ⟨-, h, -⟩ | ⟨-, h, -⟩ <;> omega
          refine p_if_eq 117 107 dX6_takeSleeper_104 (by omega) (by omega) (fun h104 => ?_) (fun h104 => ?_)
          · obtain ⟨hi0, -, hF⟩ := hd.resolve_left (fun g => by have := g.2.1; omega)
            have hz : q_lsleeper t n p ρ = .inl (1, (q_at t n (q_en t n (q_en t n (q_en t n (q_en t n p)))) : Int)) := by
              unfold q_lsleeper
              rw [q_bindR_r hN]
              rw [if_neg hk0]
              rw [q_bindN_r hA1]
              rw [q_bindN_l (q_aft_l1 hi0)]
            refine p_iconst 118 dX6_takeSleeper_117 ?_
            refine p_zret dX6_takeSleeper_118 rfl (by decide) ?_
            exact ⟨_, rfl, PL.l hz hF⟩
          · obtain ⟨hi2, -, kk, hT9⟩ := hd.resolve_right (fun g => by have := g.2.1; omega)
            have hS := hS.adv hc kk hT9
            have fn := (congrFun (kk.1 (c + 2) (by omega)) _).trans fn
            have f3 := (congrFun (kk.1 (c + 3) (by omega)) _).trans f3
            have f4 := (congrFun (kk.1 (c + 4) (by omega)) _).trans f4
            refine p_aload_n 108 dX6_takeSleeper_107 rfl rfl (by decide) ?_
            refine p_iconst 109 dX6_takeSleeper_108 ?_
            refine p_bipush 111 dX6_takeSleeper_109 rfl ?_
            refine p_callV2i 48 114 dX6_takeSleeper_111 (s_isNumber hn ht hc hp5 hS.w (lo := 1) (hi := 20) (by decide) (by decide)) lk_X6_182 mX6_isNumber rfl rfl (by decide) (Nat.le_of_ble_eq_true rfl) ?_
            intro d2 M9 hd
            have hd2 : 0 ≤ d2 ∧ d2 ≤ 1 := by
              rcases hd with ⟨-, -, h, -⟩ | ⟨_, -, h, -⟩ <;> omega
            refine p_if_ne 119 117 dX6_takeSleeper_114 (by omega) (by omega) (fun h114 => ?_) (fun h114 => ?_)
            · obtain ⟨hn2, hk4, -, e9⟩ := hd.resolve_right (fun g => by obtain ⟨_, _, g, _⟩ := g; exact h114 g)
              have e9 := e9.symm
              subst e9
              have hA2 := q_aft_r hi2 hn2
              have hnb2 := q_nb_bd hp5 hk4
              refine p_aload_n 120 dX6_takeSleeper_119 rfl rfl (by omega) ?_
              refine p_getR (c + 1) 123 dX6_takeSleeper_120 fX6_212 (tt_1 hc) (wi_1_4 hc hS.1.1) ?_
              refine p_iload_n 124 dX6_takeSleeper_123 rfl rfl ?_
              refine p_aload_n 125 dX6_takeSleeper_124 rfl rfl (by decide) ?_
              refine p_getI 48 128 dX6_takeSleeper_125 fX6_80 rfl ?_
              rw [hS.2.1.2.2.2.2 hk4]
              refine p_iastn (c + 5) 129 (q_n ρ 2) dX6_takeSleeper_128 (tt_5 hc) (by omega) (by omega) ?_
              obtain ⟨hS, f5⟩ := hS.putf hc (k := 5) (j := q_n ρ 2) (v := q_nb t n (q_en t n (q_en t n (q_en t n (q_en t n (q_en t n p)))))) (Or.inl ⟨by omega, by omega, by omega⟩)
              have fn := (zset_o (a := c + 5) (i := q_n ρ 2) (v := q_nb t n (q_en t n (q_en t n (q_en t n (q_en t n (q_en t n p)))))) (Or.inl (by omega))).trans fn
              have f3 := (zset_o (a := c + 5) (i := q_n ρ 2) (v := q_nb t n (q_en t n (q_en t n (q_en t n (q_en t n (q_en t n p)))))) (Or.inl (by omega))).trans f3
              have f4 := (zset_o (a := c + 5) (i := q_n ρ 2) (v := q_nb t n (q_en t n (q_en t n (q_en t n (q_en t n (q_en t n p)))))) (Or.inl (by omega))).trans f4
              refine p_aload_n 130 dX6_takeSleeper_129 rfl rfl (by decide) ?_
              refine p_callV0v 48 133 dX6_takeSleeper_130 (s_advance hn ht hS.1 (p := (q_en t n (q_en t n (q_en t n (q_en t n (q_en t n (q_en t n p))))))) hp6 hS.2.1.1) lk_X6_37 mX6_advance rfl rfl (by decide) (Nat.le_of_ble_eq_true rfl) ?_
              intro M9 h9
              obtain ⟨kk, hT9⟩ := h9
              have hS := hS.adv hc kk hT9
              have fn := (congrFun (kk.1 (c + 2) (by omega)) _).trans fn
              have f3 := (congrFun (kk.1 (c + 3) (by omega)) _).trans f3
              have f4 := (congrFun (kk.1 (c + 4) (by omega)) _).trans f4
              have f5 := (congrFun (kk.1 (c + 5) (by omega)) _).trans f5
              refine p_aload_n 134 dX6_takeSleeper_133 rfl rfl (by omega) ?_
              refine p_dupR 135 dX6_takeSleeper_134 ?_
              refine p_getI (c + 1) 138 dX6_takeSleeper_135 fX6_55 (tt_1 hc) ?_
              rw [hS.2.2.1.1.1.2.2.2.1]
              refine p_iconst 139 dX6_takeSleeper_138 ?_
              refine p_iadd 140 dX6_takeSleeper_139 ?_
              refine p_putI (c + 1) 143 dX6_takeSleeper_140 wX6_55 (tt_1 hc) ?_
              refine p_iconst 144 dX6_takeSleeper_143 ?_
              refine p_zret dX6_takeSleeper_144 rfl (by decide) ?_
              have hz : q_lsleeper t n p ρ = .inr ((q_en t n (q_en t n (q_en t n (q_en t n (q_en t n (q_en t n p)))))), q_up (q_up (q_up (q_up (q_nm t n p ρ (q_n ρ 2)) (8 + 3 * q_n ρ 2) (q_kind t n (q_en t n p))) (8 + 3 * q_n ρ 2 + 1) (q_nb t n (q_en t n (q_en t n (q_en t n p))))) (8 + 3 * q_n ρ 2 + 2) (q_nb t n (q_en t n (q_en t n (q_en t n (q_en t n (q_en t n p))))))) (2) (ρ 2 + 1)) := by
                unfold q_lsleeper
                rw [q_bindR_r hN]
                rw [if_neg hk0]
                rw [q_bindN_r hA1]
                rw [q_bindN_r hA2]
              refine ⟨_, rfl, PL.r hz (hS.grow2 hc hP hr ?_ ?_ ⟨?_, ?_, ?_, ?_⟩)⟩
              · exact q_up_at _ _ _
              · intro i hi
                rw [q_up_ne (by omega), q_up_ne (by omega), q_up_ne (by omega), q_up_ne (by omega), q_nm_ne (by omega) (by omega) (by omega)]
              · exact fn.trans ((q_nm_wd (by omega)).symm.trans (q_nmp_congr (ρ := q_nm t n p ρ (q_n ρ 2)) (by rw [q_nm_at (by omega)]; omega) (fun i hi => by rw [q_up_ne (by omega), q_up_ne (by omega), q_up_ne (by omega), q_up_ne (by omega)])).symm)
              · rw [q_up_ne (by omega), q_up_ne (by omega), q_up_ne (by omega), q_up_at]; exact f3
              · rw [q_up_ne (by omega), q_up_ne (by omega), q_up_at]; exact f4
              · rw [q_up_ne (by omega), q_up_at]; exact f5
            · obtain ⟨e, hq, -, hF⟩ := hd.resolve_left (fun g => by have := g.2.2.1; omega)
              have hz : q_lsleeper t n p ρ = .inl e := by
                unfold q_lsleeper
                rw [q_bindR_r hN]
                rw [if_neg hk0]
                rw [q_bindN_r hA1]
                rw [q_bindN_l (q_aft_l2 hi2 hq)]
              refine p_iconst 118 dX6_takeSleeper_117 ?_
              refine p_zret dX6_takeSleeper_118 rfl (by decide) ?_
              exact ⟨_, rfl, PL.l hz hF⟩
        · obtain ⟨e, hq, -, hF⟩ := hd.resolve_left (fun g => by have := g.2.2.1; omega)
          have hz : q_lsleeper t n p ρ = .inl e := by
            unfold q_lsleeper
            rw [q_bindR_r hN]
            rw [if_neg hk0]
            rw [q_bindN_l (q_aft_l2 hi1 hq)]
          refine p_iconst 83 dX6_takeSleeper_82 ?_
          refine p_zret dX6_takeSleeper_83 rfl (by decide) ?_
          exact ⟨_, rfl, PL.l hz hF⟩
    · have hz : q_lsleeper t n p ρ = .inl (1, (q_at t n (q_en t n p) : Int)) := by
        unfold q_lsleeper
        rw [q_bindR_r hN]
        rw [if_pos (by omega)]
      refine p_aload_n 47 dX6_takeSleeper_46 rfl rfl (by decide) ?_
      refine p_iconst 48 dX6_takeSleeper_47 ?_
      refine p_callV1i 48 51 dX6_takeSleeper_48 (s_failR hn ht hc hp1 hS.w) lk_X6_47 mX6_fail rfl rfl (by decide) (Nat.le_of_ble_eq_true rfl) ?_
      rintro _ M9 ⟨rfl, hF⟩
      refine p_zret dX6_takeSleeper_51 rfl (by decide) ?_
      exact ⟨_, rfl, PL.l hz hF⟩
  · obtain ⟨e, hq, -, hF⟩ := hd1.resolve_left (fun g => by have := g.2.2.2.1; omega)
    have hz : q_lsleeper t n p ρ = .inl e := by
      unfold q_lsleeper
      rw [q_bindR_l (hq _)]
    refine p_iconst 21 dX6_takeSleeper_20 ?_
    refine p_zret dX6_takeSleeper_21 rfl (by decide) ?_
    exact ⟨_, rfl, PL.l hz hF⟩
theorem s_takeHelper {l : Launch} {X : ZX} {M : ZM} {t : Nat → Int} {n c : Nat} (hn : n ≤ 900) (ht : ∀ i, i < n → 0 ≤ t i ∧ t i < 256) (hc : isC c) {p : Nat} (hp : p ≤ n) {ρ : Nat → Int} {N : ZM} (hS : RS t n c p ρ N M) (hP : PI ρ) (hr : ρ 3 < 3) : zCi l X 7 yX6_takeHelper tX6_takeHelper [zr 48] M (fun a M' => PL t n c N (q_lawake t n p ρ) a M') := by
  have hR := hP.1
  have e2 : ρ 2 = (q_n ρ 2 : Int) := hR.n (by decide)
  have e3 : ρ 3 = (q_n ρ 3 : Int) := hR.n (by decide)
  have e4 : ρ 4 = (q_n ρ 4 : Int) := hR.n (by decide)
  have e5 : ρ 5 = (q_n ρ 5 : Int) := hR.n (by decide)
  have e6 : ρ 6 = (q_n ρ 6 : Int) := hR.n (by decide)
  have e7 : ρ 7 = (q_n ρ 7 : Int) := hR.n (by decide)
  have hcl := hc.lt
  have hp1 := q_en_n t hp
  have hp2 := q_en_n t hp1
  have hp3 := q_en_n t hp2
  have hp4 := q_en_n t hp3
  have hp5 := q_en_n t hp4
  have hp6 := q_en_n t hp5
  have hp7 := q_en_n t hp6
  refine zC.of [some (zr 48), none, none] (by decide +kernel) rfl rfl (Nat.le_of_ble_eq_true rfl) rfl ?_
  refine p_aload_n 1 dX6_takeHelper_0 rfl rfl (by decide) ?_
  refine p_getR 48 4 dX6_takeHelper_1 fX6_19 rfl hS.1.2.2.2.1 ?_
  refine p_getR (c) 7 dX6_takeHelper_4 fX6_124 (tt_c hc) (wi_0_4 hc hS.1.1) ?_
  refine p_astore_n 8 dX6_takeHelper_7 rfl (Nat.le_of_ble_eq_true rfl) rfl (by omega) rfl ?_
  dsimp only [List.set]
  refine p_aload_n 9 dX6_takeHelper_8 rfl rfl (by omega) ?_
  refine p_getI (c + 6) 12 dX6_takeHelper_9 fX6_128 (tt_6 hc) ?_
  rw [hS.2.2.1.1.1.2.2.2.2.1, e3]
  refine p_istore_n 13 dX6_takeHelper_12 rfl (Nat.le_of_ble_eq_true rfl) rfl rfl ?_
  dsimp only [List.set]
  refine p_aload_n 14 dX6_takeHelper_13 rfl rfl (by decide) ?_
  refine p_callV0i 48 17 dX6_takeHelper_14 (s_isNewName hn ht hc hp hS hP) lk_X6_191 mX6_isNewName rfl rfl (by decide) (Nat.le_of_ble_eq_true rfl) ?_
  intro a1 M1 hd1
  have ha1 : 0 ≤ a1 ∧ a1 ≤ 1 := by
    rcases hd1 with ⟨-, -, -, h, -⟩ | ⟨_, -, h, -⟩ <;> omega
  refine p_if_ne 22 20 dX6_takeHelper_17 (by omega) (by omega) (fun h17 => ?_) (fun h17 => ?_)
  · obtain ⟨hk2, hnr, hnf, -, e9⟩ := hd1.resolve_right (fun g => by obtain ⟨_, _, g, _⟩ := g; exact h17 g)
    have e9 := e9.symm
    subst e9
    have hN : q_newn t n p ρ (7 + q_n ρ 3) = .inr (q_en t n p, q_nm t n p ρ (7 + q_n ρ 3)) := by
      unfold q_newn
      rw [if_neg (fun g => g.elim (fun g => g hk2) hnr), if_neg hnf]
    have hlw := q_tk_word hp hk2
    refine p_aload_n 23 dX6_takeHelper_22 rfl rfl (by omega) ?_
    refine p_getR (c + 6) 26 dX6_takeHelper_23 fX6_222 (tt_6 hc) (wi_6_1 hc hS.1.1) ?_
    refine p_iload_n 27 dX6_takeHelper_26 rfl rfl ?_
    refine p_aload_n 28 dX6_takeHelper_27 rfl rfl (by decide) ?_
    refine p_getJ 48 31 dX6_takeHelper_28 fX6_76 rfl ?_
    rw [hS.2.1.2.2.2.1 hk2]
    refine p_lastn (c + 7) 32 (q_n ρ 3) dX6_takeHelper_31 (tt_7 hc) (by omega) (by omega) ?_
    obtain ⟨hS, fn⟩ := hS.putf hc (k := 7) (j := q_n ρ 3) (v := q_wd t n p) (Or.inr (Or.inl ⟨by omega, by omega, by omega⟩))
    refine p_aload_n 33 dX6_takeHelper_32 rfl rfl (by decide) ?_
    refine p_callV0v 48 36 dX6_takeHelper_33 (s_advance hn ht hS.1 (p := (q_en t n p)) hp1 hS.2.1.1) lk_X6_37 mX6_advance rfl rfl (by decide) (Nat.le_of_ble_eq_true rfl) ?_
    intro M9 h9
    obtain ⟨kk, hT9⟩ := h9
    have hS := hS.adv hc kk hT9
    have fn := (congrFun (kk.1 (c + 7) (by omega)) _).trans fn
    refine p_aload_n 37 dX6_takeHelper_36 rfl rfl (by decide) ?_
    refine p_ldcS 15 39 dX6_takeHelper_37 rfl ?_
    refine p_callV1i 48 42 dX6_takeHelper_39 (s_takeKeyword hn ht hc hp1 hS.w (i := 15) rfl (by decide)) lk_X6_179 mX6_takeKeyword rfl rfl (by decide) (Nat.le_of_ble_eq_true rfl) ?_
    intro b1 M9 hd
    have hb1 : 0 ≤ b1 ∧ b1 ≤ 1 := by
      rcases hd with ⟨-, h, -⟩ | ⟨-, h, -⟩ <;> omega
    refine p_if_eq 55 45 dX6_takeHelper_42 (by omega) (by omega) (fun h42 => ?_) (fun h42 => ?_)
    · obtain ⟨hi0, -, hF⟩ := hd.resolve_left (fun g => by have := g.2.1; omega)
      have hz : q_lawake t n p ρ = .inl (1, (q_at t n (q_en t n p) : Int)) := by
        unfold q_lawake
        rw [q_bindR_r hN]
        rw [q_bindN_l (q_aft_l1 hi0)]
      refine p_iconst 56 dX6_takeHelper_55 ?_
      refine p_zret dX6_takeHelper_56 rfl (by decide) ?_
      exact ⟨_, rfl, PL.l hz hF⟩
    · obtain ⟨hi1, -, kk, hT9⟩ := hd.resolve_right (fun g => by have := g.2.1; omega)
      have hS := hS.adv hc kk hT9
      have fn := (congrFun (kk.1 (c + 7) (by omega)) _).trans fn
      refine p_aload_n 46 dX6_takeHelper_45 rfl rfl (by decide) ?_
      refine p_iconst 47 dX6_takeHelper_46 ?_
      refine p_bipush 49 dX6_takeHelper_47 rfl ?_
      refine p_callV2i 48 52 dX6_takeHelper_49 (s_isNumber hn ht hc hp2 hS.w (lo := 0) (hi := 9) (by decide) (by decide)) lk_X6_182 mX6_isNumber rfl rfl (by decide) (Nat.le_of_ble_eq_true rfl) ?_
      intro d1 M9 hd
      have hd1 : 0 ≤ d1 ∧ d1 ≤ 1 := by
        rcases hd with ⟨-, -, h, -⟩ | ⟨_, -, h, -⟩ <;> omega
      refine p_if_ne 57 55 dX6_takeHelper_52 (by omega) (by omega) (fun h52 => ?_) (fun h52 => ?_)
      · obtain ⟨hn1, hk3, -, e9⟩ := hd.resolve_right (fun g => by obtain ⟨_, _, g, _⟩ := g; exact h52 g)
        have e9 := e9.symm
        subst e9
        have hA1 := q_aft_r hi1 hn1
        have hnb1 := q_nb_bd hp2 hk3
        refine p_aload_n 58 dX6_takeHelper_57 rfl rfl (by omega) ?_
        refine p_getR (c + 6) 61 dX6_takeHelper_58 fX6_223 (tt_6 hc) (wi_6_2 hc hS.1.1) ?_
        refine p_iload_n 62 dX6_takeHelper_61 rfl rfl ?_
        refine p_aload_n 63 dX6_takeHelper_62 rfl rfl (by decide) ?_
        refine p_getI 48 66 dX6_takeHelper_63 fX6_80 rfl ?_
        rw [hS.2.1.2.2.2.2 hk3]
        refine p_iastn (c + 8) 67 (q_n ρ 3) dX6_takeHelper_66 (tt_8 hc) (by omega) (by omega) ?_
        obtain ⟨hS, f3⟩ := hS.putf hc (k := 8) (j := q_n ρ 3) (v := q_nb t n (q_en t n (q_en t n p))) (Or.inr (Or.inl ⟨by omega, by omega, by omega⟩))
        have fn := (zset_o (a := c + 8) (i := q_n ρ 3) (v := q_nb t n (q_en t n (q_en t n p))) (Or.inl (by omega))).trans fn
        refine p_aload_n 68 dX6_takeHelper_67 rfl rfl (by decide) ?_
        refine p_callV0v 48 71 dX6_takeHelper_68 (s_advance hn ht hS.1 (p := (q_en t n (q_en t n (q_en t n p)))) hp3 hS.2.1.1) lk_X6_37 mX6_advance rfl rfl (by decide) (Nat.le_of_ble_eq_true rfl) ?_
        intro M9 h9
        obtain ⟨kk, hT9⟩ := h9
        have hS := hS.adv hc kk hT9
        have fn := (congrFun (kk.1 (c + 7) (by omega)) _).trans fn
        have f3 := (congrFun (kk.1 (c + 8) (by omega)) _).trans f3
        refine p_aload_n 72 dX6_takeHelper_71 rfl rfl (by decide) ?_
        refine p_ldcS 17 74 dX6_takeHelper_72 rfl ?_
        refine p_callV1i 48 77 dX6_takeHelper_74 (s_takeKeyword hn ht hc hp3 hS.w (i := 17) rfl (by decide)) lk_X6_179 mX6_takeKeyword rfl rfl (by decide) (Nat.le_of_ble_eq_true rfl) ?_
        intro b2 M9 hd
        have hb2 : 0 ≤ b2 ∧ b2 ≤ 1 := by
          rcases hd with ⟨-, h, -⟩ | ⟨-, h, -⟩ <;> omega
        refine p_if_eq 89 80 dX6_takeHelper_77 (by omega) (by omega) (fun h77 => ?_) (fun h77 => ?_)
        · obtain ⟨hi0, -, hF⟩ := hd.resolve_left (fun g => by have := g.2.1; omega)
          have hz : q_lawake t n p ρ = .inl (1, (q_at t n (q_en t n (q_en t n (q_en t n p))) : Int)) := by
            unfold q_lawake
            rw [q_bindR_r hN]
            rw [q_bindN_r hA1]
            rw [q_bindN_l (q_aft_l1 hi0)]
          refine p_iconst 90 dX6_takeHelper_89 ?_
          refine p_zret dX6_takeHelper_90 rfl (by decide) ?_
          exact ⟨_, rfl, PL.l hz hF⟩
        · obtain ⟨hi2, -, kk, hT9⟩ := hd.resolve_right (fun g => by have := g.2.1; omega)
          have hS := hS.adv hc kk hT9
          have fn := (congrFun (kk.1 (c + 7) (by omega)) _).trans fn
          have f3 := (congrFun (kk.1 (c + 8) (by omega)) _).trans f3
          refine p_aload_n 81 dX6_takeHelper_80 rfl rfl (by decide) ?_
          refine p_iconst 82 dX6_takeHelper_81 ?_
          refine p_iconst 83 dX6_takeHelper_82 ?_
          refine p_callV2i 48 86 dX6_takeHelper_83 (s_isNumber hn ht hc hp4 hS.w (lo := 1) (hi := 4) (by decide) (by decide)) lk_X6_182 mX6_isNumber rfl rfl (by decide) (Nat.le_of_ble_eq_true rfl) ?_
          intro d2 M9 hd
          have hd2 : 0 ≤ d2 ∧ d2 ≤ 1 := by
            rcases hd with ⟨-, -, h, -⟩ | ⟨_, -, h, -⟩ <;> omega
          refine p_if_ne 91 89 dX6_takeHelper_86 (by omega) (by omega) (fun h86 => ?_) (fun h86 => ?_)
          · obtain ⟨hn2, hk4, -, e9⟩ := hd.resolve_right (fun g => by obtain ⟨_, _, g, _⟩ := g; exact h86 g)
            have e9 := e9.symm
            subst e9
            have hA2 := q_aft_r hi2 hn2
            have hnb2 := q_nb_bd hp4 hk4
            refine p_aload_n 92 dX6_takeHelper_91 rfl rfl (by omega) ?_
            refine p_getR (c + 6) 95 dX6_takeHelper_92 fX6_226 (tt_6 hc) (wi_6_3 hc hS.1.1) ?_
            refine p_iload_n 96 dX6_takeHelper_95 rfl rfl ?_
            refine p_aload_n 97 dX6_takeHelper_96 rfl rfl (by decide) ?_
            refine p_getI 48 100 dX6_takeHelper_97 fX6_80 rfl ?_
            rw [hS.2.1.2.2.2.2 hk4]
            refine p_iastn (c + 9) 101 (q_n ρ 3) dX6_takeHelper_100 (tt_9 hc) (by omega) (by omega) ?_
            obtain ⟨hS, f4⟩ := hS.putf hc (k := 9) (j := q_n ρ 3) (v := q_nb t n (q_en t n (q_en t n (q_en t n (q_en t n p))))) (Or.inr (Or.inl ⟨by omega, by omega, by omega⟩))
            have fn := (zset_o (a := c + 9) (i := q_n ρ 3) (v := q_nb t n (q_en t n (q_en t n (q_en t n (q_en t n p))))) (Or.inl (by omega))).trans fn
            have f3 := (zset_o (a := c + 9) (i := q_n ρ 3) (v := q_nb t n (q_en t n (q_en t n (q_en t n (q_en t n p))))) (Or.inl (by omega))).trans f3
            refine p_aload_n 102 dX6_takeHelper_101 rfl rfl (by decide) ?_
            refine p_callV0v 48 105 dX6_takeHelper_102 (s_advance hn ht hS.1 (p := (q_en t n (q_en t n (q_en t n (q_en t n (q_en t n p)))))) hp5 hS.2.1.1) lk_X6_37 mX6_advance rfl rfl (by decide) (Nat.le_of_ble_eq_true rfl) ?_
            intro M9 h9
            obtain ⟨kk, hT9⟩ := h9
            have hS := hS.adv hc kk hT9
            have fn := (congrFun (kk.1 (c + 7) (by omega)) _).trans fn
            have f3 := (congrFun (kk.1 (c + 8) (by omega)) _).trans f3
            have f4 := (congrFun (kk.1 (c + 9) (by omega)) _).trans f4
            refine p_aload_n 106 dX6_takeHelper_105 rfl rfl (by decide) ?_
            refine p_ldcS 18 108 dX6_takeHelper_106 rfl ?_
            refine p_callV1i 48 111 dX6_takeHelper_108 (s_takeKeyword hn ht hc hp5 hS.w (i := 18) rfl (by decide)) lk_X6_179 mX6_takeKeyword rfl rfl (by decide) (Nat.le_of_ble_eq_true rfl) ?_
            intro b3 M9 hd
            have hb3 : 0 ≤ b3 ∧ b3 ≤ 1 := by
              rcases hd with ⟨-, h, -⟩ | ⟨-, h, -⟩ <;> omega
            refine p_if_eq 124 114 dX6_takeHelper_111 (by omega) (by omega) (fun h111 => ?_) (fun h111 => ?_)
            · obtain ⟨hi0, -, hF⟩ := hd.resolve_left (fun g => by have := g.2.1; omega)
              have hz : q_lawake t n p ρ = .inl (1, (q_at t n (q_en t n (q_en t n (q_en t n (q_en t n (q_en t n p))))) : Int)) := by
                unfold q_lawake
                rw [q_bindR_r hN]
                rw [q_bindN_r hA1]
                rw [q_bindN_r hA2]
                rw [q_bindN_l (q_aft_l1 hi0)]
              refine p_iconst 125 dX6_takeHelper_124 ?_
              refine p_zret dX6_takeHelper_125 rfl (by decide) ?_
              exact ⟨_, rfl, PL.l hz hF⟩
            · obtain ⟨hi3, -, kk, hT9⟩ := hd.resolve_right (fun g => by have := g.2.1; omega)
              have hS := hS.adv hc kk hT9
              have fn := (congrFun (kk.1 (c + 7) (by omega)) _).trans fn
              have f3 := (congrFun (kk.1 (c + 8) (by omega)) _).trans f3
              have f4 := (congrFun (kk.1 (c + 9) (by omega)) _).trans f4
              refine p_aload_n 115 dX6_takeHelper_114 rfl rfl (by decide) ?_
              refine p_iconst 116 dX6_takeHelper_115 ?_
              refine p_bipush 118 dX6_takeHelper_116 rfl ?_
              refine p_callV2i 48 121 dX6_takeHelper_118 (s_isNumber hn ht hc hp6 hS.w (lo := 0) (hi := 9) (by decide) (by decide)) lk_X6_182 mX6_isNumber rfl rfl (by decide) (Nat.le_of_ble_eq_true rfl) ?_
              intro d3 M9 hd
              have hd3 : 0 ≤ d3 ∧ d3 ≤ 1 := by
                rcases hd with ⟨-, -, h, -⟩ | ⟨_, -, h, -⟩ <;> omega
              refine p_if_ne 126 124 dX6_takeHelper_121 (by omega) (by omega) (fun h121 => ?_) (fun h121 => ?_)
              · obtain ⟨hn3, hk5, -, e9⟩ := hd.resolve_right (fun g => by obtain ⟨_, _, g, _⟩ := g; exact h121 g)
                have e9 := e9.symm
                subst e9
                have hA3 := q_aft_r hi3 hn3
                have hnb3 := q_nb_bd hp6 hk5
                refine p_aload_n 127 dX6_takeHelper_126 rfl rfl (by omega) ?_
                refine p_getR (c + 6) 130 dX6_takeHelper_127 fX6_230 (tt_6 hc) (wi_6_4 hc hS.1.1) ?_
                refine p_iload_n 131 dX6_takeHelper_130 rfl rfl ?_
                refine p_aload_n 132 dX6_takeHelper_131 rfl rfl (by decide) ?_
                refine p_getI 48 135 dX6_takeHelper_132 fX6_80 rfl ?_
                rw [hS.2.1.2.2.2.2 hk5]
                refine p_iastn (c + 10) 136 (q_n ρ 3) dX6_takeHelper_135 (tt_10 hc) (by omega) (by omega) ?_
                obtain ⟨hS, f5⟩ := hS.putf hc (k := 10) (j := q_n ρ 3) (v := q_nb t n (q_en t n (q_en t n (q_en t n (q_en t n (q_en t n (q_en t n p))))))) (Or.inr (Or.inl ⟨by omega, by omega, by omega⟩))
                have fn := (zset_o (a := c + 10) (i := q_n ρ 3) (v := q_nb t n (q_en t n (q_en t n (q_en t n (q_en t n (q_en t n (q_en t n p))))))) (Or.inl (by omega))).trans fn
                have f3 := (zset_o (a := c + 10) (i := q_n ρ 3) (v := q_nb t n (q_en t n (q_en t n (q_en t n (q_en t n (q_en t n (q_en t n p))))))) (Or.inl (by omega))).trans f3
                have f4 := (zset_o (a := c + 10) (i := q_n ρ 3) (v := q_nb t n (q_en t n (q_en t n (q_en t n (q_en t n (q_en t n (q_en t n p))))))) (Or.inl (by omega))).trans f4
                refine p_aload_n 137 dX6_takeHelper_136 rfl rfl (by decide) ?_
                refine p_callV0v 48 140 dX6_takeHelper_137 (s_advance hn ht hS.1 (p := (q_en t n (q_en t n (q_en t n (q_en t n (q_en t n (q_en t n (q_en t n p)))))))) hp7 hS.2.1.1) lk_X6_37 mX6_advance rfl rfl (by decide) (Nat.le_of_ble_eq_true rfl) ?_
                intro M9 h9
                obtain ⟨kk, hT9⟩ := h9
                have hS := hS.adv hc kk hT9
                have fn := (congrFun (kk.1 (c + 7) (by omega)) _).trans fn
                have f3 := (congrFun (kk.1 (c + 8) (by omega)) _).trans f3
                have f4 := (congrFun (kk.1 (c + 9) (by omega)) _).trans f4
                have f5 := (congrFun (kk.1 (c + 10) (by omega)) _).trans f5
                refine p_aload_n 141 dX6_takeHelper_140 rfl rfl (by omega) ?_
                refine p_dupR 142 dX6_takeHelper_141 ?_
                refine p_getI (c + 6) 145 dX6_takeHelper_142 fX6_128 (tt_6 hc) ?_
                rw [hS.2.2.1.1.1.2.2.2.2.1]
                refine p_iconst 146 dX6_takeHelper_145 ?_
                refine p_iadd 147 dX6_takeHelper_146 ?_
                refine p_putI (c + 6) 150 dX6_takeHelper_147 wX6_128 (tt_6 hc) ?_
                refine p_iconst 151 dX6_takeHelper_150 ?_
                refine p_zret dX6_takeHelper_151 rfl (by decide) ?_
                have hz : q_lawake t n p ρ = .inr ((q_en t n (q_en t n (q_en t n (q_en t n (q_en t n (q_en t n (q_en t n p))))))), q_up (q_up (q_up (q_up (q_nm t n p ρ (7 + q_n ρ 3)) (29 + 3 * q_n ρ 3) (q_nb t n (q_en t n (q_en t n p)))) (29 + 3 * q_n ρ 3 + 1) (q_nb t n (q_en t n (q_en t n (q_en t n (q_en t n p)))))) (29 + 3 * q_n ρ 3 + 2) (q_nb t n (q_en t n (q_en t n (q_en t n (q_en t n (q_en t n (q_en t n p)))))))) (3) (ρ 3 + 1)) := by
                  unfold q_lawake
                  rw [q_bindR_r hN]
                  rw [q_bindN_r hA1]
                  rw [q_bindN_r hA2]
                  rw [q_bindN_r hA3]
                refine ⟨_, rfl, PL.r hz (hS.grow3 hc hP hr ?_ ?_ ⟨?_, ?_, ?_, ?_⟩)⟩
                · exact q_up_at _ _ _
                · intro i hi
                  rw [q_up_ne (by omega), q_up_ne (by omega), q_up_ne (by omega), q_up_ne (by omega), q_nm_ne (by omega) (by omega) (by omega)]
                · exact fn.trans ((q_nm_wd (by omega)).symm.trans (q_nmp_congr (ρ := q_nm t n p ρ (7 + q_n ρ 3)) (by rw [q_nm_at (by omega)]; omega) (fun i hi => by rw [q_up_ne (by omega), q_up_ne (by omega), q_up_ne (by omega), q_up_ne (by omega)])).symm)
                · rw [q_up_ne (by omega), q_up_ne (by omega), q_up_ne (by omega), q_up_at]; exact f3
                · rw [q_up_ne (by omega), q_up_ne (by omega), q_up_at]; exact f4
                · rw [q_up_ne (by omega), q_up_at]; exact f5
              · obtain ⟨e, hq, -, hF⟩ := hd.resolve_left (fun g => by have := g.2.2.1; omega)
                have hz : q_lawake t n p ρ = .inl e := by
                  unfold q_lawake
                  rw [q_bindR_r hN]
                  rw [q_bindN_r hA1]
                  rw [q_bindN_r hA2]
                  rw [q_bindN_l (q_aft_l2 hi3 hq)]
                refine p_iconst 125 dX6_takeHelper_124 ?_
                refine p_zret dX6_takeHelper_125 rfl (by decide) ?_
                exact ⟨_, rfl, PL.l hz hF⟩
          · obtain ⟨e, hq, -, hF⟩ := hd.resolve_left (fun g => by have := g.2.2.1; omega)
            have hz : q_lawake t n p ρ = .inl e := by
              unfold q_lawake
              rw [q_bindR_r hN]
              rw [q_bindN_r hA1]
              rw [q_bindN_l (q_aft_l2 hi2 hq)]
            refine p_iconst 90 dX6_takeHelper_89 ?_
            refine p_zret dX6_takeHelper_90 rfl (by decide) ?_
            exact ⟨_, rfl, PL.l hz hF⟩
      · obtain ⟨e, hq, -, hF⟩ := hd.resolve_left (fun g => by have := g.2.2.1; omega)
        have hz : q_lawake t n p ρ = .inl e := by
          unfold q_lawake
          rw [q_bindR_r hN]
          rw [q_bindN_l (q_aft_l2 hi1 hq)]
        refine p_iconst 56 dX6_takeHelper_55 ?_
        refine p_zret dX6_takeHelper_56 rfl (by decide) ?_
        exact ⟨_, rfl, PL.l hz hF⟩
  · obtain ⟨e, hq, -, hF⟩ := hd1.resolve_left (fun g => by have := g.2.2.2.1; omega)
    have hz : q_lawake t n p ρ = .inl e := by
      unfold q_lawake
      rw [q_bindR_l (hq _)]
    refine p_iconst 21 dX6_takeHelper_20 ?_
    refine p_zret dX6_takeHelper_21 rfl (by decide) ?_
    exact ⟨_, rfl, PL.l hz hF⟩
theorem q_ab0 {ρ : Nat → Int} (hr : ∀ k, k < 7 → q_n ρ (38 + 3 * k + 2) < 128) {w : Nat} (h : ρ (38 + 3 * w + 2) = 0) : q_ab (q_n ρ) w = 0 := by
  have e : q_row (q_n ρ) w = 0 := by
    unfold q_row q_n
    rw [h]
    rfl
  have h1 : q_sub (q_ab (q_n ρ) w) 0 := ab_least (by rw [e]; exact q_sub.rfl) (fun k _ hk => by rw [Nat.zero_testBit] at hk; cases hk)
  exact (q_sub.eq h1 (fun i hi => by rw [Nat.zero_testBit] at hi; cases hi))
theorem s_takeWordLine {l : Launch} {X : ZX} {M : ZM} {t : Nat → Int} {n c : Nat} (hn : n ≤ 900) (ht : ∀ i, i < n → 0 ≤ t i ∧ t i < 256) (hc : isC c) {p : Nat} (hp : p ≤ n) {ρ : Nat → Int} {N : ZM} (hS : RS t n c p ρ N M) (hP : PI ρ) (hr : ρ 4 < 7) : zCi l X 7 yX6_takeWordLine tX6_takeWordLine [zr 48] M (fun a M' => PL t n c N (q_lword t n p ρ) a M') := by
  have hR := hP.1
  have e2 : ρ 2 = (q_n ρ 2 : Int) := hR.n (by decide)
  have e3 : ρ 3 = (q_n ρ 3 : Int) := hR.n (by decide)
  have e4 : ρ 4 = (q_n ρ 4 : Int) := hR.n (by decide)
  have e5 : ρ 5 = (q_n ρ 5 : Int) := hR.n (by decide)
  have e6 : ρ 6 = (q_n ρ 6 : Int) := hR.n (by decide)
  have e7 : ρ 7 = (q_n ρ 7 : Int) := hR.n (by decide)
  have hcl := hc.lt
  have hp1 := q_en_n t hp
  have hp2 := q_en_n t hp1
  have hp3 := q_en_n t hp2
  have hp4 := q_en_n t hp3
  have hp5 := q_en_n t hp4
  refine zC.of [some (zr 48), none, none] (by decide +kernel) rfl rfl (Nat.le_of_ble_eq_true rfl) rfl ?_
  refine p_aload_n 1 dX6_takeWordLine_0 rfl rfl (by decide) ?_
  refine p_getR 48 4 dX6_takeWordLine_1 fX6_19 rfl hS.1.2.2.2.1 ?_
  refine p_getR (c) 7 dX6_takeWordLine_4 fX6_134 (tt_c hc) (wi_0_5 hc hS.1.1) ?_
  refine p_astore_n 8 dX6_takeWordLine_7 rfl (Nat.le_of_ble_eq_true rfl) rfl (by omega) rfl ?_
  dsimp only [List.set]
  refine p_aload_n 9 dX6_takeWordLine_8 rfl rfl (by omega) ?_
  refine p_getI (c + 11) 12 dX6_takeWordLine_9 fX6_138 (tt_11 hc) ?_
  rw [hS.2.2.1.1.1.2.2.2.2.2.1, e4]
  refine p_istore_n 13 dX6_takeWordLine_12 rfl (Nat.le_of_ble_eq_true rfl) rfl rfl ?_
  dsimp only [List.set]
  refine p_aload_n 14 dX6_takeWordLine_13 rfl rfl (by decide) ?_
  refine p_callV0i 48 17 dX6_takeWordLine_14 (s_isNewName hn ht hc hp hS hP) lk_X6_191 mX6_isNewName rfl rfl (by decide) (Nat.le_of_ble_eq_true rfl) ?_
  intro a1 M1 hd1
  have ha1 : 0 ≤ a1 ∧ a1 ≤ 1 := by
    rcases hd1 with ⟨-, -, -, h, -⟩ | ⟨_, -, h, -⟩ <;> omega
  refine p_if_ne 22 20 dX6_takeWordLine_17 (by omega) (by omega) (fun h17 => ?_) (fun h17 => ?_)
  · obtain ⟨hk2, hnr, hnf, -, e9⟩ := hd1.resolve_right (fun g => by obtain ⟨_, _, g, _⟩ := g; exact h17 g)
    have e9 := e9.symm
    subst e9
    have hN : q_newn t n p ρ (10 + q_n ρ 4) = .inr (q_en t n p, q_nm t n p ρ (10 + q_n ρ 4)) := by
      unfold q_newn
      rw [if_neg (fun g => g.elim (fun g => g hk2) hnr), if_neg hnf]
    have hlw := q_tk_word hp hk2
    refine p_aload_n 23 dX6_takeWordLine_22 rfl rfl (by omega) ?_
    refine p_getR (c + 11) 26 dX6_takeWordLine_23 fX6_232 (tt_11 hc) (wi_11_2 hc hS.1.1) ?_
    refine p_iload_n 27 dX6_takeWordLine_26 rfl rfl ?_
    refine p_aload_n 28 dX6_takeWordLine_27 rfl rfl (by decide) ?_
    refine p_getJ 48 31 dX6_takeWordLine_28 fX6_76 rfl ?_
    rw [hS.2.1.2.2.2.1 hk2]
    refine p_lastn (c + 12) 32 (q_n ρ 4) dX6_takeWordLine_31 (tt_12 hc) (by omega) (by omega) ?_
    obtain ⟨hS, fn⟩ := hS.putf hc (k := 12) (j := q_n ρ 4) (v := q_wd t n p) (Or.inr (Or.inr (Or.inl ⟨by omega, by omega, by omega⟩)))
    refine p_aload_n 33 dX6_takeWordLine_32 rfl rfl (by decide) ?_
    refine p_callV0v 48 36 dX6_takeWordLine_33 (s_advance hn ht hS.1 (p := (q_en t n p)) hp1 hS.2.1.1) lk_X6_37 mX6_advance rfl rfl (by decide) (Nat.le_of_ble_eq_true rfl) ?_
    intro M9 h9
    obtain ⟨kk, hT9⟩ := h9
    have hS := hS.adv hc kk hT9
    have fn := (congrFun (kk.1 (c + 12) (by omega)) _).trans fn
    refine p_aload_n 37 dX6_takeWordLine_36 rfl rfl (by decide) ?_
    refine p_ldcS 19 39 dX6_takeWordLine_37 rfl ?_
    refine p_callV1i 48 42 dX6_takeWordLine_39 (s_takeKeyword hn ht hc hp1 hS.w (i := 19) rfl (by decide)) lk_X6_179 mX6_takeKeyword rfl rfl (by decide) (Nat.le_of_ble_eq_true rfl) ?_
    intro b1 M9 hd
    have hb1 : 0 ≤ b1 ∧ b1 ≤ 1 := by
      rcases hd with ⟨-, h, -⟩ | ⟨-, h, -⟩ <;> omega
    refine p_if_eq 55 45 dX6_takeWordLine_42 (by omega) (by omega) (fun h42 => ?_) (fun h42 => ?_)
    · obtain ⟨hi0, -, hF⟩ := hd.resolve_left (fun g => by have := g.2.1; omega)
      have hz : q_lword t n p ρ = .inl (1, (q_at t n (q_en t n p) : Int)) := by
        unfold q_lword
        rw [q_bindR_r hN]
        rw [q_bindN_l (q_aft_l1 hi0)]
      refine p_iconst 56 dX6_takeWordLine_55 ?_
      refine p_zret dX6_takeWordLine_56 rfl (by decide) ?_
      exact ⟨_, rfl, PL.l hz hF⟩
    · obtain ⟨hi1, -, kk, hT9⟩ := hd.resolve_right (fun g => by have := g.2.1; omega)
      have hS := hS.adv hc kk hT9
      have fn := (congrFun (kk.1 (c + 12) (by omega)) _).trans fn
      refine p_aload_n 46 dX6_takeWordLine_45 rfl rfl (by decide) ?_
      refine p_iconst 47 dX6_takeWordLine_46 ?_
      refine p_bipush 49 dX6_takeWordLine_47 rfl ?_
      refine p_callV2i 48 52 dX6_takeWordLine_49 (s_isNumber hn ht hc hp2 hS.w (lo := 1) (hi := 99) (by decide) (by decide)) lk_X6_182 mX6_isNumber rfl rfl (by decide) (Nat.le_of_ble_eq_true rfl) ?_
      intro d1 M9 hd
      have hd1 : 0 ≤ d1 ∧ d1 ≤ 1 := by
        rcases hd with ⟨-, -, h, -⟩ | ⟨_, -, h, -⟩ <;> omega
      refine p_if_ne 57 55 dX6_takeWordLine_52 (by omega) (by omega) (fun h52 => ?_) (fun h52 => ?_)
      · obtain ⟨hn1, hk3, -, e9⟩ := hd.resolve_right (fun g => by obtain ⟨_, _, g, _⟩ := g; exact h52 g)
        have e9 := e9.symm
        subst e9
        have hA1 := q_aft_r hi1 hn1
        have hnb1 := q_nb_bd hp2 hk3
        refine p_aload_n 58 dX6_takeWordLine_57 rfl rfl (by omega) ?_
        refine p_getR (c + 11) 61 dX6_takeWordLine_58 fX6_235 (tt_11 hc) (wi_11_3 hc hS.1.1) ?_
        refine p_iload_n 62 dX6_takeWordLine_61 rfl rfl ?_
        refine p_aload_n 63 dX6_takeWordLine_62 rfl rfl (by decide) ?_
        refine p_getI 48 66 dX6_takeWordLine_63 fX6_80 rfl ?_
        rw [hS.2.1.2.2.2.2 hk3]
        refine p_iastn (c + 13) 67 (q_n ρ 4) dX6_takeWordLine_66 (tt_13 hc) (by omega) (by omega) ?_
        obtain ⟨hS, f3⟩ := hS.putf hc (k := 13) (j := q_n ρ 4) (v := q_nb t n (q_en t n (q_en t n p))) (Or.inr (Or.inr (Or.inl ⟨by omega, by omega, by omega⟩)))
        have fn := (zset_o (a := c + 13) (i := q_n ρ 4) (v := q_nb t n (q_en t n (q_en t n p))) (Or.inl (by omega))).trans fn
        refine p_aload_n 68 dX6_takeWordLine_67 rfl rfl (by decide) ?_
        refine p_callV0v 48 71 dX6_takeWordLine_68 (s_advance hn ht hS.1 (p := (q_en t n (q_en t n (q_en t n p)))) hp3 hS.2.1.1) lk_X6_37 mX6_advance rfl rfl (by decide) (Nat.le_of_ble_eq_true rfl) ?_
        intro M9 h9
        obtain ⟨kk, hT9⟩ := h9
        have hS := hS.adv hc kk hT9
        have fn := (congrFun (kk.1 (c + 12) (by omega)) _).trans fn
        have f3 := (congrFun (kk.1 (c + 13) (by omega)) _).trans f3
        refine p_aload_n 72 dX6_takeWordLine_71 rfl rfl (by decide) ?_
        refine p_ldcS 20 74 dX6_takeWordLine_72 rfl ?_
        refine p_callV1i 48 77 dX6_takeWordLine_74 (s_takeKeyword hn ht hc hp3 hS.w (i := 20) rfl (by decide)) lk_X6_179 mX6_takeKeyword rfl rfl (by decide) (Nat.le_of_ble_eq_true rfl) ?_
        intro b2 M9 hd
        have hb2 : 0 ≤ b2 ∧ b2 ≤ 1 := by
          rcases hd with ⟨-, h, -⟩ | ⟨-, h, -⟩ <;> omega
        refine p_if_eq 90 80 dX6_takeWordLine_77 (by omega) (by omega) (fun h77 => ?_) (fun h77 => ?_)
        · obtain ⟨hi0, -, hF⟩ := hd.resolve_left (fun g => by have := g.2.1; omega)
          have hz : q_lword t n p ρ = .inl (1, (q_at t n (q_en t n (q_en t n (q_en t n p))) : Int)) := by
            unfold q_lword
            rw [q_bindR_r hN]
            rw [q_bindN_r hA1]
            rw [q_bindN_l (q_aft_l1 hi0)]
          refine p_iconst 91 dX6_takeWordLine_90 ?_
          refine p_zret dX6_takeWordLine_91 rfl (by decide) ?_
          exact ⟨_, rfl, PL.l hz hF⟩
        · obtain ⟨hi2, -, kk, hT9⟩ := hd.resolve_right (fun g => by have := g.2.1; omega)
          have hS := hS.adv hc kk hT9
          have fn := (congrFun (kk.1 (c + 12) (by omega)) _).trans fn
          have f3 := (congrFun (kk.1 (c + 13) (by omega)) _).trans f3
          refine p_aload_n 81 dX6_takeWordLine_80 rfl rfl (by decide) ?_
          refine p_iconst 82 dX6_takeWordLine_81 ?_
          refine p_bipush 84 dX6_takeWordLine_82 rfl ?_
          refine p_callV2i 48 87 dX6_takeWordLine_84 (s_isNumber hn ht hc hp4 hS.w (lo := 1) (hi := 30) (by decide) (by decide)) lk_X6_182 mX6_isNumber rfl rfl (by decide) (Nat.le_of_ble_eq_true rfl) ?_
          intro d2 M9 hd
          have hd2 : 0 ≤ d2 ∧ d2 ≤ 1 := by
            rcases hd with ⟨-, -, h, -⟩ | ⟨_, -, h, -⟩ <;> omega
          refine p_if_ne 92 90 dX6_takeWordLine_87 (by omega) (by omega) (fun h87 => ?_) (fun h87 => ?_)
          · obtain ⟨hn2, hk4, -, e9⟩ := hd.resolve_right (fun g => by obtain ⟨_, _, g, _⟩ := g; exact h87 g)
            have e9 := e9.symm
            subst e9
            have hA2 := q_aft_r hi2 hn2
            have hnb2 := q_nb_bd hp4 hk4
            refine p_aload_n 93 dX6_takeWordLine_92 rfl rfl (by omega) ?_
            refine p_getR (c + 11) 96 dX6_takeWordLine_93 fX6_239 (tt_11 hc) (wi_11_4 hc hS.1.1) ?_
            refine p_iload_n 97 dX6_takeWordLine_96 rfl rfl ?_
            refine p_aload_n 98 dX6_takeWordLine_97 rfl rfl (by decide) ?_
            refine p_getI 48 101 dX6_takeWordLine_98 fX6_80 rfl ?_
            rw [hS.2.1.2.2.2.2 hk4]
            refine p_iastn (c + 14) 102 (q_n ρ 4) dX6_takeWordLine_101 (tt_14 hc) (by omega) (by omega) ?_
            obtain ⟨hS, f4⟩ := hS.putf hc (k := 14) (j := q_n ρ 4) (v := q_nb t n (q_en t n (q_en t n (q_en t n (q_en t n p))))) (Or.inr (Or.inr (Or.inl ⟨by omega, by omega, by omega⟩)))
            have fn := (zset_o (a := c + 14) (i := q_n ρ 4) (v := q_nb t n (q_en t n (q_en t n (q_en t n (q_en t n p))))) (Or.inl (by omega))).trans fn
            have f3 := (zset_o (a := c + 14) (i := q_n ρ 4) (v := q_nb t n (q_en t n (q_en t n (q_en t n (q_en t n p))))) (Or.inl (by omega))).trans f3
            refine p_aload_n 103 dX6_takeWordLine_102 rfl rfl (by decide) ?_
            refine p_callV0v 48 106 dX6_takeWordLine_103 (s_advance hn ht hS.1 (p := (q_en t n (q_en t n (q_en t n (q_en t n (q_en t n p)))))) hp5 hS.2.1.1) lk_X6_37 mX6_advance rfl rfl (by decide) (Nat.le_of_ble_eq_true rfl) ?_
            intro M9 h9
            obtain ⟨kk, hT9⟩ := h9
            have hS := hS.adv hc kk hT9
            have fn := (congrFun (kk.1 (c + 12) (by omega)) _).trans fn
            have f3 := (congrFun (kk.1 (c + 13) (by omega)) _).trans f3
            have f4 := (congrFun (kk.1 (c + 14) (by omega)) _).trans f4
            refine p_aload_n 107 dX6_takeWordLine_106 rfl rfl (by omega) ?_
            refine p_getR (c + 11) 110 dX6_takeWordLine_107 fX6_241 (tt_11 hc) (wi_11_5 hc hS.1.1) ?_
            refine p_iload_n 111 dX6_takeWordLine_110 rfl rfl ?_
            refine p_iconst 112 dX6_takeWordLine_111 ?_
            refine p_iastn (c + 15) 113 (q_n ρ 4) dX6_takeWordLine_112 (tt_15 hc) (by omega) (by omega) ?_
            obtain ⟨hS, f5⟩ := hS.putf hc (k := 15) (j := q_n ρ 4) (v := 0) (Or.inr (Or.inr (Or.inl ⟨by omega, by omega, by omega⟩)))
            have fn := (zset_o (a := c + 15) (i := q_n ρ 4) (v := 0) (Or.inl (by omega))).trans fn
            have f3 := (zset_o (a := c + 15) (i := q_n ρ 4) (v := 0) (Or.inl (by omega))).trans f3
            have f4 := (zset_o (a := c + 15) (i := q_n ρ 4) (v := 0) (Or.inl (by omega))).trans f4
            refine p_aload_n 114 dX6_takeWordLine_113 rfl rfl (by omega) ?_
            refine p_getR (c + 11) 117 dX6_takeWordLine_114 fX6_244 (tt_11 hc) (wi_11_6 hc hS.1.1) ?_
            refine p_iload_n 118 dX6_takeWordLine_117 rfl rfl ?_
            refine p_iconst 119 dX6_takeWordLine_118 ?_
            refine p_iastn (c + 16) 120 (q_n ρ 4) dX6_takeWordLine_119 (tt_16 hc) (by omega) (by omega) ?_
            obtain ⟨hS, f6⟩ := hS.putf hc (k := 16) (j := q_n ρ 4) (v := 0) (Or.inr (Or.inr (Or.inl ⟨by omega, by omega, by omega⟩)))
            have fn := (zset_o (a := c + 16) (i := q_n ρ 4) (v := 0) (Or.inl (by omega))).trans fn
            have f3 := (zset_o (a := c + 16) (i := q_n ρ 4) (v := 0) (Or.inl (by omega))).trans f3
            have f4 := (zset_o (a := c + 16) (i := q_n ρ 4) (v := 0) (Or.inl (by omega))).trans f4
            have f5 := (zset_o (a := c + 16) (i := q_n ρ 4) (v := 0) (Or.inl (by omega))).trans f5
            refine p_aload_n 121 dX6_takeWordLine_120 rfl rfl (by omega) ?_
            refine p_dupR 122 dX6_takeWordLine_121 ?_
            refine p_getI (c + 11) 125 dX6_takeWordLine_122 fX6_138 (tt_11 hc) ?_
            rw [hS.2.2.1.1.1.2.2.2.2.2.1]
            refine p_iconst 126 dX6_takeWordLine_125 ?_
            refine p_iadd 127 dX6_takeWordLine_126 ?_
            refine p_putI (c + 11) 130 dX6_takeWordLine_127 wX6_138 (tt_11 hc) ?_
            refine p_iconst 131 dX6_takeWordLine_130 ?_
            refine p_zret dX6_takeWordLine_131 rfl (by decide) ?_
            have hz : q_lword t n p ρ = .inr ((q_en t n (q_en t n (q_en t n (q_en t n (q_en t n p))))), q_up (q_up (q_up (q_nm t n p ρ (10 + q_n ρ 4)) (38 + 3 * q_n ρ 4) (q_nb t n (q_en t n (q_en t n p)))) (38 + 3 * q_n ρ 4 + 1) (q_nb t n (q_en t n (q_en t n (q_en t n (q_en t n p)))))) (4) (ρ 4 + 1)) := by
              unfold q_lword
              rw [q_bindR_r hN]
              rw [q_bindN_r hA1]
              rw [q_bindN_r hA2]
            refine ⟨_, rfl, PL.r hz (hS.grow4 hc hP hr ?_ ?_ ⟨?_, ?_, ?_, ?_, ?_⟩)⟩
            · exact q_up_at _ _ _
            · intro i hi
              rw [q_up_ne (by omega), q_up_ne (by omega), q_up_ne (by omega), q_nm_ne (by omega) (by omega) (by omega)]
            · exact fn.trans ((q_nm_wd (by omega)).symm.trans (q_nmp_congr (ρ := q_nm t n p ρ (10 + q_n ρ 4)) (by rw [q_nm_at (by omega)]; omega) (fun i hi => by rw [q_up_ne (by omega), q_up_ne (by omega), q_up_ne (by omega)])).symm)
            · rw [q_up_ne (by omega), q_up_ne (by omega), q_up_at]; exact f3
            · rw [q_up_ne (by omega), q_up_at]; exact f4
            · rw [q_up_ne (by omega), q_up_ne (by omega), q_up_ne (by omega), q_nm_ne (by omega) (by omega) (by omega), hP.2.2.2.2.2.2.2 (q_n ρ 4) (by omega) (by omega)]; exact f5
            · refine f6.trans ?_
              rw [ab_congr (r' := q_n ρ) (fun k hk => ?_) (by omega), q_ab0 (fun k => hP.1.ab k) (hP.2.2.2.2.2.2.2 (q_n ρ 4) (by omega) (by omega))]
              · rfl
              · unfold q_row q_n
                rw [q_up_ne (by omega), q_up_ne (by omega), q_up_ne (by omega), q_nm_ne (by omega) (by omega) (by omega)]
          · obtain ⟨e, hq, -, hF⟩ := hd.resolve_left (fun g => by have := g.2.2.1; omega)
            have hz : q_lword t n p ρ = .inl e := by
              unfold q_lword
              rw [q_bindR_r hN]
              rw [q_bindN_r hA1]
              rw [q_bindN_l (q_aft_l2 hi2 hq)]
            refine p_iconst 91 dX6_takeWordLine_90 ?_
            refine p_zret dX6_takeWordLine_91 rfl (by decide) ?_
            exact ⟨_, rfl, PL.l hz hF⟩
      · obtain ⟨e, hq, -, hF⟩ := hd.resolve_left (fun g => by have := g.2.2.1; omega)
        have hz : q_lword t n p ρ = .inl e := by
          unfold q_lword
          rw [q_bindR_r hN]
          rw [q_bindN_l (q_aft_l2 hi1 hq)]
        refine p_iconst 56 dX6_takeWordLine_55 ?_
        refine p_zret dX6_takeWordLine_56 rfl (by decide) ?_
        exact ⟨_, rfl, PL.l hz hF⟩
  · obtain ⟨e, hq, -, hF⟩ := hd1.resolve_left (fun g => by have := g.2.2.2.1; omega)
    have hz : q_lword t n p ρ = .inl e := by
      unfold q_lword
      rw [q_bindR_l (hq _)]
    refine p_iconst 21 dX6_takeWordLine_20 ?_
    refine p_zret dX6_takeWordLine_21 rfl (by decide) ?_
    exact ⟨_, rfl, PL.l hz hF⟩
