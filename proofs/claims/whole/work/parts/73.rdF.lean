/-! THE READER, the class's: orders, what was seen, the county's own line -/
theorem go_ldcwS {l : Launch} {X : ZX} {d : Nat} {mt : ZT} {pc : Nat} {L : List (Option ZV)} {S : List ZV} {M : ZM} {n : Nat} {out : Option ZV × Nat × ZM} {idx i : Nat} {tx : String} (hd : decode mt.2.1 pc = .ok (.ldc_w idx, 3)) (hk : zstr[i]? = some (mt.1, idx, tx)) (kk : zGo l X d mt (pc + 3) L (zr (1000 + (i : Int)) :: S) n M out) : zGo l X d mt pc L S n M out := by
  intro p e s m args below meth c B n0 H locs ls h1 h2 hR hS hL
  have hq := (B.2.2.2.2.2.2.2.1.2.2.2.1 i _ hk).1
  have k := kk p e s m args below meth c B n0 H locs ls h1 h2 hR hS hL
  rw [List.map_cons, pz_val_r X (by omega), pz_adr_s] at k
  intro T hT Y
  obtain ⟨t, a1, b1⟩ := k T hT Y
  exact ⟨t, Y.ldcStringW B.1 B.2.2.2.2.2.1 (text := tx) hq.1 hq.2 (g := F0 m pc ls _) rfl (by rw [B.2.1]; exact hd) t a1, b1⟩
theorem p_ldcwS {l : Launch} {X : ZX} {d : Nat} {mt : ZT} {pc : Nat} {L : List (Option ZV)} {S : List ZV} {M : ZM} {Q : Option ZV → ZM → Prop} {idx : Nat} {tx : String} (i : Nat) (q : Nat) (hd : decode mt.2.1 pc = .ok (.ldc_w idx, 3)) (hk : zstr[i]? = some (mt.1, idx, tx)) (kk : zP l X d mt q L (zr (1000 + (i : Int)) :: S) M Q) (hq : pc + 3 = q := by rfl) : zP l X d mt pc L S M Q := by
  subst hq
  obtain ⟨r, M9, h, g⟩ := kk
  exact ⟨r, M9, h, go_ldcwS hd hk g⟩
theorem if01_eq {p : Prop} [Decidable p] (h : (if p then (0 : Int) else 1) = 0) : p := by
  by_cases g : p
  · exact g
  · rw [if_neg g] at h; cases h
theorem if01_ne {p : Prop} [Decidable p] (h : ¬ (if p then (0 : Int) else 1) = 0) : ¬ p := fun g => h (if_pos g)
theorem if01_bd {p : Prop} [Decidable p] : 0 ≤ (if p then (0 : Int) else 1) ∧ (if p then (0 : Int) else 1) ≤ 1 := by
  split <;> omega
theorem q_tld_b (ρ : Nat → Int) : 0 ≤ q_tld ρ ∧ q_tld ρ ≤ 1 := by
  unfold q_tld
  split <;> omega
theorem q_tld_0 {ρ : Nat → Int} : q_tld ρ = 0 ↔ ρ 0 = 0 := by
  unfold q_tld
  split <;> omega
theorem RW.hd {t : Nat → Int} {n c p : Nat} {N M : ZM} {j : Nat} {v : Int} (hc : isC c) (h : RW t n c p N M) (hj : (0, j) ∈ [(0, 0), (0, 1), (0, 2), (1, 0), (6, 0), (11, 0), (11, 1), (17, 0), (17, 4)]) : RW t n c p N (zset M c j v) ∧ zset M c j v c j = v := ⟨RW.any (k := 0) hc h (by omega) (h.1.1.cnt (k := 0) hc hj), zset_at _ _ _ _⟩
theorem RS.told {t : Nat → Int} {n c p : Nat} {ρ : Nat → Int} {N M M' : ZM} {la sn : Int} (hS : RW t n c p N M') (h0 : ICr ρ c M) (hP : PI ρ) (hg : ∀ k, 1 ≤ k → k ≤ 22 → M' (c + k) = M (c + k)) (f0 : M' c 0 = 1) (f1 : M' c 1 = la) (f2 : M' c 2 = sn) (hla : 1 ≤ la) : RS t n c p (q_up (q_up ρ 1 sn) 0 la) N M' := by
  have hR := hP.1
  have b := hR.2.1
  have eo : ∀ i, 2 ≤ i → q_up (q_up ρ 1 sn) 0 la i = ρ i := fun i hi => by rw [q_up_ne (by omega), q_up_ne (by omega)]
  have o0 : q_up (q_up ρ 1 sn) 0 la 0 = la := q_up_at _ _ _
  have o1 : q_up (q_up ρ 1 sn) 0 la 1 = sn := by rw [q_up_ne (by omega), q_up_at]
  refine RS.of hS (ICr_iff.mpr ?_)
  obtain ⟨⟨a0, a1, a2, a3, a4, a5, a6, a7, a8⟩, h2, h3, h4, h6, h7⟩ := ICr_iff.mp h0
  refine ⟨⟨?_, ?_, ?_, ?_, ?_, ?_, ?_, ?_, ?_⟩, fun s hs => ?_, fun s hs => ?_, fun s hs => ?_, fun s hs => ?_, fun s hs => ?_⟩
  · rw [f0]
    unfold q_tld
    rw [o0, if_neg (by omega)]
  · rw [f1, o0]
  · rw [f2, o1]
  · rw [hg 1 (by omega) (by omega), eo 2 (by omega)]; exact a3
  · rw [hg 6 (by omega) (by omega), eo 3 (by omega)]; exact a4
  · rw [hg 11 (by omega) (by omega), eo 4 (by omega)]; exact a5
  · rw [hg 11 (by omega) (by omega), eo 5 (by omega)]; exact a6
  · rw [hg 17 (by omega) (by omega), eo 6 (by omega)]; exact a7
  · rw [hg 17 (by omega) (by omega), eo 7 (by omega)]; exact a8
  · rw [eo 2 (by omega)] at hs
    exact (h2 s hs).congr (hP.2.2.1 s (by omega)).1 (fun k k1 k2 => congrFun (hg k (by omega) (by omega)) _) (fun i hi => eo i (by omega))
  · rw [eo 3 (by omega)] at hs
    exact (h3 s hs).congr (hP.2.2.1 (7 + s) (by omega)).1 (fun k k1 k2 => congrFun (hg k (by omega) (by omega)) _) (fun i hi => eo i (by omega))
  · rw [eo 4 (by omega)] at hs
    exact (h4 s hs).congr (by omega) (hP.2.2.1 (10 + s) (by omega)).1 (fun k k1 k2 => congrFun (hg k (by omega) (by omega)) _) (fun i hi => eo i (by omega)) (fun k hk => eo _ (by omega))
  · rw [eo 6 (by omega)] at hs
    exact (h6 s hs).congr (hR.2.2.2.2.2.1 s (by omega)).2.1.1 (hR.2.2.2.2.2.1 s (by omega)).2.2.1 (fun k k1 k2 => congrFun (hg k (by omega) (by omega)) _) (fun i hi => eo i (by omega))
  · rw [eo 7 (by omega)] at hs
    exact (h7 s hs).congr (hR.2.2.2.2.2.2 s (by omega)).2.1.1 (hR.2.2.2.2.2.2 s (by omega)).2.2.1 (fun k k1 k2 => congrFun (hg k (by omega) (by omega)) _) (fun i hi => eo i (by omega))
theorem l_hasRank {l : Launch} {X : ZX} {M : ZM} {c : Nat} (hc : isC c) (hW : zWc M) {n : Nat} {g kf : Nat → Int} (hn : M (c + 17) 0 = (n : Int)) (hn6 : n ≤ 6) (hg : ∀ k, k < n → M (c + 18) k = g k) (hgb : ∀ k, k < n → 0 ≤ g k ∧ g k < 1099511627776) (hk : ∀ k, k < n → M (c + 20) k = kf k) (hkb : ∀ k, k < n → 0 ≤ kf k ∧ kf k ≤ 9) {sh : Int} (hsh : 0 ≤ sh ∧ sh < 1099511627776) {rk : Int} (hrk : 0 ≤ rk ∧ rk ≤ 1000) : ∀ (j i : Nat), i + j = n → q_all (fun k => !(decide (kf k = rk) && decide (g k = sh))) i = true → zP l X 0 tX4_hasRank 3 [some (zr ((c + 17 : Nat) : Int)), some (zl sh), none, some (zi rk), some (zi (i : Int))] [] M (fun r M' => ∃ a, r = some (zi a) ∧ (a = (if q_all (fun k => !(decide (kf k = rk) && decide (g k = sh))) n = true then 0 else 1) ∧ M' = M)) := by
  have hcl := hc.lt
  intro j
  induction j with
  | zero =>
    intro i hi hv
    refine p_iload 5 dX4_hasRank_3 rfl ?_
    refine p_aload_n 6 dX4_hasRank_5 rfl rfl (by omega) ?_
    refine p_getI (c + 17) 9 dX4_hasRank_6 fX4_28 (tt_17 hc) ?_
    rw [hn]
    refine p_icmp_ge 43 12 dX4_hasRank_9 (by omega) (by omega) (by omega) (by omega) (fun h9 => ?_) (fun h9 => absurd (by omega) (fun h9 : False => h9))
    refine p_iconst 44 dX4_hasRank_43 ?_
    refine p_zret dX4_hasRank_44 rfl (by decide) ?_
    rw [show i = n by omega] at hv
    exact ⟨_, rfl, by rw [if_pos hv], rfl⟩
  | succ j ih =>
    intro i hi hv
    refine p_iload 5 dX4_hasRank_3 rfl ?_
    refine p_aload_n 6 dX4_hasRank_5 rfl rfl (by omega) ?_
    refine p_getI (c + 17) 9 dX4_hasRank_6 fX4_28 (tt_17 hc) ?_
    rw [hn]
    refine p_icmp_ge 43 12 dX4_hasRank_9 (by omega) (by omega) (by omega) (by omega) (fun h9 => absurd (by omega) (fun h9 : False => h9)) (fun h9 => ?_)
    refine p_aload_n 13 dX4_hasRank_12 rfl rfl (by omega) ?_
    refine p_getR (c + 17) 16 dX4_hasRank_13 fX4_9 (tt_17 hc) (wi_17_1 hc hW) ?_
    refine p_iload 18 dX4_hasRank_16 rfl ?_
    refine p_laldn (c + 18) 19 (i) dX4_hasRank_18 (tt_18 hc) (by omega) (by omega) ?_
    rw [hg i (by omega)]
    have zc := z_lc (hgb i (by omega)) hsh
    refine p_lload_n 20 dX4_hasRank_19 rfl rfl ?_
    refine p_lcmp 21 dX4_hasRank_20 ?_
    refine p_if_ne 37 24 dX4_hasRank_21 (by omega) (by omega) (fun h21 => ?_) (fun h21 => ?_)
    · have hx : (decide (kf i = rk) && decide (g i = sh)) = false := by rw [decide_eq_false (p := g i = sh) (fun g9 => h21 (zc.1.mpr g9)), Bool.and_false]
      refine p_iinc 40 dX4_hasRank_37 rfl rfl rfl ?_
      dsimp only [List.set]
      refine p_goto 3 dX4_hasRank_40 ?_
      refine ih (i + 1) (by omega) ?_
      rw [q_all_succ, hv, Bool.true_and]
      show (!(decide (kf i = rk) && decide (g i = sh))) = true
      rw [hx]
      rfl
    · refine p_aload_n 25 dX4_hasRank_24 rfl rfl (by omega) ?_
      refine p_getR (c + 17) 28 dX4_hasRank_25 fX4_18 (tt_17 hc) (wi_17_3 hc hW) ?_
      refine p_iload 30 dX4_hasRank_28 rfl ?_
      refine p_ialdn (c + 20) 31 (i) dX4_hasRank_30 (tt_20 hc) (by omega) (by omega) ?_
      rw [hk i (by omega)]
      have hkb9 := hkb i (by omega)
      refine p_iload_n 32 dX4_hasRank_31 rfl rfl ?_
      refine p_icmp_ne 37 35 dX4_hasRank_32 (by omega) (by omega) (by omega) (by omega) (fun h32 => ?_) (fun h32 => ?_)
      · have hx : (decide (kf i = rk) && decide (g i = sh)) = false := by rw [decide_eq_false (p := kf i = rk) h32, Bool.false_and]
        refine p_iinc 40 dX4_hasRank_37 rfl rfl rfl ?_
        dsimp only [List.set]
        refine p_goto 3 dX4_hasRank_40 ?_
        refine ih (i + 1) (by omega) ?_
        rw [q_all_succ, hv, Bool.true_and]
        show (!(decide (kf i = rk) && decide (g i = sh))) = true
        rw [hx]
        rfl
      · refine p_iconst 36 dX4_hasRank_35 ?_
        refine p_zret dX4_hasRank_36 rfl (by decide) ?_
        refine ⟨_, rfl, ?_, rfl⟩
        rw [if_neg]
        intro g9
        have g8 := q_all_iff.mp g9 i (by omega)
        rw [decide_eq_true (p := kf i = rk) (by omega), decide_eq_true (p := g i = sh) (zc.1.mp (by omega))] at g8
        cases g8
theorem s_hasRank {l : Launch} {X : ZX} {M : ZM} {c : Nat} (hc : isC c) (hW : zWc M) {n : Nat} {g kf : Nat → Int} (hn : M (c + 17) 0 = (n : Int)) (hn6 : n ≤ 6) (hg : ∀ k, k < n → M (c + 18) k = g k) (hgb : ∀ k, k < n → 0 ≤ g k ∧ g k < 1099511627776) (hk : ∀ k, k < n → M (c + 20) k = kf k) (hkb : ∀ k, k < n → 0 ≤ kf k ∧ kf k ≤ 9) {sh : Int} (hsh : 0 ≤ sh ∧ sh < 1099511627776) {rk : Int} (hrk : 0 ≤ rk ∧ rk ≤ 1000) : zCi l X 0 yX4_hasRank tX4_hasRank [zr ((c + 17 : Nat) : Int), zl sh, zi rk] M (fun a M' => a = (if q_all (fun k => !(decide (kf k = rk) && decide (g k = sh))) n = true then 0 else 1) ∧ M' = M) := by
  refine zC.of [some (zr ((c + 17 : Nat) : Int)), some (zl sh), none, some (zi rk), none] (by decide +kernel) rfl rfl (Nat.le_of_ble_eq_true rfl) rfl ?_
  refine p_iconst 1 dX4_hasRank_0 ?_
  refine p_istore 3 dX4_hasRank_1 (Nat.le_of_ble_eq_true rfl) rfl rfl ?_
  dsimp only [List.set]
  exact l_hasRank hc hW hn hn6 hg hgb hk hkb hsh hrk n 0 (Nat.zero_add _) rfl
theorem s_takeOrder {l : Launch} {X : ZX} {M : ZM} {t : Nat → Int} {n c : Nat} (hn : n ≤ 900) (ht : ∀ i, i < n → 0 ≤ t i ∧ t i < 256) (hc : isC c) {p : Nat} (hp : p ≤ n) {ρ : Nat → Int} {N : ZM} (hS : RS t n c p ρ N M) (hP : PI ρ) (hr : ρ 6 < 6) : zCi l X 7 yX6_takeOrder tX6_takeOrder [zr 48] M (fun a M' => PL t n c N (q_lorder t n p ρ) a M') := by
  have hR := hP.1
  have e2 : ρ 2 = (q_n ρ 2 : Int) := hR.n (by decide)
  have e3 : ρ 3 = (q_n ρ 3 : Int) := hR.n (by decide)
  have e4 : ρ 4 = (q_n ρ 4 : Int) := hR.n (by decide)
  have e5 : ρ 5 = (q_n ρ 5 : Int) := hR.n (by decide)
  have e6 : ρ 6 = (q_n ρ 6 : Int) := hR.n (by decide)
  have e7 : ρ 7 = (q_n ρ 7 : Int) := hR.n (by decide)
  have hcl := hc.lt
  have hp1 := q_en_n t hp
  have hp2 := q_en_n t hp1
  have hp3 := q_en_n t hp2
  have hp4 := q_en_n t hp3
  have hp5 := q_en_n t hp4
  have hsg : ∀ k, k < 6 → 0 ≤ q_sg ρ k ∧ q_sg ρ k < 1099511627776 := fun k hk => q_sg_bd hR hk
  refine zC.of [some (zr 48), none, none] (by decide +kernel) rfl rfl (Nat.le_of_ble_eq_true rfl) rfl ?_
  refine p_aload_n 1 dX6_takeOrder_0 rfl rfl (by decide) ?_
  refine p_getR 48 4 dX6_takeOrder_1 fX6_19 rfl hS.1.2.2.2.1 ?_
  refine p_getR (c) 7 dX6_takeOrder_4 fX6_150 (tt_c hc) (wi_0_6 hc hS.1.1) ?_
  refine p_astore_n 8 dX6_takeOrder_7 rfl (Nat.le_of_ble_eq_true rfl) rfl (by omega) rfl ?_
  dsimp only [List.set]
  refine p_aload_n 9 dX6_takeOrder_8 rfl rfl (by omega) ?_
  refine p_getI (c + 17) 12 dX6_takeOrder_9 fX6_154 (tt_17 hc) ?_
  rw [hS.2.2.1.1.1.2.2.2.2.2.2.2.1, e6]
  refine p_istore_n 13 dX6_takeOrder_12 rfl (Nat.le_of_ble_eq_true rfl) rfl rfl ?_
  dsimp only [List.set]
  refine p_aload_n 14 dX6_takeOrder_13 rfl rfl (by decide) ?_
  refine p_getI 48 17 dX6_takeOrder_14 fX6_44 rfl ?_
  rw [hS.2.1.2.2.1]
  have hsr := q_srt_bd (q_tk t n p)
  refine p_iconst 18 dX6_takeOrder_17 ?_
  refine p_icmp_eq 27 21 dX6_takeOrder_18 (by omega) (by omega) (by decide) (by decide) (fun h18 => ?_) (fun h18 => ?_)
  · have hka : q_tk t n p = 2 := q_srt1.mp h18
    have hlwa := q_tk_word hp hka
    have hwba := q_wd_bd hp hka
    refine p_aload_n 28 dX6_takeOrder_27 rfl rfl (by omega) ?_
    refine p_getR (c + 17) 31 dX6_takeOrder_28 fX6_261 (tt_17 hc) (wi_17_1 hc hS.1.1) ?_
    refine p_iload_n 32 dX6_takeOrder_31 rfl rfl ?_
    refine p_aload_n 33 dX6_takeOrder_32 rfl rfl (by decide) ?_
    refine p_getJ 48 36 dX6_takeOrder_33 fX6_76 rfl ?_
    rw [hS.2.1.2.2.2.1 hka]
    refine p_lastn (c + 18) 37 (q_n ρ 6) dX6_takeOrder_36 (tt_18 hc) (by omega) (by omega) ?_
    obtain ⟨hS, fs⟩ := hS.putf hc (k := 18) (j := q_n ρ 6) (v := q_wd t n p) (Or.inr (Or.inr (Or.inr (Or.inl ⟨by omega, by omega, by omega⟩))))
    refine p_aload_n 38 dX6_takeOrder_37 rfl rfl (by decide) ?_
    refine p_callV0v 48 41 dX6_takeOrder_38 (s_advance hn ht hS.1 (p := (q_en t n p)) hp1 hS.2.1.1) lk_X6_37 mX6_advance rfl rfl (by decide) (Nat.le_of_ble_eq_true rfl) ?_
    intro M9 h9
    obtain ⟨kk, hT9⟩ := h9
    have hS := hS.adv hc kk hT9
    have fs := (congrFun (kk.1 (c + 18) (by omega)) _).trans fs
    refine p_aload_n 42 dX6_takeOrder_41 rfl rfl (by decide) ?_
    refine p_ldcS 9 44 dX6_takeOrder_42 rfl ?_
    refine p_callV1i 48 47 dX6_takeOrder_44 (s_takeKeyword hn ht hc hp1 hS.w (i := 9) rfl (by decide)) lk_X6_179 mX6_takeKeyword rfl rfl (by decide) (Nat.le_of_ble_eq_true rfl) ?_
    intro b1 M9 hd
    have hb1 : 0 ≤ b1 ∧ b1 ≤ 1 := by
      rcases hd with ⟨-, h, -⟩ | ⟨-, h, -⟩ <;> omega
    refine p_if_ne 52 50 dX6_takeOrder_47 (by omega) (by omega) (fun h47 => ?_) (fun h47 => ?_)
    · obtain ⟨hi1, -, kk, hT9⟩ := hd.resolve_right (fun g => by have := g.2.1; omega)
      have hS := hS.adv hc kk hT9
      have fs := (congrFun (kk.1 (c + 18) (by omega)) _).trans fs
      refine p_aload_n 53 dX6_takeOrder_52 rfl rfl (by decide) ?_
      refine p_getI 48 56 dX6_takeOrder_53 fX6_44 rfl ?_
      rw [hS.2.1.2.2.1]
      have hsr := q_srt_bd (q_tk t n (q_en t n (q_en t n p)))
      refine p_iconst 57 dX6_takeOrder_56 ?_
      refine p_icmp_eq 66 60 dX6_takeOrder_57 (by omega) (by omega) (by decide) (by decide) (fun h57 => ?_) (fun h57 => ?_)
      · have hkb : q_tk t n (q_en t n (q_en t n p)) = 2 := q_srt1.mp h57
        have hlwb := q_tk_word hp2 hkb
        have hwbb := q_wd_bd hp2 hkb
        refine p_aload_n 67 dX6_takeOrder_66 rfl rfl (by omega) ?_
        refine p_getR (c + 17) 70 dX6_takeOrder_67 fX6_264 (tt_17 hc) (wi_17_2 hc hS.1.1) ?_
        refine p_iload_n 71 dX6_takeOrder_70 rfl rfl ?_
        refine p_aload_n 72 dX6_takeOrder_71 rfl rfl (by decide) ?_
        refine p_getJ 48 75 dX6_takeOrder_72 fX6_76 rfl ?_
        rw [hS.2.1.2.2.2.1 hkb]
        refine p_lastn (c + 19) 76 (q_n ρ 6) dX6_takeOrder_75 (tt_19 hc) (by omega) (by omega) ?_
        obtain ⟨hS, fd⟩ := hS.putf hc (k := 19) (j := q_n ρ 6) (v := q_wd t n (q_en t n (q_en t n p))) (Or.inr (Or.inr (Or.inr (Or.inl ⟨by omega, by omega, by omega⟩))))
        have fs := (zset_o (a := c + 19) (i := q_n ρ 6) (v := q_wd t n (q_en t n (q_en t n p))) (Or.inl (by omega))).trans fs
        refine p_aload_n 77 dX6_takeOrder_76 rfl rfl (by decide) ?_
        refine p_callV0v 48 80 dX6_takeOrder_77 (s_advance hn ht hS.1 (p := (q_en t n (q_en t n (q_en t n p)))) hp3 hS.2.1.1) lk_X6_37 mX6_advance rfl rfl (by decide) (Nat.le_of_ble_eq_true rfl) ?_
        intro M9 h9
        obtain ⟨kk, hT9⟩ := h9
        have hS := hS.adv hc kk hT9
        have fs := (congrFun (kk.1 (c + 18) (by omega)) _).trans fs
        have fd := (congrFun (kk.1 (c + 19) (by omega)) _).trans fd
        refine p_aload_n 81 dX6_takeOrder_80 rfl rfl (by decide) ?_
        refine p_ldcwS 21 84 dX6_takeOrder_81 rfl ?_
        refine p_callV1i 48 87 dX6_takeOrder_84 (s_takeKeyword hn ht hc hp3 hS.w (i := 21) rfl (by decide)) lk_X6_179 mX6_takeKeyword rfl rfl (by decide) (Nat.le_of_ble_eq_true rfl) ?_
        intro b2 M9 hd
        have hb2 : 0 ≤ b2 ∧ b2 ≤ 1 := by
          rcases hd with ⟨-, h, -⟩ | ⟨-, h, -⟩ <;> omega
        refine p_if_eq 100 90 dX6_takeOrder_87 (by omega) (by omega) (fun h87 => ?_) (fun h87 => ?_)
        · obtain ⟨hi0, -, hF⟩ := hd.resolve_left (fun g => by have := g.2.1; omega)
          have hz : q_lorder t n p ρ = .inl (1, (q_at t n (q_en t n (q_en t n (q_en t n p))) : Int)) := by
            unfold q_lorder
            dsimp only
            rw [if_neg (fun g => g hka)]
            rw [if_neg (by rw [hi1]; decide)]
            rw [if_neg (fun g => g hkb)]
            rw [if_pos hi0]
          refine p_iconst 101 dX6_takeOrder_100 ?_
          refine p_zret dX6_takeOrder_101 rfl (by decide) ?_
          exact ⟨_, rfl, PL.l hz hF⟩
        · obtain ⟨hi2, -, kk, hT9⟩ := hd.resolve_right (fun g => by have := g.2.1; omega)
          have hS := hS.adv hc kk hT9
          have fs := (congrFun (kk.1 (c + 18) (by omega)) _).trans fs
          have fd := (congrFun (kk.1 (c + 19) (by omega)) _).trans fd
          refine p_aload_n 91 dX6_takeOrder_90 rfl rfl (by decide) ?_
          refine p_iconst 92 dX6_takeOrder_91 ?_
          refine p_bipush 94 dX6_takeOrder_92 rfl ?_
          refine p_callV2i 48 97 dX6_takeOrder_94 (s_isNumber hn ht hc hp4 hS.w (lo := 1) (hi := 9) (by decide) (by decide)) lk_X6_182 mX6_isNumber rfl rfl (by decide) (Nat.le_of_ble_eq_true rfl) ?_
          intro d3 M9 hd
          have hd3 : 0 ≤ d3 ∧ d3 ≤ 1 := by
            rcases hd with ⟨-, -, h, -⟩ | ⟨_, -, h, -⟩ <;> omega
          refine p_if_ne 102 100 dX6_takeOrder_97 (by omega) (by omega) (fun h97 => ?_) (fun h97 => ?_)
          · obtain ⟨hn3, hk5, -, e9⟩ := hd.resolve_right (fun g => by obtain ⟨_, _, g, _⟩ := g; exact h97 g)
            have e9 := e9.symm
            subst e9
            have hnb3 := q_nb_bd hp4 hk5
            obtain ⟨-, -, -, -, h6, -⟩ := ICr_iff.mp hS.2.2.1
            refine p_aload_n 103 dX6_takeOrder_102 rfl rfl (by omega) ?_
            refine p_aload_n 104 dX6_takeOrder_103 rfl rfl (by omega) ?_
            refine p_getR (c + 17) 107 dX6_takeOrder_104 fX6_261 (tt_17 hc) (wi_17_1 hc hS.1.1) ?_
            refine p_iload_n 108 dX6_takeOrder_107 rfl rfl ?_
            refine p_laldn (c + 18) 109 (q_n ρ 6) dX6_takeOrder_108 (tt_18 hc) (by omega) (by omega) ?_
            rw [fs]
            refine p_aload_n 110 dX6_takeOrder_109 rfl rfl (by decide) ?_
            refine p_getI 48 113 dX6_takeOrder_110 fX6_80 rfl ?_
            rw [hS.2.1.2.2.2.2 hk5]
            refine p_callV2i (c + 17) 116 dX6_takeOrder_113 (s_hasRank hc hS.1.1 (n := q_n ρ 6) (g := q_sg ρ) (kf := fun k => ρ (59 + 19 * k)) (hS.2.2.1.1.1.2.2.2.2.2.2.2.1.trans e6) (by omega) (fun k hk => (h6 k (by omega)).1) (fun k hk => hsg k (by omega)) (fun k hk => (h6 k (by omega)).2.2) (fun k hk => ⟨hR.1 _ (by omega), (hR.2.2.2.2.2.1 k (by omega)).1⟩) (sh := q_wd t n p) (by omega) (rk := q_nb t n (q_en t n (q_en t n (q_en t n (q_en t n p))))) (by omega)) lk_X6_269 mX4_hasRank (tt_17 hc) rfl (by decide) (Nat.le_of_ble_eq_true rfl) ?_
            rintro _ _ ⟨rfl, e9⟩
            have e9 := e9.symm
            subst e9
            refine p_if_eq 125 119 dX6_takeOrder_116 (Int.le_trans (by decide) if01_bd.1) (Int.lt_of_le_of_lt if01_bd.2 (by decide)) (fun h116 => ?_) (fun h116 => ?_)
            · have hall := if01_eq h116
              refine p_aload_n 126 dX6_takeOrder_125 rfl rfl (by omega) ?_
              refine p_getR (c + 17) 129 dX6_takeOrder_126 fX6_273 (tt_17 hc) (wi_17_3 hc hS.1.1) ?_
              refine p_iload_n 130 dX6_takeOrder_129 rfl rfl ?_
              refine p_aload_n 131 dX6_takeOrder_130 rfl rfl (by decide) ?_
              refine p_getI 48 134 dX6_takeOrder_131 fX6_80 rfl ?_
              rw [hS.2.1.2.2.2.2 hk5]
              refine p_iastn (c + 20) 135 (q_n ρ 6) dX6_takeOrder_134 (tt_20 hc) (by omega) (by omega) ?_
              obtain ⟨hS, fr⟩ := hS.putf hc (k := 20) (j := q_n ρ 6) (v := q_nb t n (q_en t n (q_en t n (q_en t n (q_en t n p))))) (Or.inr (Or.inr (Or.inr (Or.inl ⟨by omega, by omega, by omega⟩))))
              have fs := (zset_o (a := c + 20) (i := q_n ρ 6) (v := q_nb t n (q_en t n (q_en t n (q_en t n (q_en t n p))))) (Or.inl (by omega))).trans fs
              have fd := (zset_o (a := c + 20) (i := q_n ρ 6) (v := q_nb t n (q_en t n (q_en t n (q_en t n (q_en t n p))))) (Or.inl (by omega))).trans fd
              refine p_aload_n 136 dX6_takeOrder_135 rfl rfl (by decide) ?_
              refine p_callV0v 48 139 dX6_takeOrder_136 (s_advance hn ht hS.1 (p := (q_en t n (q_en t n (q_en t n (q_en t n (q_en t n p)))))) hp5 hS.2.1.1) lk_X6_37 mX6_advance rfl rfl (by decide) (Nat.le_of_ble_eq_true rfl) ?_
              intro M9 h9
              obtain ⟨kk, hT9⟩ := h9
              have hS := hS.adv hc kk hT9
              have fs := (congrFun (kk.1 (c + 18) (by omega)) _).trans fs
              have fd := (congrFun (kk.1 (c + 19) (by omega)) _).trans fd
              have fr := (congrFun (kk.1 (c + 20) (by omega)) _).trans fr
              refine p_aload_n 140 dX6_takeOrder_139 rfl rfl (by omega) ?_
              refine p_dupR 141 dX6_takeOrder_140 ?_
              refine p_getI (c + 17) 144 dX6_takeOrder_141 fX6_154 (tt_17 hc) ?_
              rw [hS.2.2.1.1.1.2.2.2.2.2.2.2.1]
              refine p_iconst 145 dX6_takeOrder_144 ?_
              refine p_iadd 146 dX6_takeOrder_145 ?_
              refine p_putI (c + 17) 149 dX6_takeOrder_146 wX6_154 (tt_17 hc) ?_
              refine p_iconst 150 dX6_takeOrder_149 ?_
              refine p_zret dX6_takeOrder_150 rfl (by decide) ?_
              have hz : q_lorder t n p ρ = .inr ((q_en t n (q_en t n (q_en t n (q_en t n (q_en t n p))))), q_up (q_up (q_lay t n (q_en t n (q_en t n p)) (q_lay t n p ρ (59 + 19 * q_n ρ 6 + 1)) (59 + 19 * q_n ρ 6 + 10)) (59 + 19 * q_n ρ 6) (q_nb t n (q_en t n (q_en t n (q_en t n (q_en t n p)))))) 6 (ρ 6 + 1)) := by
                unfold q_lorder
                dsimp only
                rw [if_neg (fun g => g hka)]
                rw [if_neg (by rw [hi1]; decide)]
                rw [if_neg (fun g => g hkb)]
                rw [if_neg (by rw [hi2]; decide)]
                rw [q_bindN_r hn3]
                rw [if_pos hall]
              refine ⟨_, rfl, PL.r hz (hS.grow6 hc hP hr ?_ ?_ ⟨?_, ?_, ?_⟩)⟩
              · exact q_up_at _ _ _
              · intro i hi
                rw [q_up_ne (by omega), q_up_ne (by omega), q_lay_ne (by omega) (by omega), q_lay_ne (by omega) (by omega)]
              · exact fs.trans (q_lay_wd.symm.trans (q_sign_congr (ρ := (q_lay t n p ρ (59 + 19 * q_n ρ 6 + 1))) (by rw [q_lay_at]; omega) (fun i hi => by rw [q_up_ne (by omega), q_up_ne (by omega), q_lay_ne (by omega) (by omega)])).symm)
              · exact fd.trans (q_lay_wd.symm.trans (q_sign_congr (ρ := (q_lay t n (q_en t n (q_en t n p)) (q_lay t n p ρ (59 + 19 * q_n ρ 6 + 1)) (59 + 19 * q_n ρ 6 + 10))) (by rw [q_lay_at]; omega) (fun i hi => by rw [q_up_ne (by omega), q_up_ne (by omega)])).symm)
              · rw [q_up_ne (by omega), q_up_at]; exact fr
            · have hall := if01_ne h116
              have hz : q_lorder t n p ρ = .inl (3, (q_at t n (q_en t n (q_en t n (q_en t n (q_en t n p)))) : Int)) := by
                unfold q_lorder
                dsimp only
                rw [if_neg (fun g => g hka)]
                rw [if_neg (by rw [hi1]; decide)]
                rw [if_neg (fun g => g hkb)]
                rw [if_neg (by rw [hi2]; decide)]
                rw [q_bindN_r hn3]
                rw [if_neg hall]
              refine p_aload_n 120 dX6_takeOrder_119 rfl rfl (by decide) ?_
              refine p_iconst 121 dX6_takeOrder_120 ?_
              refine p_callV1i 48 124 dX6_takeOrder_121 (s_failR hn ht hc hp4 hS.w) lk_X6_47 mX6_fail rfl rfl (by decide) (Nat.le_of_ble_eq_true rfl) ?_
              rintro _ M9 ⟨rfl, hF⟩
              refine p_zret dX6_takeOrder_124 rfl (by decide) ?_
              exact ⟨_, rfl, PL.l hz hF⟩
          · obtain ⟨e, hq, -, hF⟩ := hd.resolve_left (fun g => by have := g.2.2.1; omega)
            have hz : q_lorder t n p ρ = .inl e := by
              unfold q_lorder
              dsimp only
              rw [if_neg (fun g => g hka)]
              rw [if_neg (by rw [hi1]; decide)]
              rw [if_neg (fun g => g hkb)]
              rw [if_neg (by rw [hi2]; decide)]
              rw [q_bindN_l hq]
            refine p_iconst 101 dX6_takeOrder_100 ?_
            refine p_zret dX6_takeOrder_101 rfl (by decide) ?_
            exact ⟨_, rfl, PL.l hz hF⟩
      · have hk0 : q_tk t n (q_en t n (q_en t n p)) ≠ 2 := fun g => h57 (q_srt1.mpr g)
        have hz : q_lorder t n p ρ = .inl (1, (q_at t n (q_en t n (q_en t n p)) : Int)) := by
          unfold q_lorder
          dsimp only
          rw [if_neg (fun g => g hka)]
          rw [if_neg (by rw [hi1]; decide)]
          rw [if_pos hk0]
        refine p_aload_n 61 dX6_takeOrder_60 rfl rfl (by decide) ?_
        refine p_iconst 62 dX6_takeOrder_61 ?_
        refine p_callV1i 48 65 dX6_takeOrder_62 (s_failR hn ht hc hp2 hS.w) lk_X6_47 mX6_fail rfl rfl (by decide) (Nat.le_of_ble_eq_true rfl) ?_
        rintro _ M9 ⟨rfl, hF⟩
        refine p_zret dX6_takeOrder_65 rfl (by decide) ?_
        exact ⟨_, rfl, PL.l hz hF⟩
    · obtain ⟨hi0, -, hF⟩ := hd.resolve_left (fun g => by have := g.2.1; omega)
      have hz : q_lorder t n p ρ = .inl (1, (q_at t n (q_en t n p) : Int)) := by
        unfold q_lorder
        dsimp only
        rw [if_neg (fun g => g hka)]
        rw [if_pos hi0]
      refine p_iconst 51 dX6_takeOrder_50 ?_
      refine p_zret dX6_takeOrder_51 rfl (by decide) ?_
      exact ⟨_, rfl, PL.l hz hF⟩
  · have hk0 : q_tk t n p ≠ 2 := fun g => h18 (q_srt1.mpr g)
    have hz : q_lorder t n p ρ = .inl (1, (q_at t n p : Int)) := by
      unfold q_lorder
      dsimp only
      rw [if_pos hk0]
    refine p_aload_n 22 dX6_takeOrder_21 rfl rfl (by decide) ?_
    refine p_iconst 23 dX6_takeOrder_22 ?_
    refine p_callV1i 48 26 dX6_takeOrder_23 (s_failR hn ht hc hp hS.w) lk_X6_47 mX6_fail rfl rfl (by decide) (Nat.le_of_ble_eq_true rfl) ?_
    rintro _ M9 ⟨rfl, hF⟩
    refine p_zret dX6_takeOrder_26 rfl (by decide) ?_
    exact ⟨_, rfl, PL.l hz hF⟩
theorem s_takeSeen {l : Launch} {X : ZX} {M : ZM} {t : Nat → Int} {n c : Nat} (hn : n ≤ 900) (ht : ∀ i, i < n → 0 ≤ t i ∧ t i < 256) (hc : isC c) {p : Nat} (hp : p ≤ n) {ρ : Nat → Int} {N : ZM} (hS : RS t n c p ρ N M) (hP : PI ρ) (hr : ρ 7 < 5) : zCi l X 7 yX6_takeSeen tX6_takeSeen [zr 48] M (fun a M' => PL t n c N (q_lseen t n p ρ) a M') := by
  have hR := hP.1
  have e2 : ρ 2 = (q_n ρ 2 : Int) := hR.n (by decide)
  have e3 : ρ 3 = (q_n ρ 3 : Int) := hR.n (by decide)
  have e4 : ρ 4 = (q_n ρ 4 : Int) := hR.n (by decide)
  have e5 : ρ 5 = (q_n ρ 5 : Int) := hR.n (by decide)
  have e6 : ρ 6 = (q_n ρ 6 : Int) := hR.n (by decide)
  have e7 : ρ 7 = (q_n ρ 7 : Int) := hR.n (by decide)
  have hcl := hc.lt
  have hp1 := q_en_n t hp
  have hp2 := q_en_n t hp1
  have hp3 := q_en_n t hp2
  refine zC.of [some (zr 48), none, none] (by decide +kernel) rfl rfl (Nat.le_of_ble_eq_true rfl) rfl ?_
  refine p_aload_n 1 dX6_takeSeen_0 rfl rfl (by decide) ?_
  refine p_getR 48 4 dX6_takeSeen_1 fX6_19 rfl hS.1.2.2.2.1 ?_
  refine p_getR (c) 7 dX6_takeSeen_4 fX6_150 (tt_c hc) (wi_0_6 hc hS.1.1) ?_
  refine p_astore_n 8 dX6_takeSeen_7 rfl (Nat.le_of_ble_eq_true rfl) rfl (by omega) rfl ?_
  dsimp only [List.set]
  refine p_aload_n 9 dX6_takeSeen_8 rfl rfl (by omega) ?_
  refine p_getI (c + 17) 12 dX6_takeSeen_9 fX6_160 (tt_17 hc) ?_
  rw [hS.2.2.1.1.1.2.2.2.2.2.2.2.2, e7]
  refine p_istore_n 13 dX6_takeSeen_12 rfl (Nat.le_of_ble_eq_true rfl) rfl rfl ?_
  dsimp only [List.set]
  refine p_aload_n 14 dX6_takeSeen_13 rfl rfl (by decide) ?_
  refine p_getI 48 17 dX6_takeSeen_14 fX6_44 rfl ?_
  rw [hS.2.1.2.2.1]
  have hsr := q_srt_bd (q_tk t n p)
  refine p_iconst 18 dX6_takeSeen_17 ?_
  refine p_icmp_eq 27 21 dX6_takeSeen_18 (by omega) (by omega) (by decide) (by decide) (fun h18 => ?_) (fun h18 => ?_)
  · have hka : q_tk t n p = 2 := q_srt1.mp h18
    have hlwa := q_tk_word hp hka
    have hwba := q_wd_bd hp hka
    refine p_aload_n 28 dX6_takeSeen_27 rfl rfl (by omega) ?_
    refine p_aload_n 29 dX6_takeSeen_28 rfl rfl (by decide) ?_
    refine p_getJ 48 32 dX6_takeSeen_29 fX6_76 rfl ?_
    rw [hS.2.1.2.2.2.1 hka]
    refine p_callV1i (c + 17) 35 dX6_takeSeen_32 (s_wasSeenC hc hS.1.1 hS.2.2.1.1 hR (sh := q_wd t n p) (by omega)) lk_X6_275 mX4_wasSeen (tt_17 hc) rfl (by decide) (Nat.le_of_ble_eq_true rfl) ?_
    rintro _ _ ⟨rfl, e9⟩
    have e9 := e9.symm
    subst e9
    refine p_if_eq 44 38 dX6_takeSeen_35 (Int.le_trans (by decide) if01_bd.1) (Int.lt_of_le_of_lt if01_bd.2 (by decide)) (fun h35 => ?_) (fun h35 => ?_)
    · have hall := if01_eq h35
      refine p_aload_n 45 dX6_takeSeen_44 rfl rfl (by omega) ?_
      refine p_getR (c + 17) 48 dX6_takeSeen_45 fX6_278 (tt_17 hc) (wi_17_5 hc hS.1.1) ?_
      refine p_iload_n 49 dX6_takeSeen_48 rfl rfl ?_
      refine p_aload_n 50 dX6_takeSeen_49 rfl rfl (by decide) ?_
      refine p_getJ 48 53 dX6_takeSeen_50 fX6_76 rfl ?_
      rw [hS.2.1.2.2.2.1 hka]
      refine p_lastn (c + 21) 54 (q_n ρ 7) dX6_takeSeen_53 (tt_21 hc) (by omega) (by omega) ?_
      obtain ⟨hS, fs⟩ := hS.putf hc (k := 21) (j := q_n ρ 7) (v := q_wd t n p) (Or.inr (Or.inr (Or.inr (Or.inr ⟨by omega, by omega, by omega⟩))))
      refine p_aload_n 55 dX6_takeSeen_54 rfl rfl (by omega) ?_
      refine p_getR (c + 17) 58 dX6_takeSeen_55 fX6_281 (tt_17 hc) (wi_17_6 hc hS.1.1) ?_
      refine p_iload_n 59 dX6_takeSeen_58 rfl rfl ?_
      refine p_lconst (z := 0) 60 dX6_takeSeen_59 rfl ?_
      refine p_lastn (c + 22) 61 (q_n ρ 7) dX6_takeSeen_60 (tt_22 hc) (by omega) (by omega) ?_
      obtain ⟨hS, fd⟩ := hS.putf hc (k := 22) (j := q_n ρ 7) (v := 0) (Or.inr (Or.inr (Or.inr (Or.inr ⟨by omega, by omega, by omega⟩))))
      have fs := (zset_o (a := c + 22) (i := q_n ρ 7) (v := 0) (Or.inl (by omega))).trans fs
      refine p_aload_n 62 dX6_takeSeen_61 rfl rfl (by decide) ?_
      refine p_callV0v 48 65 dX6_takeSeen_62 (s_advance hn ht hS.1 (p := (q_en t n p)) hp1 hS.2.1.1) lk_X6_37 mX6_advance rfl rfl (by decide) (Nat.le_of_ble_eq_true rfl) ?_
      intro M9 h9
      obtain ⟨kk, hT9⟩ := h9
      have hS := hS.adv hc kk hT9
      have fs := (congrFun (kk.1 (c + 21) (by omega)) _).trans fs
      have fd := (congrFun (kk.1 (c + 22) (by omega)) _).trans fd
      refine p_aload_n 66 dX6_takeSeen_65 rfl rfl (by decide) ?_
      refine p_ldcS 10 68 dX6_takeSeen_66 rfl ?_
      refine p_callV1i 48 71 dX6_takeSeen_68 (s_spells hn ht hc hp1 hS.w (i := 10) rfl (by decide)) lk_X6_94 mX6_spells rfl rfl (by decide) (Nat.le_of_ble_eq_true rfl) ?_
      rintro _ _ ⟨rfl, e9⟩
      have e9 := e9.symm
      subst e9
      refine p_if_ne 109 74 dX6_takeSeen_71 (by split <;> omega) (by split <;> omega) (fun h71 => ?_) (fun h71 => ?_)
      · have hid := if_ne0 h71
        refine p_aload_n 110 dX6_takeSeen_109 rfl rfl (by decide) ?_
        refine p_callV0v 48 113 dX6_takeSeen_110 (s_advance hn ht hS.1 (p := (q_en t n (q_en t n p))) hp2 hS.2.1.1) lk_X6_37 mX6_advance rfl rfl (by decide) (Nat.le_of_ble_eq_true rfl) ?_
        intro M9 h9
        obtain ⟨kk, hT9⟩ := h9
        have hS := hS.adv hc kk hT9
        have fs := (congrFun (kk.1 (c + 21) (by omega)) _).trans fs
        have fd := (congrFun (kk.1 (c + 22) (by omega)) _).trans fd
        refine p_aload_n 114 dX6_takeSeen_113 rfl rfl (by omega) ?_
        refine p_dupR 115 dX6_takeSeen_114 ?_
        refine p_getI (c + 17) 118 dX6_takeSeen_115 fX6_160 (tt_17 hc) ?_
        rw [hS.2.2.1.1.1.2.2.2.2.2.2.2.2]
        refine p_iconst 119 dX6_takeSeen_118 ?_
        refine p_iadd 120 dX6_takeSeen_119 ?_
        refine p_putI (c + 17) 123 dX6_takeSeen_120 wX6_160 (tt_17 hc) ?_
        refine p_iconst 124 dX6_takeSeen_123 ?_
        refine p_zret dX6_takeSeen_124 rfl (by decide) ?_
        have hz : q_lseen t n p ρ = .inr ((q_en t n (q_en t n p)), q_up (q_up (q_lay t n p ρ (173 + 19 * q_n ρ 7 + 1)) (173 + 19 * q_n ρ 7) 0) 7 (ρ 7 + 1)) := by
          unfold q_lseen
          dsimp only
          rw [if_neg (fun g => g hka)]
          rw [if_neg (by rw [hall]; decide)]
          rw [if_pos hid]
        refine ⟨_, rfl, PL.r hz (hS.grow7 hc hP hr ?_ ?_ ⟨?_, ?_⟩)⟩
        · exact q_up_at _ _ _
        · intro i hi
          rw [q_up_ne (by omega), q_up_ne (by omega), q_lay_ne (by omega) (by omega)]
        · exact fs.trans (q_lay_wd.symm.trans (q_sign_congr (ρ := (q_lay t n p ρ (173 + 19 * q_n ρ 7 + 1))) (by rw [q_lay_at]; omega) (fun i hi => by rw [q_up_ne (by omega), q_up_ne (by omega)])).symm)
        · unfold q_sd
          rw [if_pos (by rw [q_up_ne (by omega), q_up_at])]
          exact fd
      · have hnid := if_nne0 h71
        refine p_aload_n 75 dX6_takeSeen_74 rfl rfl (by decide) ?_
        refine p_ldcS 9 77 dX6_takeSeen_75 rfl ?_
        refine p_callV1i 48 80 dX6_takeSeen_77 (s_takeKeyword hn ht hc hp1 hS.w (i := 9) rfl (by decide)) lk_X6_179 mX6_takeKeyword rfl rfl (by decide) (Nat.le_of_ble_eq_true rfl) ?_
        intro b1 M9 hd
        have hb1 : 0 ≤ b1 ∧ b1 ≤ 1 := by
          rcases hd with ⟨-, h, -⟩ | ⟨-, h, -⟩ <;> omega
        refine p_if_ne 85 83 dX6_takeSeen_80 (by omega) (by omega) (fun h80 => ?_) (fun h80 => ?_)
        · obtain ⟨hi1, -, kk, hT9⟩ := hd.resolve_right (fun g => by have := g.2.1; omega)
          have hS := hS.adv hc kk hT9
          have fs := (congrFun (kk.1 (c + 21) (by omega)) _).trans fs
          have fd := (congrFun (kk.1 (c + 22) (by omega)) _).trans fd
          refine p_aload_n 86 dX6_takeSeen_85 rfl rfl (by decide) ?_
          refine p_getI 48 89 dX6_takeSeen_86 fX6_44 rfl ?_
          rw [hS.2.1.2.2.1]
          have hsr := q_srt_bd (q_tk t n (q_en t n (q_en t n p)))
          refine p_iconst 90 dX6_takeSeen_89 ?_
          refine p_icmp_eq 99 93 dX6_takeSeen_90 (by omega) (by omega) (by decide) (by decide) (fun h90 => ?_) (fun h90 => ?_)
          · have hkb : q_tk t n (q_en t n (q_en t n p)) = 2 := q_srt1.mp h90
            have hlwb := q_tk_word hp2 hkb
            have hwbb := q_wd_bd hp2 hkb
            refine p_aload_n 100 dX6_takeSeen_99 rfl rfl (by omega) ?_
            refine p_getR (c + 17) 103 dX6_takeSeen_100 fX6_281 (tt_17 hc) (wi_17_6 hc hS.1.1) ?_
            refine p_iload_n 104 dX6_takeSeen_103 rfl rfl ?_
            refine p_aload_n 105 dX6_takeSeen_104 rfl rfl (by decide) ?_
            refine p_getJ 48 108 dX6_takeSeen_105 fX6_76 rfl ?_
            rw [hS.2.1.2.2.2.1 hkb]
            refine p_lastn (c + 22) 109 (q_n ρ 7) dX6_takeSeen_108 (tt_22 hc) (by omega) (by omega) ?_
            obtain ⟨hS, fd⟩ := hS.putf hc (k := 22) (j := q_n ρ 7) (v := q_wd t n (q_en t n (q_en t n p))) (Or.inr (Or.inr (Or.inr (Or.inr ⟨by omega, by omega, by omega⟩))))
            have fs := (zset_o (a := c + 22) (i := q_n ρ 7) (v := q_wd t n (q_en t n (q_en t n p))) (Or.inl (by omega))).trans fs
            refine p_aload_n 110 dX6_takeSeen_109 rfl rfl (by decide) ?_
            refine p_callV0v 48 113 dX6_takeSeen_110 (s_advance hn ht hS.1 (p := (q_en t n (q_en t n (q_en t n p)))) hp3 hS.2.1.1) lk_X6_37 mX6_advance rfl rfl (by decide) (Nat.le_of_ble_eq_true rfl) ?_
            intro M9 h9
            obtain ⟨kk, hT9⟩ := h9
            have hS := hS.adv hc kk hT9
            have fs := (congrFun (kk.1 (c + 21) (by omega)) _).trans fs
            have fd := (congrFun (kk.1 (c + 22) (by omega)) _).trans fd
            refine p_aload_n 114 dX6_takeSeen_113 rfl rfl (by omega) ?_
            refine p_dupR 115 dX6_takeSeen_114 ?_
            refine p_getI (c + 17) 118 dX6_takeSeen_115 fX6_160 (tt_17 hc) ?_
            rw [hS.2.2.1.1.1.2.2.2.2.2.2.2.2]
            refine p_iconst 119 dX6_takeSeen_118 ?_
            refine p_iadd 120 dX6_takeSeen_119 ?_
            refine p_putI (c + 17) 123 dX6_takeSeen_120 wX6_160 (tt_17 hc) ?_
            refine p_iconst 124 dX6_takeSeen_123 ?_
            refine p_zret dX6_takeSeen_124 rfl (by decide) ?_
            have hz : q_lseen t n p ρ = .inr ((q_en t n (q_en t n (q_en t n p))), q_up (q_up (q_lay t n (q_en t n (q_en t n p)) (q_up (q_lay t n p ρ (173 + 19 * q_n ρ 7 + 1)) (173 + 19 * q_n ρ 7) 0) (173 + 19 * q_n ρ 7 + 10)) (173 + 19 * q_n ρ 7) 1) 7 (ρ 7 + 1)) := by
              unfold q_lseen
              dsimp only
              rw [if_neg (fun g => g hka)]
              rw [if_neg (by rw [hall]; decide)]
              rw [if_neg hnid]
              rw [if_neg (by rw [hi1]; decide)]
              rw [if_neg (fun g => g hkb)]
            refine ⟨_, rfl, PL.r hz (hS.grow7 hc hP hr ?_ ?_ ⟨?_, ?_⟩)⟩
            · exact q_up_at _ _ _
            · intro i hi
              rw [q_up_ne (by omega), q_up_ne (by omega), q_lay_ne (by omega) (by omega), q_up_ne (by omega), q_lay_ne (by omega) (by omega)]
            · exact fs.trans (q_lay_wd.symm.trans (q_sign_congr (ρ := (q_lay t n p ρ (173 + 19 * q_n ρ 7 + 1))) (by rw [q_lay_at]; omega) (fun i hi => by rw [q_up_ne (by omega), q_up_ne (by omega), q_lay_ne (by omega) (by omega), q_up_ne (by omega)])).symm)
            · unfold q_sd
              rw [if_neg (by rw [q_up_ne (by omega), q_up_at]; decide)]
              exact fd.trans (q_lay_wd.symm.trans (q_sign_congr (ρ := (q_lay t n (q_en t n (q_en t n p)) (q_up (q_lay t n p ρ (173 + 19 * q_n ρ 7 + 1)) (173 + 19 * q_n ρ 7) 0) (173 + 19 * q_n ρ 7 + 10))) (by rw [q_lay_at]; omega) (fun i hi => by rw [q_up_ne (by omega), q_up_ne (by omega)])).symm)
          · have hk0 : q_tk t n (q_en t n (q_en t n p)) ≠ 2 := fun g => h90 (q_srt1.mpr g)
            have hz : q_lseen t n p ρ = .inl (1, (q_at t n (q_en t n (q_en t n p)) : Int)) := by
              unfold q_lseen
              dsimp only
              rw [if_neg (fun g => g hka)]
              rw [if_neg (by rw [hall]; decide)]
              rw [if_neg hnid]
              rw [if_neg (by rw [hi1]; decide)]
              rw [if_pos hk0]
            refine p_aload_n 94 dX6_takeSeen_93 rfl rfl (by decide) ?_
            refine p_iconst 95 dX6_takeSeen_94 ?_
            refine p_callV1i 48 98 dX6_takeSeen_95 (s_failR hn ht hc hp2 hS.w) lk_X6_47 mX6_fail rfl rfl (by decide) (Nat.le_of_ble_eq_true rfl) ?_
            rintro _ M9 ⟨rfl, hF⟩
            refine p_zret dX6_takeSeen_98 rfl (by decide) ?_
            exact ⟨_, rfl, PL.l hz hF⟩
        · obtain ⟨hi0, -, hF⟩ := hd.resolve_left (fun g => by have := g.2.1; omega)
          have hz : q_lseen t n p ρ = .inl (1, (q_at t n (q_en t n p) : Int)) := by
            unfold q_lseen
            dsimp only
            rw [if_neg (fun g => g hka)]
            rw [if_neg (by rw [hall]; decide)]
            rw [if_neg hnid]
            rw [if_pos hi0]
          refine p_iconst 84 dX6_takeSeen_83 ?_
          refine p_zret dX6_takeSeen_84 rfl (by decide) ?_
          exact ⟨_, rfl, PL.l hz hF⟩
    · have hall := Bool.eq_false_iff.mpr (if01_ne h35)
      have hz : q_lseen t n p ρ = .inl (3, (q_at t n p : Int)) := by
        unfold q_lseen
        dsimp only
        rw [if_neg (fun g => g hka)]
        rw [if_pos hall]
      refine p_aload_n 39 dX6_takeSeen_38 rfl rfl (by decide) ?_
      refine p_iconst 40 dX6_takeSeen_39 ?_
      refine p_callV1i 48 43 dX6_takeSeen_40 (s_failR hn ht hc hp hS.w) lk_X6_47 mX6_fail rfl rfl (by decide) (Nat.le_of_ble_eq_true rfl) ?_
      rintro _ M9 ⟨rfl, hF⟩
      refine p_zret dX6_takeSeen_43 rfl (by decide) ?_
      exact ⟨_, rfl, PL.l hz hF⟩
  · have hk0 : q_tk t n p ≠ 2 := fun g => h18 (q_srt1.mpr g)
    have hz : q_lseen t n p ρ = .inl (1, (q_at t n p : Int)) := by
      unfold q_lseen
      dsimp only
      rw [if_pos hk0]
    refine p_aload_n 22 dX6_takeSeen_21 rfl rfl (by decide) ?_
    refine p_iconst 23 dX6_takeSeen_22 ?_
    refine p_callV1i 48 26 dX6_takeSeen_23 (s_failR hn ht hc hp hS.w) lk_X6_47 mX6_fail rfl rfl (by decide) (Nat.le_of_ble_eq_true rfl) ?_
    rintro _ M9 ⟨rfl, hF⟩
    refine p_zret dX6_takeSeen_26 rfl (by decide) ?_
    exact ⟨_, rfl, PL.l hz hF⟩
theorem q_num_r {t : Nat → Int} {n p : Nat} {lo hi : Int} {q : Nat × Int} (h : q_num t n p lo hi = .inr q) : lo ≤ q_nb t n p ∧ q_nb t n p ≤ hi := by
  unfold q_num at h
  split at h
  · cases h
  · split at h
    · rename_i h9; exact h9
    · cases h
theorem s_takeCounty {l : Launch} {X : ZX} {M : ZM} {t : Nat → Int} {n c : Nat} (hn : n ≤ 900) (ht : ∀ i, i < n → 0 ≤ t i ∧ t i < 256) (hc : isC c) {p : Nat} (hp : p ≤ n) {ρ : Nat → Int} {N : ZM} (hS : RS t n c p ρ N M) (hP : PI ρ) : zCi l X 6 yX6_takeCounty tX6_takeCounty [zr 48] M (fun a M' => PL t n c N (q_lcounty t n p ρ) a M') := by
  have hR := hP.1
  have e2 : ρ 2 = (q_n ρ 2 : Int) := hR.n (by decide)
  have e3 : ρ 3 = (q_n ρ 3 : Int) := hR.n (by decide)
  have e4 : ρ 4 = (q_n ρ 4 : Int) := hR.n (by decide)
  have e5 : ρ 5 = (q_n ρ 5 : Int) := hR.n (by decide)
  have e6 : ρ 6 = (q_n ρ 6 : Int) := hR.n (by decide)
  have e7 : ρ 7 = (q_n ρ 7 : Int) := hR.n (by decide)
  have hcl := hc.lt
  have hp1 := q_en_n t hp
  have hp2 := q_en_n t hp1
  have hp3 := q_en_n t hp2
  have hp4 := q_en_n t hp3
  have hp5 := q_en_n t hp4
  refine zC.of [some (zr 48)] (by decide +kernel) rfl rfl (Nat.le_of_ble_eq_true rfl) rfl ?_
  refine p_aload_n 1 dX6_takeCounty_0 rfl rfl (by decide) ?_
  refine p_getR 48 4 dX6_takeCounty_1 fX6_19 rfl hS.1.2.2.2.1 ?_
  refine p_getI (c) 7 dX6_takeCounty_4 fX6_166 (tt_c hc) ?_
  rw [hS.2.2.1.1.1.1]
  have htb := q_tld_b ρ
  have hI0 := hS.2.2.1
  have hg : ∀ k, 1 ≤ k → k ≤ 22 → M (c + k) = M (c + k) := fun _ _ _ => rfl
  refine p_if_eq 16 10 dX6_takeCounty_7 (by omega) (by omega) (fun h7 => ?_) (fun h7 => ?_)
  · have h00 := q_tld_0.mp h7
    refine p_aload_n 17 dX6_takeCounty_16 rfl rfl (by decide) ?_
    refine p_callV0v 48 20 dX6_takeCounty_17 (s_advance hn ht hS.1 (p := (q_en t n p)) hp1 hS.2.1.1) lk_X6_37 mX6_advance rfl rfl (by decide) (Nat.le_of_ble_eq_true rfl) ?_
    intro M9 h9
    obtain ⟨kk, hT9⟩ := h9
    have hS := hS.adv hc kk hT9
    have hg := fun k k1 k2 => (kk.1 (c + k) (by omega)).trans (hg k k1 k2)
    refine p_aload_n 21 dX6_takeCounty_20 rfl rfl (by decide) ?_
    refine p_ldcS 1 23 dX6_takeCounty_21 rfl ?_
    refine p_callV1i 48 26 dX6_takeCounty_23 (s_takeKeyword hn ht hc hp1 hS.w (i := 1) rfl (by decide)) lk_X6_179 mX6_takeKeyword rfl rfl (by decide) (Nat.le_of_ble_eq_true rfl) ?_
    intro b1 M9 hd
    have hb1 : 0 ≤ b1 ∧ b1 ≤ 1 := by
      rcases hd with ⟨-, h, -⟩ | ⟨-, h, -⟩ <;> omega
    refine p_if_eq 39 29 dX6_takeCounty_26 (by omega) (by omega) (fun h26 => ?_) (fun h26 => ?_)
    · obtain ⟨hi0, -, hF⟩ := hd.resolve_left (fun g => by have := g.2.1; omega)
      have hz : q_lcounty t n p ρ = .inl (1, (q_at t n (q_en t n p) : Int)) := by
        unfold q_lcounty
        rw [if_neg (by omega)]
        rw [q_bindN_l (q_aft_l1 hi0)]
      refine p_iconst 40 dX6_takeCounty_39 ?_
      refine p_zret dX6_takeCounty_40 rfl (by decide) ?_
      exact ⟨_, rfl, PL.l hz hF⟩
    · obtain ⟨hi1, -, kk, hT9⟩ := hd.resolve_right (fun g => by have := g.2.1; omega)
      have hS := hS.adv hc kk hT9
      have hg := fun k k1 k2 => (kk.1 (c + k) (by omega)).trans (hg k k1 k2)
      refine p_aload_n 30 dX6_takeCounty_29 rfl rfl (by decide) ?_
      refine p_iconst 31 dX6_takeCounty_30 ?_
      refine p_bipush 33 dX6_takeCounty_31 rfl ?_
      refine p_callV2i 48 36 dX6_takeCounty_33 (s_isNumber hn ht hc hp2 hS.w (lo := 1) (hi := 9) (by decide) (by decide)) lk_X6_182 mX6_isNumber rfl rfl (by decide) (Nat.le_of_ble_eq_true rfl) ?_
      intro d1 M9 hd
      have hd1 : 0 ≤ d1 ∧ d1 ≤ 1 := by
        rcases hd with ⟨-, -, h, -⟩ | ⟨_, -, h, -⟩ <;> omega
      refine p_if_ne 41 39 dX6_takeCounty_36 (by omega) (by omega) (fun h36 => ?_) (fun h36 => ?_)
      · obtain ⟨hn1, hk3, -, e9⟩ := hd.resolve_right (fun g => by obtain ⟨_, _, g, _⟩ := g; exact h36 g)
        have e9 := e9.symm
        subst e9
        have hA1 := q_aft_r hi1 hn1
        have hnb1 := q_nb_bd hp2 hk3
        refine p_aload_n 42 dX6_takeCounty_41 rfl rfl (by decide) ?_
        refine p_getR 48 45 dX6_takeCounty_42 fX6_19 rfl hS.1.2.2.2.1 ?_
        refine p_aload_n 46 dX6_takeCounty_45 rfl rfl (by decide) ?_
        refine p_getI 48 49 dX6_takeCounty_46 fX6_80 rfl ?_
        rw [hS.2.1.2.2.2.2 hk3]
        refine p_putI (c) 52 dX6_takeCounty_49 wX6_185 (tt_c hc) ?_
        obtain ⟨hS, f1⟩ := hS.w.hd hc (j := 1) (v := q_nb t n (q_en t n (q_en t n p))) (by decide)
        have hg := fun k k1 k2 => (zset_ne (c := c) (i := 1) (v := q_nb t n (q_en t n (q_en t n p))) (a := c + k) _ (by omega)).trans (hg k k1 k2)
        refine p_aload_n 53 dX6_takeCounty_52 rfl rfl (by decide) ?_
        refine p_callV0v 48 56 dX6_takeCounty_53 (s_advance hn ht hS.1 (p := (q_en t n (q_en t n (q_en t n p)))) hp3 hS.2.1.1) lk_X6_37 mX6_advance rfl rfl (by decide) (Nat.le_of_ble_eq_true rfl) ?_
        intro M9 h9
        obtain ⟨kk, hT9⟩ := h9
        have hS := hS.adv hc kk hT9
        have f1 := (congrFun (kk.1 c (by omega)) _).trans f1
        have hg := fun k k1 k2 => (kk.1 (c + k) (by omega)).trans (hg k k1 k2)
        refine p_aload_n 57 dX6_takeCounty_56 rfl rfl (by decide) ?_
        refine p_ldcS 2 59 dX6_takeCounty_57 rfl ?_
        refine p_callV1i 48 62 dX6_takeCounty_59 (s_takeKeyword hn ht hc hp3 hS (i := 2) rfl (by decide)) lk_X6_179 mX6_takeKeyword rfl rfl (by decide) (Nat.le_of_ble_eq_true rfl) ?_
        intro b2 M9 hd
        have hb2 : 0 ≤ b2 ∧ b2 ≤ 1 := by
          rcases hd with ⟨-, h, -⟩ | ⟨-, h, -⟩ <;> omega
        refine p_if_eq 75 65 dX6_takeCounty_62 (by omega) (by omega) (fun h62 => ?_) (fun h62 => ?_)
        · obtain ⟨hi0, -, hF⟩ := hd.resolve_left (fun g => by have := g.2.1; omega)
          have hz : q_lcounty t n p ρ = .inl (1, (q_at t n (q_en t n (q_en t n (q_en t n p))) : Int)) := by
            unfold q_lcounty
            rw [if_neg (by omega)]
            rw [q_bindN_r hA1]
            rw [q_bindN_l (q_aft_l1 hi0)]
          refine p_iconst 76 dX6_takeCounty_75 ?_
          refine p_zret dX6_takeCounty_76 rfl (by decide) ?_
          exact ⟨_, rfl, PL.l hz hF⟩
        · obtain ⟨hi2, -, kk, hT9⟩ := hd.resolve_right (fun g => by have := g.2.1; omega)
          have hS := hS.adv hc kk hT9
          have f1 := (congrFun (kk.1 c (by omega)) _).trans f1
          have hg := fun k k1 k2 => (kk.1 (c + k) (by omega)).trans (hg k k1 k2)
          refine p_aload_n 66 dX6_takeCounty_65 rfl rfl (by decide) ?_
          refine p_iconst 67 dX6_takeCounty_66 ?_
          refine p_bipush 69 dX6_takeCounty_67 rfl ?_
          refine p_callV2i 48 72 dX6_takeCounty_69 (s_isNumber hn ht hc hp4 hS (lo := 0) (hi := 100) (by decide) (by decide)) lk_X6_182 mX6_isNumber rfl rfl (by decide) (Nat.le_of_ble_eq_true rfl) ?_
          intro d2 M9 hd
          have hd2 : 0 ≤ d2 ∧ d2 ≤ 1 := by
            rcases hd with ⟨-, -, h, -⟩ | ⟨_, -, h, -⟩ <;> omega
          refine p_if_ne 77 75 dX6_takeCounty_72 (by omega) (by omega) (fun h72 => ?_) (fun h72 => ?_)
          · obtain ⟨hn2, hk4, -, e9⟩ := hd.resolve_right (fun g => by obtain ⟨_, _, g, _⟩ := g; exact h72 g)
            have e9 := e9.symm
            subst e9
            have hA2 := q_aft_r hi2 hn2
            have hnb2 := q_nb_bd hp4 hk4
            refine p_aload_n 78 dX6_takeCounty_77 rfl rfl (by decide) ?_
            refine p_getR 48 81 dX6_takeCounty_78 fX6_19 rfl hS.1.2.2.2.1 ?_
            refine p_aload_n 82 dX6_takeCounty_81 rfl rfl (by decide) ?_
            refine p_getI 48 85 dX6_takeCounty_82 fX6_80 rfl ?_
            rw [hS.2.1.2.2.2.2 hk4]
            refine p_putI (c) 88 dX6_takeCounty_85 wX6_189 (tt_c hc) ?_
            obtain ⟨hS, f2⟩ := hS.hd hc (j := 2) (v := q_nb t n (q_en t n (q_en t n (q_en t n (q_en t n p))))) (by decide)
            have f1 := (zset_o (a := c) (i := 2) (v := q_nb t n (q_en t n (q_en t n (q_en t n (q_en t n p))))) (Or.inr (by omega))).trans f1
            have hg := fun k k1 k2 => (zset_ne (c := c) (i := 2) (v := q_nb t n (q_en t n (q_en t n (q_en t n (q_en t n p))))) (a := c + k) _ (by omega)).trans (hg k k1 k2)
            refine p_aload_n 89 dX6_takeCounty_88 rfl rfl (by decide) ?_
            refine p_callV0v 48 92 dX6_takeCounty_89 (s_advance hn ht hS.1 (p := (q_en t n (q_en t n (q_en t n (q_en t n (q_en t n p)))))) hp5 hS.2.1.1) lk_X6_37 mX6_advance rfl rfl (by decide) (Nat.le_of_ble_eq_true rfl) ?_
            intro M9 h9
            obtain ⟨kk, hT9⟩ := h9
            have hS := hS.adv hc kk hT9
            have f1 := (congrFun (kk.1 c (by omega)) _).trans f1
            have f2 := (congrFun (kk.1 c (by omega)) _).trans f2
            have hg := fun k k1 k2 => (kk.1 (c + k) (by omega)).trans (hg k k1 k2)
            refine p_aload_n 93 dX6_takeCounty_92 rfl rfl (by decide) ?_
            refine p_getR 48 96 dX6_takeCounty_93 fX6_19 rfl hS.1.2.2.2.1 ?_
            refine p_iconst 97 dX6_takeCounty_96 ?_
            refine p_putZ (c) 100 dX6_takeCounty_97 wX6_166 (tt_c hc) (by decide) ?_
            obtain ⟨hS, f0⟩ := hS.hd hc (j := 0) (v := 1) (by decide)
            have f1 := (zset_o (a := c) (i := 0) (v := 1) (Or.inr (by omega))).trans f1
            have f2 := (zset_o (a := c) (i := 0) (v := 1) (Or.inr (by omega))).trans f2
            have hg := fun k k1 k2 => (zset_ne (c := c) (i := 0) (v := 1) (a := c + k) _ (by omega)).trans (hg k k1 k2)
            refine p_iconst 101 dX6_takeCounty_100 ?_
            refine p_zret dX6_takeCounty_101 rfl (by decide) ?_
            have hz : q_lcounty t n p ρ = .inr ((q_en t n (q_en t n (q_en t n (q_en t n (q_en t n p))))), q_up (q_up ρ 1 (q_nb t n (q_en t n (q_en t n (q_en t n (q_en t n p)))))) 0 (q_nb t n (q_en t n (q_en t n p)))) := by
              unfold q_lcounty
              rw [if_neg (by omega)]
              rw [q_bindN_r hA1]
              rw [q_bindN_r hA2]
            have hla := (q_num_r hn1).1
            exact ⟨_, rfl, PL.r hz (RS.told hS hI0 hP hg f0 f1 f2 hla)⟩
          · obtain ⟨e, hq, -, hF⟩ := hd.resolve_left (fun g => by have := g.2.2.1; omega)
            have hz : q_lcounty t n p ρ = .inl e := by
              unfold q_lcounty
              rw [if_neg (by omega)]
              rw [q_bindN_r hA1]
              rw [q_bindN_l (q_aft_l2 hi2 hq)]
            refine p_iconst 76 dX6_takeCounty_75 ?_
            refine p_zret dX6_takeCounty_76 rfl (by decide) ?_
            exact ⟨_, rfl, PL.l hz hF⟩
      · obtain ⟨e, hq, -, hF⟩ := hd.resolve_left (fun g => by have := g.2.2.1; omega)
        have hz : q_lcounty t n p ρ = .inl e := by
          unfold q_lcounty
          rw [if_neg (by omega)]
          rw [q_bindN_l (q_aft_l2 hi1 hq)]
        refine p_iconst 40 dX6_takeCounty_39 ?_
        refine p_zret dX6_takeCounty_40 rfl (by decide) ?_
        exact ⟨_, rfl, PL.l hz hF⟩
  · have h00 : 0 < ρ 0 := by
      have := hR.1 0 (by omega)
      have : ¬ ρ 0 = 0 := fun g => h7 (q_tld_0.mpr g)
      omega
    have hz : q_lcounty t n p ρ = .inl (3, (q_at t n p : Int)) := by
      unfold q_lcounty
      rw [if_pos h00]
    refine p_aload_n 11 dX6_takeCounty_10 rfl rfl (by decide) ?_
    refine p_iconst 12 dX6_takeCounty_11 ?_
    refine p_callV1i 48 15 dX6_takeCounty_12 (s_failR hn ht hc hp hS.w) lk_X6_47 mX6_fail rfl rfl (by decide) (Nat.le_of_ble_eq_true rfl) ?_
    rintro _ M9 ⟨rfl, hF⟩
    refine p_zret dX6_takeCounty_15 rfl (by decide) ?_
    exact ⟨_, rfl, PL.l hz hF⟩
