/-! THE READER, the class's: a whole text -/
theorem zWc.hd {M : ZM} {c j : Nat} {v : Int} (h : zWc M) (hc : isC c) (hj : (0, j) ∈ [(0, 0), (0, 1), (0, 2), (1, 0), (6, 0), (11, 0), (11, 1), (17, 0), (17, 4)]) : zWc (zset M c j v) := h.cnt (k := 0) hc hj
theorem PI.zero : PI (fun _ => 0) := by
  have hw : ∀ f, q_wordOk (fun _ => 0) f := fun f => ⟨by show (0 : Int) ≤ 8; omega, fun j hj => absurd hj (by show ¬ (j : Int) < 0; omega)⟩
  refine ⟨⟨fun i hi => Int.le_refl 0, by show (0 : Int) ≤ 9 ∧ (0 : Int) ≤ 100 ∧ (0 : Int) ≤ 7 ∧ (0 : Int) ≤ 3 ∧ (0 : Int) ≤ 7 ∧ (0 : Int) ≤ 8 ∧ (0 : Int) ≤ 6 ∧ (0 : Int) ≤ 5; omega, fun s hs => by show (0 : Int) ≤ 3 ∧ (0 : Int) ≤ 9 ∧ (0 : Int) ≤ 20; omega, fun s hs => by show (0 : Int) ≤ 9 ∧ (0 : Int) ≤ 4 ∧ (0 : Int) ≤ 9; omega, fun s hs => by show (0 : Int) ≤ 99 ∧ (0 : Int) ≤ 30 ∧ (0 : Int) ≤ 127; omega, fun s hs => ⟨by show (0 : Int) ≤ 9; omega, hw _, hw _⟩, fun s hs => ⟨by show (0 : Int) ≤ 1; omega, hw _, hw _⟩⟩, ⟨fun m hm => ?_, fun m hm => ?_, fun m hm => ?_⟩, fun m hm => ⟨by show (0 : Int) ≤ 8; omega, fun j hj => absurd hj (by show ¬ (j : Int) < 0; omega)⟩, fun m m2 hm hm2 g1 g2 g3 => absurd g1 (by show ¬ (0 : Int) < 0; omega), ⟨fun s hs => absurd hs (by show ¬ (s : Int) < 0; omega), fun s hs => absurd hs (by show ¬ (s : Int) < 0; omega), fun s hs => absurd hs (by show ¬ (s : Int) < 0; omega), fun s hs => absurd hs (by show ¬ (s : Int) < 0; omega), fun s hs => absurd hs (by show ¬ (s : Int) < 0; omega)⟩, fun _ => ⟨rfl, rfl, rfl, rfl, rfl, rfl⟩, ⟨fun w hw => absurd hw (by show ¬ (w : Int) < 0; omega), fun w hw hw2 => rfl⟩⟩
  · show (0 : Int) < 0 ↔ (m : Int) < 0
    omega
  · show (0 : Int) < 0 ↔ (m : Int) < 0
    omega
  · show (0 : Int) < 0 ↔ (m : Int) < 0
    omega
theorem PI.one {ρ : Nat → Int} (hP : PI ρ) (h0 : ρ 0 ≠ 0) (h2 : ρ 2 ≠ 0) : wfR1 ρ := by
  obtain ⟨hR, hB, hC, hD, hE, hF, hG⟩ := hP
  have n0 := hR.1 0 (by omega)
  have n2 := hR.1 2 (by omega)
  have b := hR.2.1
  have e4 : ρ 4 = (q_n ρ 4 : Int) := hR.n (by decide)
  refine ⟨by omega, by omega, hE.1, hE.2.1, hE.2.2.1, hE.2.2.2.1, hE.2.2.2.2, fun S hS hS2 => ?_⟩
  exact ab_first (r := q_n ρ) (n := q_n ρ 4) (by omega) (fun k hk => hR.ab k hk) (fun w hw => hG.1 w (by omega)) S hS hS2
/-- a text is read: it failed, or the county is told -/
def RD (c : Nat) (N : ZM) (r : (Int × Int) ⊕ (Nat → Int)) (M : ZM) : Prop := match r with
  | .inl e => FL c N e M
  | .inr ρ => zWc M ∧ (∀ a, a ≠ 48 → a < c ∨ c + 22 < a → M a = N a) ∧ M 48 8 = 0 ∧ ICr ρ c M
theorem RD.l {c : Nat} {N M : ZM} {r : (Int × Int) ⊕ (Nat → Int)} {e : Int × Int} (hz : r = .inl e) (hF : FL c N e M) : RD c N r M := by
  rw [hz]
  exact hF
theorem RD.r {t : Nat → Int} {n c p : Nat} {ρ : Nat → Int} {N M : ZM} {r : (Int × Int) ⊕ (Nat → Int)} (hz : r = .inr ρ) (hS : RS t n c p ρ N M) : RD c N r M := by
  rw [hz]
  exact (⟨hS.1.1, hS.2.2.2.1, hS.2.2.2.2, hS.2.2.1⟩ : zWc M ∧ (∀ a, a ≠ 48 → a < c ∨ c + 22 < a → M a = N a) ∧ M 48 8 = 0 ∧ ICr ρ c M)
theorem PL.fail {t : Nat → Int} {n c : Nat} {N M : ZM} {r : PR} {x : Int} (h : PL t n c N r x M) (hx : x = 0) : ∃ e, r = .inl e ∧ FL c N e M := by
  cases r with
  | inl e => exact ⟨e, rfl, h.2⟩
  | inr q =>
    have h1 : x = 1 := h.1
    omega
theorem PL.good {t : Nat → Int} {n c : Nat} {N M : ZM} {r : PR} {x : Int} (h : PL t n c N r x M) (hx : x ≠ 0) : ∃ p ρ, r = .inr (p, ρ) ∧ RS t n c p ρ N M := by
  cases r with
  | inl e =>
    have h1 : x = 0 := h.1
    omega
  | inr q => exact ⟨q.1, q.2, rfl, h.2⟩
theorem q_tk_lt {t : Nat → Int} {n p : Nat} (h : q_tk t n p ≠ 0) : q_at t n p < n := by
  by_cases g : n ≤ q_at t n p
  · unfold q_tk at h
    rw [if_pos g] at h
    exact absurd rfl h
  · omega
theorem q_lines_s (t : Nat → Int) (n f p : Nat) (ρ : Nat → Int) : q_lines t n (f + 1) p ρ = q_bindR (q_line t n p ρ) (fun p1 ρ1 => if q_tk t n p1 = 59 then q_lines t n f (q_en t n p1) ρ1 else if q_tk t n p1 ≠ 0 then .inl (1, (q_at t n p1 : Int)) else if ρ1 0 = 0 ∨ ρ1 2 = 0 then .inl (6, (q_at t n p1 : Int)) else .inr ρ1) := rfl
theorem q_lines_ok {t : Nat → Int} {n : Nat} : ∀ (f p : Nat) (ρ : Nat → Int), p ≤ n → PI ρ → ∀ ρ', q_lines t n f p ρ = .inr ρ' → PI ρ' ∧ ρ' 0 ≠ 0 ∧ ρ' 2 ≠ 0 := by
  intro f
  induction f with
  | zero => intro p ρ hp hP ρ' h; cases h
  | succ f ih =>
    intro p ρ hp hP ρ' h
    rw [q_lines_s] at h
    obtain ⟨p1, ρ1, h1, h⟩ := q_bindR_inv h
    obtain ⟨hP1, g1, g2, g3⟩ := q_line_ok hp hP h1
    split at h
    · exact ih _ _ (q_en_n t g2) hP1 ρ' h
    · split at h
      · cases h
      · split at h
        · cases h
        · rename_i k
          cases h
          exact ⟨hP1, fun g => k (Or.inl g), fun g => k (Or.inr g)⟩
theorem q_parse_ok {t : Nat → Int} {n : Nat} {ρ : Nat → Int} (h : q_parse t n = .inr ρ) : wfR ρ ∧ wfR1 ρ := by
  obtain ⟨h1, h2, h3⟩ := q_lines_ok (n + 1) 0 (fun _ => 0) (Nat.zero_le n) PI.zero ρ h
  exact ⟨h1.1, h1.one h2 h3⟩
theorem s_clear {l : Launch} {X : ZX} {M : ZM} {c : Nat} (hc : isC c) (hW : zWc M) : zCv l X 0 yX0_clear tX0_clear [zr (c : Int)] M (fun M' => zWc M' ∧ ICr (fun _ => 0) c M' ∧ ∀ a, a < c ∨ c + 22 < a → M' a = M a) := by
  have hcl := hc.lt
  refine zC.of [some (zr (c : Int))] (by decide +kernel) rfl rfl (Nat.le_of_ble_eq_true rfl) rfl ?_
  refine p_aload_n 1 dX0_clear_0 rfl rfl (by omega) ?_
  refine p_iconst 2 dX0_clear_1 ?_
  refine p_putZ (c) 5 dX0_clear_2 wX0_39 (tt_c hc) (by decide) ?_
  have hW := zWc.hd (j := 0) (v := 0) hW hc (by decide)
  refine p_aload_n 6 dX0_clear_5 rfl rfl (by omega) ?_
  refine p_iconst 7 dX0_clear_6 ?_
  refine p_putI (c) 10 dX0_clear_7 wX0_43 (tt_c hc) ?_
  have hW := zWc.hd (j := 1) (v := 0) hW hc (by decide)
  refine p_aload_n 11 dX0_clear_10 rfl rfl (by omega) ?_
  refine p_iconst 12 dX0_clear_11 ?_
  refine p_putI (c) 15 dX0_clear_12 wX0_47 (tt_c hc) ?_
  have hW := zWc.hd (j := 2) (v := 0) hW hc (by decide)
  refine p_aload_n 16 dX0_clear_15 rfl rfl (by omega) ?_
  refine p_getR (c) 19 dX0_clear_16 fX0_12 (tt_c hc) (wi_0_3 hc hW) ?_
  refine p_iconst 20 dX0_clear_19 ?_
  refine p_putI (c + 1) 23 dX0_clear_20 wX0_50 (tt_1 hc) ?_
  have hW := zWc.cnt (k := 1) (j := 0) (v := 0) hc hW (by decide)
  refine p_aload_n 24 dX0_clear_23 rfl rfl (by omega) ?_
  refine p_getR (c) 27 dX0_clear_24 fX0_21 (tt_c hc) (wi_0_4 hc hW) ?_
  refine p_iconst 28 dX0_clear_27 ?_
  refine p_putI (c + 6) 31 dX0_clear_28 wX0_53 (tt_6 hc) ?_
  have hW := zWc.cnt (k := 6) (j := 0) (v := 0) hc hW (by decide)
  refine p_aload_n 32 dX0_clear_31 rfl rfl (by omega) ?_
  refine p_getR (c) 35 dX0_clear_32 fX0_28 (tt_c hc) (wi_0_5 hc hW) ?_
  refine p_iconst 36 dX0_clear_35 ?_
  refine p_putI (c + 11) 39 dX0_clear_36 wX0_54 (tt_11 hc) ?_
  have hW := zWc.cnt (k := 11) (j := 0) (v := 0) hc hW (by decide)
  refine p_aload_n 40 dX0_clear_39 rfl rfl (by omega) ?_
  refine p_getR (c) 43 dX0_clear_40 fX0_28 (tt_c hc) (wi_0_5 hc hW) ?_
  refine p_iconst 44 dX0_clear_43 ?_
  refine p_putI (c + 11) 47 dX0_clear_44 wX0_55 (tt_11 hc) ?_
  have hW := zWc.cnt (k := 11) (j := 1) (v := 0) hc hW (by decide)
  refine p_aload_n 48 dX0_clear_47 rfl rfl (by omega) ?_
  refine p_getR (c) 51 dX0_clear_48 fX0_35 (tt_c hc) (wi_0_6 hc hW) ?_
  refine p_iconst 52 dX0_clear_51 ?_
  refine p_putI (c + 17) 55 dX0_clear_52 wX0_58 (tt_17 hc) ?_
  have hW := zWc.cnt (k := 17) (j := 0) (v := 0) hc hW (by decide)
  refine p_aload_n 56 dX0_clear_55 rfl rfl (by omega) ?_
  refine p_getR (c) 59 dX0_clear_56 fX0_35 (tt_c hc) (wi_0_6 hc hW) ?_
  refine p_iconst 60 dX0_clear_59 ?_
  refine p_putI (c + 17) 63 dX0_clear_60 wX0_59 (tt_17 hc) ?_
  have hW := zWc.cnt (k := 17) (j := 4) (v := 0) hc hW (by decide)
  refine p_vret dX0_clear_63 rfl ?_
  refine ⟨rfl, hW, ICr_iff.mpr ⟨⟨?_, ?_, ?_, ?_, ?_, ?_, ?_, ?_, ?_⟩, fun s hs => absurd hs (by show ¬ (s : Int) < 0; omega), fun s hs => absurd hs (by show ¬ (s : Int) < 0; omega), fun s hs => absurd hs (by show ¬ (s : Int) < 0; omega), fun s hs => absurd hs (by show ¬ (s : Int) < 0; omega), fun s hs => absurd hs (by show ¬ (s : Int) < 0; omega)⟩, fun a ha => ?_⟩
  · rw [zset_o (by omega), zset_o (by omega), zset_o (by omega), zset_o (by omega), zset_o (by omega), zset_o (by omega), zset_o (by omega), zset_o (by omega), zset_at]; rfl
  · rw [zset_o (by omega), zset_o (by omega), zset_o (by omega), zset_o (by omega), zset_o (by omega), zset_o (by omega), zset_o (by omega), zset_at]
  · rw [zset_o (by omega), zset_o (by omega), zset_o (by omega), zset_o (by omega), zset_o (by omega), zset_o (by omega), zset_at]
  · rw [zset_o (by omega), zset_o (by omega), zset_o (by omega), zset_o (by omega), zset_o (by omega), zset_at]
  · rw [zset_o (by omega), zset_o (by omega), zset_o (by omega), zset_o (by omega), zset_at]
  · rw [zset_o (by omega), zset_o (by omega), zset_o (by omega), zset_at]
  · rw [zset_o (by omega), zset_o (by omega), zset_at]
  · rw [zset_o (by omega), zset_at]
  · rw [zset_at]
  · rw [zset_ne _ (by omega), zset_ne _ (by omega), zset_ne _ (by omega), zset_ne _ (by omega), zset_ne _ (by omega), zset_ne _ (by omega), zset_ne _ (by omega), zset_ne _ (by omega), zset_ne _ (by omega)]
theorem l_read {l : Launch} {X : ZX} {M : ZM} {t : Nat → Int} {n c : Nat} (hn : n ≤ 900) (ht : ∀ i, i < n → 0 ≤ t i ∧ t i < 256) (hc : isC c) : ∀ (j i : Nat), i + j = n + 1 → ∀ (p : Nat) (ρ : Nat → Int) (M9 : ZM), RS t n c p ρ M M9 → PI ρ → p ≤ n → i ≤ p → zP l X 9 tX6_read 44 [some (zr 48), some (zr 1), some (zi (n : Int)), some (zr (c : Int)), some (zi (i : Int))] [] M9 (fun r M' => r = none ∧ RD c M (q_lines t n j p ρ) M') := by
  have hcl := hc.lt
  intro j
  induction j with
  | zero =>
    intro i hi p ρ M9 hS hP hp hip
    exfalso
    omega
  | succ j ih =>
    intro i hi p ρ M9 hS hP hp hip
    refine p_iload 46 dX6_read_44 rfl ?_
    refine p_aload_n 47 dX6_read_46 rfl rfl (by decide) ?_
    refine p_getI 48 50 dX6_read_47 fX6_15 rfl ?_
    rw [hS.1.2.2.1]
    refine p_icmp_gt 82 53 dX6_read_50 (by omega) (by omega) (by omega) (by omega) (fun h50 => absurd (by omega) (fun h9 : False => h9)) (fun h50 => ?_)
    refine p_aload_n 54 dX6_read_53 rfl rfl (by decide) ?_
    refine p_callV0i 48 57 dX6_read_54 (s_takeLine hn ht hc hp hS hP) lk_X6_40 mX6_takeLine rfl rfl (by decide) (Nat.le_of_ble_eq_true rfl) ?_
    intro a1 M8 h1
    have ha1 := h1.bd
    refine p_if_ne 61 60 dX6_read_57 (by omega) (by omega) (fun h57 => ?_) (fun h57 => ?_)
    · obtain ⟨p1, ρ1, hq, hS1⟩ := h1.good h57
      obtain ⟨hP1, g1, g2, g3⟩ := q_line_ok hp hP hq
      refine p_aload_n 62 dX6_read_61 rfl rfl (by decide) ?_
      refine p_getI 48 65 dX6_read_62 fX6_44 rfl ?_
      rw [hS1.2.1.2.2.1]
      have hsr := q_srt_bd (q_tk t n p1)
      refine p_iconst 66 dX6_read_65 ?_
      refine p_icmp_eq 72 69 dX6_read_66 (by omega) (by omega) (by decide) (by decide) (fun h66 => ?_) (fun h66 => ?_)
      · have hk := q_srt3.mp h66
        refine p_aload_n 73 dX6_read_72 rfl rfl (by decide) ?_
        refine p_callV0v 48 76 dX6_read_73 (s_advance hn ht hS1.1 (p := q_en t n p1) (q_en_n t g2) hS1.2.1.1) lk_X6_37 mX6_advance rfl rfl (by decide) (Nat.le_of_ble_eq_true rfl) ?_
        intro M7 h9
        obtain ⟨kk, hT9⟩ := h9
        have hS2 := hS1.adv hc kk hT9
        refine p_iinc 79 dX6_read_76 rfl rfl rfl ?_
        dsimp only [List.set]
        refine p_goto 44 dX6_read_79 ?_
        have e : q_lines t n (j + 1) p ρ = q_lines t n j (q_en t n p1) ρ1 := by rw [q_lines_s, q_bindR_r hq, if_pos hk]
        have q1 := q_tk_lt (t := t) (n := n) (p := p1) (by omega)
        have q2 := q_at_le t g2
        have q3 := (q_en_le t g2).2.2 q1
        rw [e]
        exact ih (i + 1) (by omega) (q_en t n p1) ρ1 M7 hS2 hP1 (q_en_n t g2) (by omega)
      · have hk : ¬ q_tk t n p1 = 59 := fun g => h66 (q_srt3.mpr g)
        refine p_goto 82 dX6_read_69 ?_
        refine p_aload_n 83 dX6_read_82 rfl rfl (by decide) ?_
        refine p_getI 48 86 dX6_read_83 fX6_44 rfl ?_
        rw [hS1.2.1.2.2.1]
        refine p_if_eq 98 89 dX6_read_86 (by omega) (by omega) (fun h86 => ?_) (fun h86 => ?_)
        · have hk0 : ¬ q_tk t n p1 ≠ 0 := fun g => g (q_srt0.mp h86)
          refine p_aload_n 99 dX6_read_98 rfl rfl (by decide) ?_
          refine p_getR 48 102 dX6_read_99 fX6_19 rfl hS1.1.2.2.2.1 ?_
          refine p_getR (c) 105 dX6_read_102 fX6_51 (tt_c hc) (wi_0_3 hc hS1.1.1) ?_
          refine p_getI (c + 1) 108 dX6_read_105 fX6_55 (tt_1 hc) ?_
          rw [hS1.2.2.1.1.1.2.2.2.1]
          have b2 := hP1.1.2.1.2.2.1
          have n2 := hP1.1.1 2 (by omega)
          refine p_if_ne 118 111 dX6_read_108 (by omega) (by omega) (fun h108 => ?_) (fun h108 => ?_)
          · have hX := RD.r (c := c) (N := M) (r := q_lines t n (j + 1) p ρ) (by rw [q_lines_s, q_bindR_r hq, if_neg hk, if_neg hk0, if_neg (fun g => g.elim g3 h108)]) hS1
            refine p_vret dX6_read_118 rfl ?_
            exact ⟨rfl, hX⟩
          · refine p_aload_n 112 dX6_read_111 rfl rfl (by decide) ?_
            refine p_bipush 114 dX6_read_112 rfl ?_
            refine p_callV1i 48 117 dX6_read_114 (s_failR hn ht hc g2 hS1.w) lk_X6_47 mX6_fail rfl rfl (by decide) (Nat.le_of_ble_eq_true rfl) ?_
            rintro _ M7 ⟨rfl, hF⟩
            have hX := RD.l (c := c) (N := M) (r := q_lines t n (j + 1) p ρ) (by rw [q_lines_s, q_bindR_r hq, if_neg hk, if_neg hk0, if_pos (Or.inr (by omega))]) hF
            refine p_popI 118 dX6_read_117 ?_
            refine p_vret dX6_read_118 rfl ?_
            exact ⟨rfl, hX⟩
        · have hk0 : q_tk t n p1 ≠ 0 := fun g => h86 (q_srt0.mpr g)
          refine p_aload_n 90 dX6_read_89 rfl rfl (by decide) ?_
          refine p_iconst 91 dX6_read_90 ?_
          refine p_callV1i 48 94 dX6_read_91 (s_failR hn ht hc g2 hS1.w) lk_X6_47 mX6_fail rfl rfl (by decide) (Nat.le_of_ble_eq_true rfl) ?_
          rintro _ M7 ⟨rfl, hF⟩
          have hX := RD.l (c := c) (N := M) (r := q_lines t n (j + 1) p ρ) (by rw [q_lines_s, q_bindR_r hq, if_neg hk, if_pos hk0]) hF
          refine p_popI 95 dX6_read_94 ?_
          refine p_goto 118 dX6_read_95 ?_
          refine p_vret dX6_read_118 rfl ?_
          exact ⟨rfl, hX⟩
    · obtain ⟨e, hq, hF⟩ := h1.fail (by omega)
      have hX := RD.l (c := c) (N := M) (r := q_lines t n (j + 1) p ρ) (by rw [q_lines_s, q_bindR_l hq]) hF
      refine p_vret dX6_read_60 rfl ?_
      exact ⟨rfl, hX⟩
theorem s_read {l : Launch} {X : ZX} {M : ZM} {t : Nat → Int} {n c : Nat} (hn : n ≤ 900) (ht : ∀ i, i < n → 0 ≤ t i ∧ t i < 256) (hc : isC c) (hW : zWc M) (htx : ∀ i, i < n → M 1 i = q_sb (t i)) : zCv l X 9 yX6_read tX6_read [zr 48, zr 1, zi (n : Int), zr (c : Int)] M (fun M' => RD c M (q_parse t n) M') := by
  have hcl := hc.lt
  refine zC.of [some (zr 48), some (zr 1), some (zi (n : Int)), some (zr (c : Int)), none] (by decide +kernel) rfl rfl (Nat.le_of_ble_eq_true rfl) rfl ?_
  refine p_aload_n 1 dX6_read_0 rfl rfl (by decide) ?_
  refine p_aload_n 2 dX6_read_1 rfl rfl (by decide) ?_
  refine p_putR 48 5 dX6_read_2 wX6_9 rfl (by show (0 : Int) ≤ 1; decide) ?_
  refine p_aload_n 6 dX6_read_5 rfl rfl (by decide) ?_
  refine p_iload_n 7 dX6_read_6 rfl rfl ?_
  refine p_putI 48 10 dX6_read_7 wX6_15 rfl ?_
  refine p_aload_n 11 dX6_read_10 rfl rfl (by decide) ?_
  refine p_aload_n 12 dX6_read_11 rfl rfl (by omega) ?_
  refine p_putR 48 15 dX6_read_12 wX6_19 rfl (by show (0 : Int) ≤ (c : Int); omega) ?_
  refine p_aload_n 16 dX6_read_15 rfl rfl (by decide) ?_
  refine p_getR 48 19 dX6_read_16 fX6_19 rfl (zset_at _ _ _ _) ?_
  refine p_callV0v (c) 22 dX6_read_19 (s_clear hc (((hW.setc (by decide +kernel)).setc (by decide +kernel)).setc (by decide +kernel))) lk_X6_23 mX0_clear (tt_c hc) rfl (by decide) (Nat.le_of_ble_eq_true rfl) ?_
  rintro M9 ⟨hW9, hI9, hf9⟩
  refine p_aload_n 23 dX6_read_22 rfl rfl (by decide) ?_
  refine p_iconst 24 dX6_read_23 ?_
  refine p_putI 48 27 dX6_read_24 wX6_28 rfl ?_
  refine p_aload_n 28 dX6_read_27 rfl rfl (by decide) ?_
  refine p_iconst 29 dX6_read_28 ?_
  refine p_putI 48 32 dX6_read_29 wX6_31 rfl ?_
  refine p_aload_n 33 dX6_read_32 rfl rfl (by decide) ?_
  refine p_iconst 34 dX6_read_33 ?_
  refine p_putI 48 37 dX6_read_34 wX6_34 rfl ?_
  have e48 : M9 48 = (zset (zset (zset M 48 0 1) 48 1 (n : Int)) 48 2 (c : Int)) 48 := hf9 48 (by omega)
  have hW8 : zWc (zset (zset (zset M9 48 3 0) 48 8 0) 48 9 (-1)) := ((hW9.setc (by decide +kernel)).setc (by decide +kernel)).setc (by decide +kernel)
  have b0 : zset (zset (zset M9 48 3 0) 48 8 0) 48 9 (-1) 48 0 = 1 := by rw [zset_k (by decide), zset_k (by decide), zset_k (by decide), e48, zset_k (by decide), zset_k (by decide), zset_at]
  have b1 : zset (zset (zset M9 48 3 0) 48 8 0) 48 9 (-1) 48 1 = (n : Int) := by rw [zset_k (by decide), zset_k (by decide), zset_k (by decide), e48, zset_k (by decide), zset_at]
  have b2 : zset (zset (zset M9 48 3 0) 48 8 0) 48 9 (-1) 48 2 = (c : Int) := by rw [zset_k (by decide), zset_k (by decide), zset_k (by decide), e48, zset_at]
  have b3 : ∀ i, i < n → zset (zset (zset M9 48 3 0) 48 8 0) 48 9 (-1) 1 i = q_sb (t i) := fun i hi => by rw [zset_ne _ (by decide), zset_ne _ (by decide), zset_ne _ (by decide), hf9 1 (by omega), zset_ne _ (by decide), zset_ne _ (by decide), zset_ne _ (by decide)]; exact htx i hi
  have b4 : zset (zset (zset M9 48 3 0) 48 8 0) 48 9 (-1) 48 3 = ((0 : Nat) : Int) := by rw [zset_k (by decide), zset_k (by decide), zset_at]; rfl
  have b8 : zset (zset (zset M9 48 3 0) 48 8 0) 48 9 (-1) 48 8 = 0 := by rw [zset_k (by decide), zset_at]
  refine p_aload_n 38 dX6_read_37 rfl rfl (by decide) ?_
  refine p_callV0v 48 41 dX6_read_38 (s_advance hn ht (c := c) (p := 0) ⟨hW8, b0, b1, b2, b3⟩ (Nat.zero_le n) b4) lk_X6_37 mX6_advance rfl rfl (by decide) (Nat.le_of_ble_eq_true rfl) ?_
  rintro M7 ⟨kk, hT7⟩
  refine p_iconst 42 dX6_read_41 ?_
  refine p_istore 44 dX6_read_42 (Nat.le_of_ble_eq_true rfl) rfl rfl ?_
  dsimp only [List.set]
  refine l_read (M := M) hn ht hc (n + 1) 0 (Nat.zero_add _) 0 (fun _ => 0) M7 ⟨RB.of ⟨hW8, b0, b1, b2, b3⟩ kk, hT7, hI9.congr (fun a g1 g2 => ?_), fun a h1 h2 => ?_, (kk.2 8 (by omega)).trans b8⟩ PI.zero (Nat.zero_le n) (Nat.le_refl 0)
  · rw [kk.1 a (by omega), zset_ne _ (by omega), zset_ne _ (by omega), zset_ne _ (by omega)]
  · rw [kk.1 a h1, zset_ne _ h1, zset_ne _ h1, zset_ne _ h1, hf9 a h2, zset_ne _ h1, zset_ne _ h1, zset_ne _ h1]
