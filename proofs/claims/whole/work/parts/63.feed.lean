/-! FEED -/
theorem z_and255 (a : Int) : z_iand a 255 = (((Int32.ofInt a).toBitVec.toNat % 256 : Nat) : Int) := by
  unfold z_iand
  show ((Int32.ofInt a).toBitVec &&& (Int32.ofInt 255).toBitVec).toInt = _
  refine pz_bvInt ?_ (by have : (Int32.ofInt a).toBitVec.toNat % 256 < 256 := Nat.mod_lt _ (by decide); omega)
  rw [BitVec.toNat_and, show (Int32.ofInt 255).toBitVec.toNat = 2 ^ 8 - 1 from by decide, Nat.and_two_pow_sub_one_eq_mod]
theorem z_and255_bd (a : Int) : 0 ≤ z_iand a 255 ∧ z_iand a 255 < 256 := by
  rw [z_and255]
  have : (Int32.ofInt a).toBitVec.toNat % 256 < 256 := Nat.mod_lt _ (by decide)
  omega
theorem pz_bm (n : Nat) : Int.bmod (n : Int) 256 = q_sb ((n % 256 : Nat) : Int) := by
  unfold Int.bmod q_sb
  have h : n % 256 < 256 := Nat.mod_lt _ (by decide)
  have e : (n : Int) % ((256 : Nat) : Int) = ((n % 256 : Nat) : Int) := by omega
  rw [e]
  show (if ((n % 256 : Nat) : Int) < (((256 : Nat) : Int) + 1) / 2 then _ else _) = _
  have e2 : (((256 : Nat) : Int) + 1) / 2 = 128 := by decide
  rw [e2]
  split <;> rfl
theorem z_i2b_sb (a : Int) : z_i2b a = q_sb (z_iand a 255) := by
  unfold z_i2b
  rw [Int8.toInt_toInt32, Int32.toInt_toInt8]
  show Int.bmod (Int32.ofInt a).toBitVec.toInt (2 ^ 8) = _
  rw [BitVec.toInt_eq_toNat_bmod, show (2 : Nat) ^ 8 = 256 from rfl, Int.bmod_bmod_of_dvd (show (256 : Nat) ∣ 2 ^ 32 from ⟨16777216, by decide⟩), pz_bm, z_and255]
theorem q_sb_bd {x : Int} (h : 0 ≤ x ∧ x < 256) : -128 ≤ q_sb x ∧ q_sb x < 128 := by
  unfold q_sb
  split <;> omega
theorem z_byte_id {x : Int} (h1 : -128 ≤ x) (h2 : x < 128) : z_byte x = x := by
  show ((Int32.ofInt x).toInt8.toInt32).toInt = x
  rw [Int8.toInt_toInt32, Int32.toInt_toInt8]
  have h := w32_id (n := x) (by omega) (by omega)
  unfold w32 at h
  rw [h]
  exact Int.bmod_eq_of_le (by omega) (by omega)
theorem z_rem4 {x : Nat} (hx : x < 2147483648) : z_irem (x : Int) 4 = ((x % 4 : Nat) : Int) := z_irem_n x 4 hx (by decide)
def byt (n : Int) (j : Nat) : Int := z_iand (z_ishr n (24 - 8 * (j : Int))) 255
/-- so many bytes are put: the class's, the model's -/
def zfeed (M : ZM) (g : Nat → Int) (t i : Nat) : ZM := fun x y => if x = 1 ∧ t ≤ y ∧ y < t + i then q_sb (g (y - t)) else if x = 0 ∧ y = 1 then ((t + i : Nat) : Int) else M x y
def zfeedm (M : ZM) (g : Nat → Int) (t i : Nat) : ZM := fun x y => if x = 125 ∧ t ≤ y ∧ y < t + i then g (y - t) else if x = 124 ∧ y = 2 then ((t + i : Nat) : Int) else M x y
theorem zfeed_zero {M : ZM} {g : Nat → Int} {t : Nat} (h : M 0 1 = (t : Int)) : zfeed M g t 0 = M := by
  funext x y
  unfold zfeed
  rw [if_neg (by omega)]
  split
  · rename_i e
    rw [e.1, e.2, h]
    rfl
  · rfl
theorem zfeedm_zero {M : ZM} {g : Nat → Int} {t : Nat} (h : M 124 2 = (t : Int)) : zfeedm M g t 0 = M := by
  funext x y
  unfold zfeedm
  rw [if_neg (by omega)]
  split
  · rename_i e
    rw [e.1, e.2, h]
    rfl
  · rfl
theorem zfeed_step {M : ZM} {g : Nat → Int} {t i : Nat} {v w : Int} (hv : v = q_sb (g i)) (hw : w = ((t + i + 1 : Nat) : Int)) : zset (zset (zfeed M g t i) 1 (t + i) v) 0 1 w = zfeed M g t (i + 1) := by
  subst hv
  subst hw
  funext x y
  unfold zset zfeed
  by_cases e0 : x = 0
  · subst e0
    rw [if_pos rfl]
    by_cases e1 : y = 1
    · rw [if_pos e1, if_neg (by omega), if_pos ⟨rfl, e1⟩]
      rfl
    · rw [if_neg e1, if_neg (by omega), if_neg (by omega), if_neg (by omega), if_neg (by omega), if_neg (by omega)]
  · rw [if_neg e0]
    by_cases e1 : x = 1
    · subst e1
      rw [if_pos rfl]
      by_cases e2 : y = t + i
      · rw [if_pos e2, if_pos (by omega), show y - t = i by omega]
      · rw [if_neg e2]
        by_cases e3 : t ≤ y ∧ y < t + i
        · rw [if_pos ⟨rfl, e3⟩, if_pos (by omega)]
        · rw [if_neg (by omega), if_neg (by omega), if_neg (by omega), if_neg (by omega)]
    · rw [if_neg e1, if_neg (by omega), if_neg (by omega), if_neg (by omega), if_neg (by omega)]
theorem zfeedm_step {M : ZM} {g : Nat → Int} {t i : Nat} {v w : Int} (hv : v = g i) (hw : w = ((t + i + 1 : Nat) : Int)) : zset (zset (zfeedm M g t i) 125 (t + i) v) 124 2 w = zfeedm M g t (i + 1) := by
  subst hv
  subst hw
  funext x y
  unfold zset zfeedm
  by_cases e0 : x = 124
  · subst e0
    rw [if_pos rfl]
    by_cases e1 : y = 2
    · rw [if_pos e1, if_neg (by omega), if_pos ⟨rfl, e1⟩]
      rfl
    · rw [if_neg e1, if_neg (by omega), if_neg (by omega), if_neg (by omega), if_neg (by omega), if_neg (by omega)]
  · rw [if_neg e0]
    by_cases e1 : x = 125
    · subst e1
      rw [if_pos rfl]
      by_cases e2 : y = t + i
      · rw [if_pos e2, if_pos (by omega), show y - t = i by omega]
      · rw [if_neg e2]
        by_cases e3 : t ≤ y ∧ y < t + i
        · rw [if_pos ⟨rfl, e3⟩, if_pos (by omega)]
        · rw [if_neg (by omega), if_neg (by omega), if_neg (by omega), if_neg (by omega)]
    · rw [if_neg e1, if_neg (by omega), if_neg (by omega), if_neg (by omega), if_neg (by omega)]
theorem zfeed_ne {M : ZM} {g : Nat → Int} {t i x : Nat} (h0 : x ≠ 0) (h1 : x ≠ 1) : zfeed M g t i x = M x := by
  funext y
  unfold zfeed
  rw [if_neg (by omega), if_neg (by omega)]
theorem zfeed_k {M : ZM} {g : Nat → Int} {t i y : Nat} (h : y ≠ 1) : zfeed M g t i 0 y = M 0 y := by
  unfold zfeed
  rw [if_neg (by omega), if_neg (by omega)]
theorem zfeedm_ne {M : ZM} {g : Nat → Int} {t i x : Nat} (h0 : x ≠ 124) (h1 : x ≠ 125) : zfeedm M g t i x = M x := by
  funext y
  unfold zfeedm
  rw [if_neg (by omega), if_neg (by omega)]
theorem zfeedm_k {M : ZM} {g : Nat → Int} {t i y : Nat} (h : y ≠ 2) : zfeedm M g t i 124 y = M 124 y := by
  unfold zfeedm
  rw [if_neg (by omega), if_neg (by omega)]
theorem zfeed_wc {M : ZM} {g : Nat → Int} {t i : Nat} (hW : zWc M) : zWc (zfeed M g t i) := hW.fr (fun q hq => by
  have hr : ∀ q ∈ zwC, q.1 ≠ 1 ∧ (q.1 = 0 → q.2.1 ≠ 1) := by decide +kernel
  have h := hr q hq
  by_cases e : q.1 = 0
  · rw [e]
    exact zfeed_k (h.2 e)
  · rw [zfeed_ne e h.1])
theorem zfeedm_wm {M : ZM} {g : Nat → Int} {t i : Nat} (hW : zWm M) : zWm (zfeedm M g t i) := by
  intro q hq
  have hr : ∀ q ∈ zwM, q.1 ≠ 125 ∧ (q.1 = 124 → q.2.1 ≠ 2) := by decide +kernel
  have h := hr q hq
  by_cases e : q.1 = 124
  · have := hW q hq
    rw [e] at this ⊢
    rw [zfeedm_k (h.2 e)]
    exact this
  · rw [zfeedm_ne e h.1]
    exact hW q hq
def q_arg (a b c d e : Int) (i : Nat) : Int := if i = 0 then a else if i = 1 then b else if i = 2 then c else if i = 3 then d else e
def q_fb (a b c d e : Int) (j : Nat) : Int := byt (q_arg a b c d e (j / 4)) (j % 4)
theorem q_fb_bd (a b c d e : Int) (j : Nat) : 0 ≤ q_fb a b c d e j ∧ q_fb a b c d e j < 256 := z_and255_bd _
def ga_feed (M : ZM) (a b c d e : Int) : Int × ZM := if 880 < M 124 2 then (-1, M) else (M 124 2 + 20, zfeedm M (q_fb a b c d e) (M 124 2).toNat 20)
theorem WF.feed {M : ZM} (hF : WF M) (a b c d e : Int) : WF (ga_feed M a b c d e).2 := by
  unfold ga_feed
  split
  · exact hF
  · rename_i h
    show WF (zfeedm M (q_fb a b c d e) (M 124 2).toNat 20)
    obtain ⟨a1, a2, a3, a4, a5, a6, a7, a8, a9, a10, a11, a12, a13, a14, a15⟩ := hF
    unfold WF
    rw [zfeedm_ne (x := 127) (by decide) (by decide), zfeedm_ne (x := 129) (by decide) (by decide), zfeedm_ne (x := 130) (by decide) (by decide), zfeedm_ne (x := 131) (by decide) (by decide), zfeedm_k (y := 11) (by decide), zfeedm_k (y := 9) (by decide), zfeedm_k (y := 10) (by decide), zfeedm_k (y := 14) (by decide), zfeedm_k (y := 20) (by decide), zfeedm_k (y := 21) (by decide)]
    refine ⟨?_, fun i hi => ?_, a3, a4, a5, a6, a7, a8, a9, a10, a11, a12, a13, a14, a15⟩
    · show 0 ≤ (((M 124 2).toNat + 20 : Nat) : Int) ∧ (((M 124 2).toNat + 20 : Nat) : Int) ≤ 900
      omega
    · unfold zfeedm
      split
      · exact q_fb_bd a b c d e _
      · rw [if_neg (by omega)]
        exact a2 i hi
theorem IC.feed {s M : ZM} (h : IC s M) (hF : WF s) {g : Nat → Int} {t : Nat} (ht : s 124 2 = (t : Int)) : IC (zfeedm s g t 20) (zfeed M g t 20) := by
  obtain ⟨i1, ⟨c, c', hcc, hc1, hc2, hc3⟩, ⟨j1, j2, j3, j4, j5⟩, i4, ⟨p1, p2, top, htp, p3, p4, p5⟩, i6, ⟨⟨z1, z2, z3, z4⟩, i7⟩, i8⟩ := id h
  have hm3 := hF.m
  have hn : ∀ x, 2 ≤ x → zfeed M g t 20 x = M x := fun x hx => zfeed_ne (by omega) (by omega)
  unfold IC
  rw [zfeedm_ne (x := 127) (by decide) (by decide), zfeedm_ne (x := 129) (by decide) (by decide), zfeedm_ne (x := 130) (by decide) (by decide), zfeedm_ne (x := 131) (by decide) (by decide), zfeedm_k (y := 11) (by decide), zfeedm_k (y := 9) (by decide), zfeedm_k (y := 10) (by decide), zfeedm_k (y := 14) (by decide), zfeedm_k (y := 20) (by decide), zfeedm_k (y := 21) (by decide)]
  have e2 : zfeedm s g t 20 124 2 = ((t + 20 : Nat) : Int) := rfl
  have e1 : zfeed M g t 20 0 1 = ((t + 20 : Nat) : Int) := rfl
  rw [e2]
  refine ⟨zfeed_wc i1, ⟨c, c', hcc, (zfeed_k (by decide)).trans hc1, (zfeed_k (by decide)).trans hc2, hc3.congr (fun a g1 g2 => hn a (by omega))⟩, ⟨e1, fun i hi => ?_, (zfeed_k (by decide)).trans j3, (zfeed_k (by decide)).trans j4, fun h9 => (zfeed_k (by decide)).trans (j5 h9)⟩, i4.congr (hn _ (by omega)) (hn _ (by omega)) (hn _ (by omega)), ⟨?_, ?_, top, htp, ?_, fun j hj => ?_, fun j hj => ?_⟩, ?_, ⟨⟨?_, ?_, ?_, ?_⟩, ?_⟩, ?_⟩
  · unfold zfeed zfeedm
    by_cases e : t ≤ i
    · rw [if_pos ⟨rfl, e, by omega⟩, if_pos ⟨rfl, e, by omega⟩]
    · rw [if_neg (by omega), if_neg (by omega), if_neg (by omega), if_neg (by omega)]
      exact j2 i (by omega)
  · rw [hn 52 (by omega)]; exact p1
  · rw [hn 52 (by omega)]; exact p2
  · rw [hn 52 (by omega)]; exact p3
  · exact (p4 j hj).congr (hn _ (by omega)) (hn _ (by omega)) (hn _ (by omega))
  · exact (p5 j hj).congr (hn _ (by omega)) (hn _ (by omega)) (hn _ (by omega))
  · rw [hn 112 (by omega)]
    exact i6.imp id (fun g => ⟨g.1, g.2.congr (hn _ (by omega)) (hn _ (by omega)) (hn _ (by omega))⟩)
  · rw [hn 116 (by omega)]; exact z1
  · rw [hn 117 (by omega)]; exact z2
  · rw [hn 118 (by omega)]; exact z3
  · rw [hn 119 (by omega)]; exact z4
  · rw [hn 115 (by omega)]
    exact i7.imp id (fun g => ⟨g.1, g.2.congr (hn _ (by omega)) (hn _ (by omega)) (hn _ (by omega)) (hn _ (by omega)) (hn _ (by omega))⟩)
  · rw [hn 121 (by omega)]
    exact i8.imp id (fun g => ⟨g.1, g.2.congr (hn _ (by omega))⟩)
theorem l_putBytes {l : Launch} {X : ZX} {M : ZM} (hW : zWc M) {g : Nat → Int} {t k : Nat} {n : Int} (ht : t + 20 ≤ 900) (hk : k + 4 ≤ 20) (hg : ∀ j, j < 4 → g (k + j) = byt n j) : ∀ (j i : Nat), i + j = 4 → zP l X 0 tX11_putBytes 3 [some (zr 0), some (zi n), some (zi (24 - 8 * (i : Int)))] [] (zfeed M g t (k + i)) (fun r M' => r = none ∧ M' = zfeed M g t (k + 4)) := by
  intro j
  induction j with
  | zero =>
    intro i hi
    have hW9 : zWc (zfeed M g t (k + i)) := zfeed_wc hW
    refine p_iload_n 4 dX11_putBytes_3 rfl rfl ?_
    refine p_if_lt 46 7 dX11_putBytes_4 (by omega) (by omega) (fun h4 => ?_) (fun h4 => absurd (by omega) (fun h9 : False => h9))
    refine p_vret dX11_putBytes_46 rfl ?_
    rw [Nat.add_zero] at hi
    subst hi
    exact ⟨rfl, rfl⟩
  | succ j ih =>
    intro i hi
    have hW9 : zWc (zfeed M g t (k + i)) := zfeed_wc hW
    have e01 : zfeed M g t (k + i) 0 1 = ((t + (k + i) : Nat) : Int) := rfl
    refine p_iload_n 4 dX11_putBytes_3 rfl rfl ?_
    refine p_if_lt 46 7 dX11_putBytes_4 (by omega) (by omega) (fun h4 => absurd (by omega) (fun h9 : False => h9)) (fun h4 => ?_)
    refine p_aload_n 8 dX11_putBytes_7 rfl rfl (by decide) ?_
    refine p_getI 0 11 dX11_putBytes_8 fX11_65 rfl ?_
    rw [e01]
    refine p_sipush 14 dX11_putBytes_11 rfl ?_
    refine p_icmp_ge 40 17 dX11_putBytes_14 (by omega) (by omega) (by omega) (by omega) (fun h14 => absurd (by omega) (fun h9 : False => h9)) (fun h14 => ?_)
    refine p_aload_n 18 dX11_putBytes_17 rfl rfl (by decide) ?_
    refine p_getR 0 21 dX11_putBytes_18 fX11_9 rfl (hW9 (0, 0, 1) (by decide)) ?_
    refine p_aload_n 22 dX11_putBytes_21 rfl rfl (by decide) ?_
    refine p_getI 0 25 dX11_putBytes_22 fX11_65 rfl ?_
    rw [e01]
    refine p_iload_n 26 dX11_putBytes_25 rfl rfl ?_
    refine p_iload_n 27 dX11_putBytes_26 rfl rfl ?_
    refine p_ishr 28 dX11_putBytes_27 ?_
    refine p_i2b 29 dX11_putBytes_28 ?_
    refine p_bastn 1 30 (t + (k + i)) dX11_putBytes_29 rfl (by omega) (by omega) ?_
    refine p_aload_n 31 dX11_putBytes_30 rfl rfl (by decide) ?_
    refine p_dupR 32 dX11_putBytes_31 ?_
    refine p_getI 0 35 dX11_putBytes_32 fX11_65 rfl ?_
    rw [zset_ne _ (by decide), e01]
    refine p_iconst 36 dX11_putBytes_35 ?_
    refine p_iadd 37 dX11_putBytes_36 ?_
    refine p_putI 0 40 dX11_putBytes_37 wX11_65 rfl ?_
    refine p_iinc 43 dX11_putBytes_40 rfl rfl rfl ?_
    dsimp only [List.set]
    refine p_goto 3 dX11_putBytes_43 ?_
    have e := ih (i + 1) (by omega)
    rw [show (24 - 8 * ((i + 1 : Nat) : Int)) = 24 - 8 * (i : Int) + -8 by omega, show k + (i + 1) = k + i + 1 by omega] at e
    rw [zfeed_step (M := M) (g := g) (t := t) (i := k + i) ?_ ?_]
    · exact e
    · rw [z_i2b_sb, z_byte_id (q_sb_bd (z_and255_bd _)).1 (q_sb_bd (z_and255_bd _)).2, hg i (by omega)]
      rfl
    · omega
theorem s_putBytes {l : Launch} {X : ZX} {M : ZM} (hW : zWc M) {g : Nat → Int} {t k : Nat} {n : Int} (ht : t + 20 ≤ 900) (hk : k + 4 ≤ 20) (hg : ∀ j, j < 4 → g (k + j) = byt n j) : zCv l X 0 yX11_putBytes tX11_putBytes [zr 0, zi n] (zfeed M g t k) (fun M' => M' = zfeed M g t (k + 4)) := by
  refine zC.of [some (zr 0), some (zi n), none] (by decide +kernel) rfl rfl (Nat.le_of_ble_eq_true rfl) rfl ?_
  refine p_bipush 2 dX11_putBytes_0 rfl ?_
  refine p_istore_n 3 dX11_putBytes_2 rfl (Nat.le_of_ble_eq_true rfl) rfl rfl ?_
  dsimp only [List.set]
  exact l_putBytes hW ht hk hg 4 0 rfl
theorem q_fb_at {a b c d e : Int} {k j : Nat} (hj : j < 4) : q_fb a b c d e (4 * k + j) = byt (q_arg a b c d e k) j := by
  unfold q_fb
  rw [show (4 * k + j) / 4 = k by omega, show (4 * k + j) % 4 = j by omega]
theorem c_feed {l : Launch} {X : ZX} {M : ZM} (hI : IC M M) (hF : WF M) {x1 : Int} (hx11 : -2147483648 ≤ x1) (hx12 : x1 < 2147483648) {x2 : Int} (hx21 : -2147483648 ≤ x2) (hx22 : x2 < 2147483648) {x3 : Int} (hx31 : -2147483648 ≤ x3) (hx32 : x3 < 2147483648) {x4 : Int} (hx41 : -2147483648 ≤ x4) (hx42 : x4 < 2147483648) {x5 : Int} (hx51 : -2147483648 ≤ x5) (hx52 : x5 < 2147483648) : zCi l X 1 yX11_feed tX11_feed [zr 0, zi x1, zi x2, zi x3, zi x4, zi x5] M (CA M (ga_feed M x1 x2 x3 x4 x5)) := by
  obtain ⟨hW, ⟨c, c', hcc, hco, hsp, hC⟩, ⟨j1, j2, j3, j4, j5⟩, hN, hpast, hten, ⟨hz0, hsea⟩, hfit⟩ := id hI
  have hR := hF.r
  have hT := hF.t
  have hh := hF.h
  have e0 : M 127 0 = (q_n (M 127) 0 : Int) := hR.n (by decide)
  have e2 : M 127 2 = (q_n (M 127) 2 : Int) := hR.n (by decide)
  have e3 : M 127 3 = (q_n (M 127) 3 : Int) := hR.n (by decide)
  have e4 : M 127 4 = (q_n (M 127) 4 : Int) := hR.n (by decide)
  have bR := hR.2.1
  have h20 : M 124 14 = 0 → M 127 2 = 0 := fun h => hF.r0 h 2 (by decide)
  have h30 : M 124 14 = 0 → M 127 3 = 0 := fun h => hF.r0 h 3 (by decide)
  have h40 : M 124 14 = 0 → M 127 4 = 0 := fun h => hF.r0 h 4 (by decide)
  have hwo : M 49 3 = M 129 16 := hN.2.2.2.1
  have t160 := hT.1 16 (by decide)
  have t161 := hT.2.2.2.2.1
  refine zC.of [some (zr 0), some (zi x1), some (zi x2), some (zi x3), some (zi x4), some (zi x5)] (by decide +kernel) rfl rfl (Nat.le_of_ble_eq_true rfl) rfl ?_
  rcases hcc with ⟨rfl, rfl⟩ | ⟨rfl, rfl⟩
  · have hto : M 2 0 = M 124 14 := hC.1.1
    have hla : M 2 1 = M 127 0 := hC.1.2.1
    have hsn : M 2 2 = M 127 1 := hC.1.2.2.1
    have hcs : M 3 0 = M 127 2 := hC.1.2.2.2.1
    have hca : M 8 0 = M 127 3 := hC.1.2.2.2.2.1
    have hcw : M 13 0 = M 127 4 := hC.1.2.2.2.2.2.1
    have hcb : M 13 1 = M 127 5 := hC.1.2.2.2.2.2.2.1
    have hcor : M 19 0 = M 127 6 := hC.1.2.2.2.2.2.2.2.1
    have hcn : M 19 4 = M 127 7 := hC.1.2.2.2.2.2.2.2.2
    obtain ⟨t, ht⟩ : ∃ t : Nat, M 124 2 = (t : Int) := ⟨(M 124 2).toNat, by have := hF.1; omega⟩
    have hF1 := hF.1
    refine p_aload_n 1 dX11_feed_0 rfl rfl (by decide) ?_
    refine p_getI 0 4 dX11_feed_1 fX11_65 rfl ?_
    rw [j1, ht]
    refine p_sipush 7 dX11_feed_4 rfl ?_
    refine p_icmp_le 12 10 dX11_feed_7 (by omega) (by omega) (by decide) (by decide) (fun h7 => ?_) (fun h7 => ?_)
    · have hz : zfeed M (q_fb x1 x2 x3 x4 x5) t 0 = M := zfeed_zero (j1.trans ht)
      refine Eq.mp (congrArg (fun N => zP l X 1 tX11_feed 12 [some (zr 0), some (zi x1), some (zi x2), some (zi x3), some (zi x4), some (zi x5)] [] N (fun r M' => ∃ a, r = some (zi a) ∧ CA M (ga_feed M x1 x2 x3 x4 x5) a M')) hz) ?_
      show zP l X 1 tX11_feed 12 _ _ (zfeed M (q_fb x1 x2 x3 x4 x5) t 0) _
      refine p_aload_n 13 dX11_feed_12 rfl rfl (by decide) ?_
      refine p_iload_n 14 dX11_feed_13 rfl rfl ?_
      refine p_callV1v 0 17 dX11_feed_14 (s_putBytes hW (g := (q_fb x1 x2 x3 x4 x5)) (t := t) (k := 0) (n := x1) (by omega) (by decide) (fun j hj => q_fb_at (k := 0) hj)) lk_X11_69 mX11_putBytes rfl rfl (by decide) (Nat.le_of_ble_eq_true rfl) ?_
      intro M9 e9
      subst e9
      refine p_aload_n 18 dX11_feed_17 rfl rfl (by decide) ?_
      refine p_iload_n 19 dX11_feed_18 rfl rfl ?_
      refine p_callV1v 0 22 dX11_feed_19 (s_putBytes hW (g := (q_fb x1 x2 x3 x4 x5)) (t := t) (k := 4) (n := x2) (by omega) (by decide) (fun j hj => q_fb_at (k := 1) hj)) lk_X11_69 mX11_putBytes rfl rfl (by decide) (Nat.le_of_ble_eq_true rfl) ?_
      intro M9 e9
      subst e9
      refine p_aload_n 23 dX11_feed_22 rfl rfl (by decide) ?_
      refine p_iload_n 24 dX11_feed_23 rfl rfl ?_
      refine p_callV1v 0 27 dX11_feed_24 (s_putBytes hW (g := (q_fb x1 x2 x3 x4 x5)) (t := t) (k := 8) (n := x3) (by omega) (by decide) (fun j hj => q_fb_at (k := 2) hj)) lk_X11_69 mX11_putBytes rfl rfl (by decide) (Nat.le_of_ble_eq_true rfl) ?_
      intro M9 e9
      subst e9
      refine p_aload_n 28 dX11_feed_27 rfl rfl (by decide) ?_
      refine p_iload 30 dX11_feed_28 rfl ?_
      refine p_callV1v 0 33 dX11_feed_30 (s_putBytes hW (g := (q_fb x1 x2 x3 x4 x5)) (t := t) (k := 12) (n := x4) (by omega) (by decide) (fun j hj => q_fb_at (k := 3) hj)) lk_X11_69 mX11_putBytes rfl rfl (by decide) (Nat.le_of_ble_eq_true rfl) ?_
      intro M9 e9
      subst e9
      refine p_aload_n 34 dX11_feed_33 rfl rfl (by decide) ?_
      refine p_iload 36 dX11_feed_34 rfl ?_
      refine p_callV1v 0 39 dX11_feed_36 (s_putBytes hW (g := (q_fb x1 x2 x3 x4 x5)) (t := t) (k := 16) (n := x5) (by omega) (by decide) (fun j hj => q_fb_at (k := 4) hj)) lk_X11_69 mX11_putBytes rfl rfl (by decide) (Nat.le_of_ble_eq_true rfl) ?_
      intro M9 e9
      subst e9
      refine p_aload_n 40 dX11_feed_39 rfl rfl (by decide) ?_
      refine p_getI 0 43 dX11_feed_40 fX11_65 rfl ?_
      refine p_iret dX11_feed_43 rfl ?_
      refine ⟨_, rfl, ?_⟩
      unfold ga_feed
      rw [if_neg (by omega)]
      refine ⟨?_, ?_, fun k hk => zfeed_ne (by omega) (by omega)⟩
      · show ((t + 20 : Nat) : Int) = M 124 2 + 20
        omega
      · show IC (zfeedm M (q_fb x1 x2 x3 x4 x5) (M 124 2).toNat 20) (zfeed M (q_fb x1 x2 x3 x4 x5) t 20)
        rw [show (M 124 2).toNat = t by omega]
        exact hI.feed hF ht
    · refine p_iconst 11 dX11_feed_10 ?_
      refine p_iret dX11_feed_11 rfl ?_
      exact ⟨_, rfl, by unfold ga_feed; rw [if_pos (by omega)]; exact ⟨rfl, hI, fun _ _ => rfl⟩⟩
  · have hto : M 25 0 = M 124 14 := hC.1.1
    have hla : M 25 1 = M 127 0 := hC.1.2.1
    have hsn : M 25 2 = M 127 1 := hC.1.2.2.1
    have hcs : M 26 0 = M 127 2 := hC.1.2.2.2.1
    have hca : M 31 0 = M 127 3 := hC.1.2.2.2.2.1
    have hcw : M 36 0 = M 127 4 := hC.1.2.2.2.2.2.1
    have hcb : M 36 1 = M 127 5 := hC.1.2.2.2.2.2.2.1
    have hcor : M 42 0 = M 127 6 := hC.1.2.2.2.2.2.2.2.1
    have hcn : M 42 4 = M 127 7 := hC.1.2.2.2.2.2.2.2.2
    obtain ⟨t, ht⟩ : ∃ t : Nat, M 124 2 = (t : Int) := ⟨(M 124 2).toNat, by have := hF.1; omega⟩
    have hF1 := hF.1
    refine p_aload_n 1 dX11_feed_0 rfl rfl (by decide) ?_
    refine p_getI 0 4 dX11_feed_1 fX11_65 rfl ?_
    rw [j1, ht]
    refine p_sipush 7 dX11_feed_4 rfl ?_
    refine p_icmp_le 12 10 dX11_feed_7 (by omega) (by omega) (by decide) (by decide) (fun h7 => ?_) (fun h7 => ?_)
    · have hz : zfeed M (q_fb x1 x2 x3 x4 x5) t 0 = M := zfeed_zero (j1.trans ht)
      refine Eq.mp (congrArg (fun N => zP l X 1 tX11_feed 12 [some (zr 0), some (zi x1), some (zi x2), some (zi x3), some (zi x4), some (zi x5)] [] N (fun r M' => ∃ a, r = some (zi a) ∧ CA M (ga_feed M x1 x2 x3 x4 x5) a M')) hz) ?_
      show zP l X 1 tX11_feed 12 _ _ (zfeed M (q_fb x1 x2 x3 x4 x5) t 0) _
      refine p_aload_n 13 dX11_feed_12 rfl rfl (by decide) ?_
      refine p_iload_n 14 dX11_feed_13 rfl rfl ?_
      refine p_callV1v 0 17 dX11_feed_14 (s_putBytes hW (g := (q_fb x1 x2 x3 x4 x5)) (t := t) (k := 0) (n := x1) (by omega) (by decide) (fun j hj => q_fb_at (k := 0) hj)) lk_X11_69 mX11_putBytes rfl rfl (by decide) (Nat.le_of_ble_eq_true rfl) ?_
      intro M9 e9
      subst e9
      refine p_aload_n 18 dX11_feed_17 rfl rfl (by decide) ?_
      refine p_iload_n 19 dX11_feed_18 rfl rfl ?_
      refine p_callV1v 0 22 dX11_feed_19 (s_putBytes hW (g := (q_fb x1 x2 x3 x4 x5)) (t := t) (k := 4) (n := x2) (by omega) (by decide) (fun j hj => q_fb_at (k := 1) hj)) lk_X11_69 mX11_putBytes rfl rfl (by decide) (Nat.le_of_ble_eq_true rfl) ?_
      intro M9 e9
      subst e9
      refine p_aload_n 23 dX11_feed_22 rfl rfl (by decide) ?_
      refine p_iload_n 24 dX11_feed_23 rfl rfl ?_
      refine p_callV1v 0 27 dX11_feed_24 (s_putBytes hW (g := (q_fb x1 x2 x3 x4 x5)) (t := t) (k := 8) (n := x3) (by omega) (by decide) (fun j hj => q_fb_at (k := 2) hj)) lk_X11_69 mX11_putBytes rfl rfl (by decide) (Nat.le_of_ble_eq_true rfl) ?_
      intro M9 e9
      subst e9
      refine p_aload_n 28 dX11_feed_27 rfl rfl (by decide) ?_
      refine p_iload 30 dX11_feed_28 rfl ?_
      refine p_callV1v 0 33 dX11_feed_30 (s_putBytes hW (g := (q_fb x1 x2 x3 x4 x5)) (t := t) (k := 12) (n := x4) (by omega) (by decide) (fun j hj => q_fb_at (k := 3) hj)) lk_X11_69 mX11_putBytes rfl rfl (by decide) (Nat.le_of_ble_eq_true rfl) ?_
      intro M9 e9
      subst e9
      refine p_aload_n 34 dX11_feed_33 rfl rfl (by decide) ?_
      refine p_iload 36 dX11_feed_34 rfl ?_
      refine p_callV1v 0 39 dX11_feed_36 (s_putBytes hW (g := (q_fb x1 x2 x3 x4 x5)) (t := t) (k := 16) (n := x5) (by omega) (by decide) (fun j hj => q_fb_at (k := 4) hj)) lk_X11_69 mX11_putBytes rfl rfl (by decide) (Nat.le_of_ble_eq_true rfl) ?_
      intro M9 e9
      subst e9
      refine p_aload_n 40 dX11_feed_39 rfl rfl (by decide) ?_
      refine p_getI 0 43 dX11_feed_40 fX11_65 rfl ?_
      refine p_iret dX11_feed_43 rfl ?_
      refine ⟨_, rfl, ?_⟩
      unfold ga_feed
      rw [if_neg (by omega)]
      refine ⟨?_, ?_, fun k hk => zfeed_ne (by omega) (by omega)⟩
      · show ((t + 20 : Nat) : Int) = M 124 2 + 20
        omega
      · show IC (zfeedm M (q_fb x1 x2 x3 x4 x5) (M 124 2).toNat 20) (zfeed M (q_fb x1 x2 x3 x4 x5) t 20)
        rw [show (M 124 2).toNat = t by omega]
        exact hI.feed hF ht
    · refine p_iconst 11 dX11_feed_10 ?_
      refine p_iret dX11_feed_11 rfl ?_
      exact ⟨_, rfl, by unfold ga_feed; rw [if_pos (by omega)]; exact ⟨rfl, hI, fun _ _ => rfl⟩⟩
theorem l_feedM {l : Launch} {X : ZX} {M : ZM} (hW : zWm M) {x1 x2 x3 x4 x5 : Int} {t : Nat} (ht : t + 20 ≤ 900) : ∀ (j i : Nat), i + j = 20 → ∀ o7 : Option ZV, zP l X 0 tX12_feed 23 [some (zr 124), some (zi x1), some (zi x2), some (zi x3), some (zi x4), some (zi x5), some (zi (i : Int)), o7] [] (zfeedm M (q_fb x1 x2 x3 x4 x5) t i) (fun r M' => r = some (zi ((t + 20 : Nat) : Int)) ∧ M' = zfeedm M (q_fb x1 x2 x3 x4 x5) t 20) := by
  intro j
  induction j with
  | zero =>
    intro i hi o7
    have hW9 : zWm (zfeedm M (q_fb x1 x2 x3 x4 x5) t i) := zfeedm_wm hW
    refine p_iload 25 dX12_feed_23 rfl ?_
    refine p_bipush 27 dX12_feed_25 rfl ?_
    refine p_icmp_ge 120 30 dX12_feed_27 (by omega) (by omega) (by omega) (by omega) (fun h27 => ?_) (fun h27 => absurd (by omega) (fun h9 : False => h9))
    refine p_aload_n 121 dX12_feed_120 rfl rfl (by decide) ?_
    refine p_getI 124 124 dX12_feed_121 fX12_59 rfl ?_
    refine p_iret dX12_feed_124 rfl ?_
    rw [Nat.add_zero] at hi
    subst hi
    exact ⟨rfl, rfl⟩
  | succ j ih =>
    intro i hi o7
    have hW9 : zWm (zfeedm M (q_fb x1 x2 x3 x4 x5) t i) := zfeedm_wm hW
    have e02 : zfeedm M (q_fb x1 x2 x3 x4 x5) t i 124 2 = ((t + i : Nat) : Int) := rfl
    refine p_iload 25 dX12_feed_23 rfl ?_
    refine p_bipush 27 dX12_feed_25 rfl ?_
    refine p_icmp_ge 120 30 dX12_feed_27 (by omega) (by omega) (by omega) (by omega) (fun h27 => absurd (by omega) (fun h9 : False => h9)) (fun h27 => ?_)
    refine p_iload 32 dX12_feed_30 rfl ?_
    refine p_iconst 33 dX12_feed_32 ?_
    refine p_icmp_ge 40 36 dX12_feed_33 (by omega) (by omega) (by decide) (by decide) (fun h33 => ?_) (fun h33 => ?_)
    · refine p_iload 42 dX12_feed_40 rfl ?_
      refine p_bipush 44 dX12_feed_42 rfl ?_
      refine p_icmp_ge 51 47 dX12_feed_44 (by omega) (by omega) (by decide) (by decide) (fun h44 => ?_) (fun h44 => ?_)
      · refine p_iload 53 dX12_feed_51 rfl ?_
        refine p_bipush 55 dX12_feed_53 rfl ?_
        refine p_icmp_ge 62 58 dX12_feed_55 (by omega) (by omega) (by decide) (by decide) (fun h55 => ?_) (fun h55 => ?_)
        · refine p_iload 64 dX12_feed_62 rfl ?_
          refine p_bipush 66 dX12_feed_64 rfl ?_
          refine p_icmp_ge 74 69 dX12_feed_66 (by omega) (by omega) (by decide) (by decide) (fun h66 => ?_) (fun h66 => ?_)
          · have hw : q_arg x1 x2 x3 x4 x5 (i / 4) = x5 := by unfold q_arg; rw [if_neg (by omega), if_neg (by omega), if_neg (by omega), if_neg (by omega)]
            refine p_iload 76 dX12_feed_74 rfl ?_
            refine p_istore 78 dX12_feed_76 (Nat.le_of_ble_eq_true rfl) rfl rfl ?_
            dsimp only [List.set]
            refine p_aload_n 79 dX12_feed_78 rfl rfl (by decide) ?_
            refine p_getR 124 82 dX12_feed_79 fX12_7 rfl (hW9 (124, 1, 125) (by decide)) ?_
            refine p_aload_n 83 dX12_feed_82 rfl rfl (by decide) ?_
            refine p_getI 124 86 dX12_feed_83 fX12_59 rfl ?_
            rw [e02]
            refine p_iload 88 dX12_feed_86 rfl ?_
            refine p_bipush 90 dX12_feed_88 rfl ?_
            refine p_bipush 92 dX12_feed_90 rfl ?_
            refine p_iload 94 dX12_feed_92 rfl ?_
            refine p_iconst 95 dX12_feed_94 ?_
            refine p_irem 96 dX12_feed_95 (by decide) ?_
            rw [z_rem4 (by omega)]
            refine p_imul 97 dX12_feed_96 ?_
            refine p_isub 98 dX12_feed_97 ?_
            refine p_ishr 99 dX12_feed_98 ?_
            refine p_sipush 102 dX12_feed_99 rfl ?_
            refine p_iand 103 dX12_feed_102 ?_
            refine p_iastn 125 104 (t + i) dX12_feed_103 rfl (by omega) (by omega) ?_
            refine p_aload_n 105 dX12_feed_104 rfl rfl (by decide) ?_
            refine p_dupR 106 dX12_feed_105 ?_
            refine p_getI 124 109 dX12_feed_106 fX12_59 rfl ?_
            rw [zset_ne _ (by decide), e02]
            refine p_iconst 110 dX12_feed_109 ?_
            refine p_iadd 111 dX12_feed_110 ?_
            refine p_putI 124 114 dX12_feed_111 wX12_59 rfl ?_
            refine p_iinc 117 dX12_feed_114 rfl rfl rfl ?_
            dsimp only [List.set]
            refine p_goto 23 dX12_feed_117 ?_
            rw [zfeedm_step (M := M) (g := (q_fb x1 x2 x3 x4 x5)) (t := t) (i := i) ?_ ?_]
            · exact ih (i + 1) (by omega) _
            · unfold q_fb byt
              rw [hw]
            · omega
          · have hw : q_arg x1 x2 x3 x4 x5 (i / 4) = x4 := by unfold q_arg; rw [if_neg (by omega), if_neg (by omega), if_neg (by omega), if_pos (by omega)]
            refine p_iload 71 dX12_feed_69 rfl ?_
            refine p_goto 76 dX12_feed_71 ?_
            refine p_istore 78 dX12_feed_76 (Nat.le_of_ble_eq_true rfl) rfl rfl ?_
            dsimp only [List.set]
            refine p_aload_n 79 dX12_feed_78 rfl rfl (by decide) ?_
            refine p_getR 124 82 dX12_feed_79 fX12_7 rfl (hW9 (124, 1, 125) (by decide)) ?_
            refine p_aload_n 83 dX12_feed_82 rfl rfl (by decide) ?_
            refine p_getI 124 86 dX12_feed_83 fX12_59 rfl ?_
            rw [e02]
            refine p_iload 88 dX12_feed_86 rfl ?_
            refine p_bipush 90 dX12_feed_88 rfl ?_
            refine p_bipush 92 dX12_feed_90 rfl ?_
            refine p_iload 94 dX12_feed_92 rfl ?_
            refine p_iconst 95 dX12_feed_94 ?_
            refine p_irem 96 dX12_feed_95 (by decide) ?_
            rw [z_rem4 (by omega)]
            refine p_imul 97 dX12_feed_96 ?_
            refine p_isub 98 dX12_feed_97 ?_
            refine p_ishr 99 dX12_feed_98 ?_
            refine p_sipush 102 dX12_feed_99 rfl ?_
            refine p_iand 103 dX12_feed_102 ?_
            refine p_iastn 125 104 (t + i) dX12_feed_103 rfl (by omega) (by omega) ?_
            refine p_aload_n 105 dX12_feed_104 rfl rfl (by decide) ?_
            refine p_dupR 106 dX12_feed_105 ?_
            refine p_getI 124 109 dX12_feed_106 fX12_59 rfl ?_
            rw [zset_ne _ (by decide), e02]
            refine p_iconst 110 dX12_feed_109 ?_
            refine p_iadd 111 dX12_feed_110 ?_
            refine p_putI 124 114 dX12_feed_111 wX12_59 rfl ?_
            refine p_iinc 117 dX12_feed_114 rfl rfl rfl ?_
            dsimp only [List.set]
            refine p_goto 23 dX12_feed_117 ?_
            rw [zfeedm_step (M := M) (g := (q_fb x1 x2 x3 x4 x5)) (t := t) (i := i) ?_ ?_]
            · exact ih (i + 1) (by omega) _
            · unfold q_fb byt
              rw [hw]
            · omega
        · have hw : q_arg x1 x2 x3 x4 x5 (i / 4) = x3 := by unfold q_arg; rw [if_neg (by omega), if_neg (by omega), if_pos (by omega)]
          refine p_iload_n 59 dX12_feed_58 rfl rfl ?_
          refine p_goto 76 dX12_feed_59 ?_
          refine p_istore 78 dX12_feed_76 (Nat.le_of_ble_eq_true rfl) rfl rfl ?_
          dsimp only [List.set]
          refine p_aload_n 79 dX12_feed_78 rfl rfl (by decide) ?_
          refine p_getR 124 82 dX12_feed_79 fX12_7 rfl (hW9 (124, 1, 125) (by decide)) ?_
          refine p_aload_n 83 dX12_feed_82 rfl rfl (by decide) ?_
          refine p_getI 124 86 dX12_feed_83 fX12_59 rfl ?_
          rw [e02]
          refine p_iload 88 dX12_feed_86 rfl ?_
          refine p_bipush 90 dX12_feed_88 rfl ?_
          refine p_bipush 92 dX12_feed_90 rfl ?_
          refine p_iload 94 dX12_feed_92 rfl ?_
          refine p_iconst 95 dX12_feed_94 ?_
          refine p_irem 96 dX12_feed_95 (by decide) ?_
          rw [z_rem4 (by omega)]
          refine p_imul 97 dX12_feed_96 ?_
          refine p_isub 98 dX12_feed_97 ?_
          refine p_ishr 99 dX12_feed_98 ?_
          refine p_sipush 102 dX12_feed_99 rfl ?_
          refine p_iand 103 dX12_feed_102 ?_
          refine p_iastn 125 104 (t + i) dX12_feed_103 rfl (by omega) (by omega) ?_
          refine p_aload_n 105 dX12_feed_104 rfl rfl (by decide) ?_
          refine p_dupR 106 dX12_feed_105 ?_
          refine p_getI 124 109 dX12_feed_106 fX12_59 rfl ?_
          rw [zset_ne _ (by decide), e02]
          refine p_iconst 110 dX12_feed_109 ?_
          refine p_iadd 111 dX12_feed_110 ?_
          refine p_putI 124 114 dX12_feed_111 wX12_59 rfl ?_
          refine p_iinc 117 dX12_feed_114 rfl rfl rfl ?_
          dsimp only [List.set]
          refine p_goto 23 dX12_feed_117 ?_
          rw [zfeedm_step (M := M) (g := (q_fb x1 x2 x3 x4 x5)) (t := t) (i := i) ?_ ?_]
          · exact ih (i + 1) (by omega) _
          · unfold q_fb byt
            rw [hw]
          · omega
      · have hw : q_arg x1 x2 x3 x4 x5 (i / 4) = x2 := by unfold q_arg; rw [if_neg (by omega), if_pos (by omega)]
        refine p_iload_n 48 dX12_feed_47 rfl rfl ?_
        refine p_goto 76 dX12_feed_48 ?_
        refine p_istore 78 dX12_feed_76 (Nat.le_of_ble_eq_true rfl) rfl rfl ?_
        dsimp only [List.set]
        refine p_aload_n 79 dX12_feed_78 rfl rfl (by decide) ?_
        refine p_getR 124 82 dX12_feed_79 fX12_7 rfl (hW9 (124, 1, 125) (by decide)) ?_
        refine p_aload_n 83 dX12_feed_82 rfl rfl (by decide) ?_
        refine p_getI 124 86 dX12_feed_83 fX12_59 rfl ?_
        rw [e02]
        refine p_iload 88 dX12_feed_86 rfl ?_
        refine p_bipush 90 dX12_feed_88 rfl ?_
        refine p_bipush 92 dX12_feed_90 rfl ?_
        refine p_iload 94 dX12_feed_92 rfl ?_
        refine p_iconst 95 dX12_feed_94 ?_
        refine p_irem 96 dX12_feed_95 (by decide) ?_
        rw [z_rem4 (by omega)]
        refine p_imul 97 dX12_feed_96 ?_
        refine p_isub 98 dX12_feed_97 ?_
        refine p_ishr 99 dX12_feed_98 ?_
        refine p_sipush 102 dX12_feed_99 rfl ?_
        refine p_iand 103 dX12_feed_102 ?_
        refine p_iastn 125 104 (t + i) dX12_feed_103 rfl (by omega) (by omega) ?_
        refine p_aload_n 105 dX12_feed_104 rfl rfl (by decide) ?_
        refine p_dupR 106 dX12_feed_105 ?_
        refine p_getI 124 109 dX12_feed_106 fX12_59 rfl ?_
        rw [zset_ne _ (by decide), e02]
        refine p_iconst 110 dX12_feed_109 ?_
        refine p_iadd 111 dX12_feed_110 ?_
        refine p_putI 124 114 dX12_feed_111 wX12_59 rfl ?_
        refine p_iinc 117 dX12_feed_114 rfl rfl rfl ?_
        dsimp only [List.set]
        refine p_goto 23 dX12_feed_117 ?_
        rw [zfeedm_step (M := M) (g := (q_fb x1 x2 x3 x4 x5)) (t := t) (i := i) ?_ ?_]
        · exact ih (i + 1) (by omega) _
        · unfold q_fb byt
          rw [hw]
        · omega
    · have hw : q_arg x1 x2 x3 x4 x5 (i / 4) = x1 := by unfold q_arg; rw [if_pos (by omega)]
      refine p_iload_n 37 dX12_feed_36 rfl rfl ?_
      refine p_goto 76 dX12_feed_37 ?_
      refine p_istore 78 dX12_feed_76 (Nat.le_of_ble_eq_true rfl) rfl rfl ?_
      dsimp only [List.set]
      refine p_aload_n 79 dX12_feed_78 rfl rfl (by decide) ?_
      refine p_getR 124 82 dX12_feed_79 fX12_7 rfl (hW9 (124, 1, 125) (by decide)) ?_
      refine p_aload_n 83 dX12_feed_82 rfl rfl (by decide) ?_
      refine p_getI 124 86 dX12_feed_83 fX12_59 rfl ?_
      rw [e02]
      refine p_iload 88 dX12_feed_86 rfl ?_
      refine p_bipush 90 dX12_feed_88 rfl ?_
      refine p_bipush 92 dX12_feed_90 rfl ?_
      refine p_iload 94 dX12_feed_92 rfl ?_
      refine p_iconst 95 dX12_feed_94 ?_
      refine p_irem 96 dX12_feed_95 (by decide) ?_
      rw [z_rem4 (by omega)]
      refine p_imul 97 dX12_feed_96 ?_
      refine p_isub 98 dX12_feed_97 ?_
      refine p_ishr 99 dX12_feed_98 ?_
      refine p_sipush 102 dX12_feed_99 rfl ?_
      refine p_iand 103 dX12_feed_102 ?_
      refine p_iastn 125 104 (t + i) dX12_feed_103 rfl (by omega) (by omega) ?_
      refine p_aload_n 105 dX12_feed_104 rfl rfl (by decide) ?_
      refine p_dupR 106 dX12_feed_105 ?_
      refine p_getI 124 109 dX12_feed_106 fX12_59 rfl ?_
      rw [zset_ne _ (by decide), e02]
      refine p_iconst 110 dX12_feed_109 ?_
      refine p_iadd 111 dX12_feed_110 ?_
      refine p_putI 124 114 dX12_feed_111 wX12_59 rfl ?_
      refine p_iinc 117 dX12_feed_114 rfl rfl rfl ?_
      dsimp only [List.set]
      refine p_goto 23 dX12_feed_117 ?_
      rw [zfeedm_step (M := M) (g := (q_fb x1 x2 x3 x4 x5)) (t := t) (i := i) ?_ ?_]
      · exact ih (i + 1) (by omega) _
      · unfold q_fb byt
        rw [hw]
      · omega
theorem m_feed {l : Launch} {X : ZX} {M : ZM} (hW : zWm M) (hF : WF M) {x1 : Int} (hx11 : -2147483648 ≤ x1) (hx12 : x1 < 2147483648) {x2 : Int} (hx21 : -2147483648 ≤ x2) (hx22 : x2 < 2147483648) {x3 : Int} (hx31 : -2147483648 ≤ x3) (hx32 : x3 < 2147483648) {x4 : Int} (hx41 : -2147483648 ≤ x4) (hx42 : x4 < 2147483648) {x5 : Int} (hx51 : -2147483648 ≤ x5) (hx52 : x5 < 2147483648) : zCi l X 0 yX12_feed tX12_feed [zr 124, zi x1, zi x2, zi x3, zi x4, zi x5] M (MA M (ga_feed M x1 x2 x3 x4 x5)) := by
  have hWg : zWm (zset (zset M 124 0 0) 124 11 0) := (hW.set (by decide +kernel)).set (by decide +kernel)
  have hR := hF.r
  have hT := hF.t
  have hh := hF.h
  have e0 : M 127 0 = (q_n (M 127) 0 : Int) := hR.n (by decide)
  have e2 : M 127 2 = (q_n (M 127) 2 : Int) := hR.n (by decide)
  have e3 : M 127 3 = (q_n (M 127) 3 : Int) := hR.n (by decide)
  have e4 : M 127 4 = (q_n (M 127) 4 : Int) := hR.n (by decide)
  have bR := hR.2.1
  have h20 : M 124 14 = 0 → M 127 2 = 0 := fun h => hF.r0 h 2 (by decide)
  have h30 : M 124 14 = 0 → M 127 3 = 0 := fun h => hF.r0 h 3 (by decide)
  have h40 : M 124 14 = 0 → M 127 4 = 0 := fun h => hF.r0 h 4 (by decide)
  obtain ⟨t, ht⟩ : ∃ t : Nat, M 124 2 = (t : Int) := ⟨(M 124 2).toNat, by have := hF.1; omega⟩
  have hF1 := hF.1
  have hW0 : zWm (zset M 124 0 0) := hW.set (by decide +kernel)
  refine zC.of [some (zr 124), some (zi x1), some (zi x2), some (zi x3), some (zi x4), some (zi x5), none, none] (by decide +kernel) rfl rfl (Nat.le_of_ble_eq_true rfl) rfl ?_
  refine p_aload_n 1 dX12_feed_0 rfl rfl (by decide) ?_
  refine p_iconst 2 dX12_feed_1 ?_
  refine p_putI 124 5 dX12_feed_2 wX12_53 rfl ?_
  refine p_aload_n 6 dX12_feed_5 rfl rfl (by decide) ?_
  refine p_getI 124 9 dX12_feed_6 fX12_59 rfl ?_
  rw [show zset M 124 0 0 124 2 = (t : Int) from ht]
  refine p_bipush 11 dX12_feed_9 rfl ?_
  refine p_iadd 12 dX12_feed_11 ?_
  refine p_sipush 15 dX12_feed_12 rfl ?_
  refine p_icmp_le 20 18 dX12_feed_15 (by omega) (by omega) (by decide) (by decide) (fun h15 => ?_) (fun h15 => ?_)
  · refine p_iconst 21 dX12_feed_20 ?_
    refine p_istore 23 dX12_feed_21 (Nat.le_of_ble_eq_true rfl) rfl rfl ?_
    dsimp only [List.set]
    have e0 := l_feedM (l := l) (X := X) (M := zset M 124 0 0) (x1 := x1) (x2 := x2) (x3 := x3) (x4 := x4) (x5 := x5) hW0 (t := t) (by omega) 20 0 rfl none
    rw [zfeedm_zero (M := zset M 124 0 0) (t := t) ht] at e0
    refine e0.mono (fun r M9 h9 => ?_)
    obtain ⟨ea, eb⟩ := h9
    subst eb
    refine ⟨_, ea, ?_⟩
    unfold ga_feed
    rw [if_neg (by omega), show (M 124 2).toNat = t by omega]
    refine ⟨by show ((t + 20 : Nat) : Int) = M 124 2 + 20; omega, fun k hk => by rw [zfeedm_ne (by omega) (by omega), zset_ne _ (by omega)], zfeedm_wm hW0, ?_⟩
    refine ⟨?_, rfl, rfl, rfl, rfl, rfl, rfl, rfl, rfl, rfl, rfl, rfl⟩
    funext y
    rfl
  · refine p_iconst 19 dX12_feed_18 ?_
    refine p_iret dX12_feed_19 rfl ?_
    exact ⟨_, rfl, by unfold ga_feed; rw [if_pos (by omega)]; exact ⟨rfl, fun k hk => zset_ne _ (by omega), hW0, ⟨rfl, rfl, rfl, rfl, rfl, rfl, rfl, rfl, rfl, rfl, rfl, rfl⟩⟩⟩
