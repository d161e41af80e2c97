/-! SAY -/
def q_seed2 (τ : Nat → Int) : Nat := (75 * (τ 17).toNat + 74) % 65537
def q_wake (ρ τ : Nat → Int) (w : Nat) : Int := if q_seed2 τ % q_odds (q_n ρ) (q_un (q_n ρ 4) (τ 14).toNat) < q_n ρ (38 + 3 * w) then 1 else 0
def q_said (M : ZM) (w : Nat) : ZM := fun a b => if a = 129 then (if b = 14 then (((M 129 14).toNat ||| 2 ^ w : Nat) : Int) else if b = 16 then q_wake (M 127) (M 129) w else if b = 17 then (q_seed2 (M 129) : Int) else M 129 b) else if a = 124 ∧ b = 11 then 0 else q_note M a b
def ga_say (M : ZM) (w : Int) : Int × ZM := if M 124 14 = 0 ∨ w < 0 ∨ M 127 4 ≤ w then (-1, zset M 124 11 1) else if q_say (M 127) (M 129) w.toNat = true then (q_wake (M 127) (M 129) w.toNat, q_said M w.toNat) else (-1, zset M 124 11 5)
theorem q_said_ne {M : ZM} {w a : Nat} (h1 : a ≠ 129) (h2 : a ≠ 124) : q_said M w a = q_note M a := by
  funext b
  unfold q_said
  rw [if_neg h1, if_neg (fun g => h2 g.1)]
theorem q_said_124 {M : ZM} {w b : Nat} (h : b ≠ 11) : q_said M w 124 b = q_note M 124 b := by
  unfold q_said
  rw [if_neg (by decide), if_neg (fun g => h g.2)]
theorem q_said_keep {M : ZM} {w b : Nat} (h1 : b ≠ 14) (h2 : b ≠ 16) (h3 : b ≠ 17) : q_said M w 129 b = M 129 b := by
  unfold q_said
  rw [if_pos rfl, if_neg h1, if_neg h2, if_neg h3]
theorem q_wake01 (ρ τ : Nat → Int) (w : Nat) : q_wake ρ τ w = 0 ∨ q_wake ρ τ w = 1 := by
  unfold q_wake
  split
  · exact Or.inr rfl
  · exact Or.inl rfl
theorem q_seed2_le (τ : Nat → Int) : q_seed2 τ ≤ 65536 := by
  have : q_seed2 τ < 65537 := Nat.mod_lt _ (by decide)
  omega
theorem z_draw {v : Nat} (hv : v ≤ 65536) : z_irem (75 * (v : Int) + 74) 65537 = (((75 * v + 74) % 65537 : Nat) : Int) := by
  have e : (75 * (v : Int) + 74) = ((75 * v + 74 : Nat) : Int) := by omega
  rw [e]
  exact z_irem_n (75 * v + 74) 65537 (by omega) (by decide)
theorem WF.say {M : ZM} (hF : WF M) (w : Int) : WF (ga_say M w).2 := by
  unfold ga_say
  split
  · exact hF.tr (by decide) (by decide)
  · rename_i h0
    split
    · have hR := hF.r
      have hT := hF.t
      have hh := hF.h
      have e4 : M 127 4 = (q_n (M 127) 4 : Int) := hR.n (by decide)
      have b4 := hR.2.1.2.2.2.2.1
      have h1 : M 124 14 = 1 := by omega
      have hT2 : wfT (M 127) (q_said M w.toNat 129) := by
        have hu : ∀ i, q_said M w.toNat 129 i = (if i = 14 then (((M 129 14).toNat ||| 2 ^ w.toNat : Nat) : Int) else if i = 16 then q_wake (M 127) (M 129) w.toNat else if i = 17 then (q_seed2 (M 129) : Int) else M 129 i) := fun i => rfl
        have hk := q_wake01 (M 127) (M 129) w.toNat
        have hs := q_seed2_le (M 129)
        have ho : (M 129 14).toNat ||| 2 ^ w.toNat < 2 ^ q_n (M 127) 4 := Nat.or_lt_two_pow (hT.said2 hR) (Nat.pow_lt_pow_right (by decide) (by omega))
        have hx : ∀ i, i ≠ 14 → i ≠ 16 → i ≠ 17 → q_said M w.toNat 129 i = M 129 i := fun i g1 g2 g3 => by rw [hu, if_neg g1, if_neg g2, if_neg g3]
        have h14 : q_said M w.toNat 129 14 = (((M 129 14).toNat ||| 2 ^ w.toNat : Nat) : Int) := rfl
        have h16 : q_said M w.toNat 129 16 = q_wake (M 127) (M 129) w.toNat := rfl
        have h17 : q_said M w.toNat 129 17 = (q_seed2 (M 129) : Int) := rfl
        obtain ⟨a1, a2, a3, a4, a5, a6, a7⟩ := hT
        refine ⟨fun i hi => ?_, fun s hs => ?_, ?_, ?_, ?_, ?_, fun a ha => ?_⟩
        · rw [hu]
          (repeat' split) <;> first | omega | exact a1 i hi
        · rw [hx s (by omega) (by omega) (by omega), hx 15 (by decide) (by decide) (by decide), hx (7 + s) (by omega) (by omega) (by omega)]
          exact a2 s hs
        · rw [h14]
          have : (((M 129 14).toNat ||| 2 ^ w.toNat : Nat) : Int) < ((2 ^ q_n (M 127) 4 : Nat) : Int) := Int.ofNat_lt.mpr ho
          rw [Int.natCast_pow] at this
          exact this
        · rw [hx 15 (by decide) (by decide) (by decide)]
          exact a4
        · rw [h16]
          omega
        · rw [h17]
          omega
        · rw [q_sum_congr (g := fun s => if M 129 (7 + s) = (a : Int) + 1 then 1 else 0) (fun i hi => by show (if q_said M w.toNat 129 (7 + i) = _ then _ else _) = _; rw [hx (7 + i) (by omega) (by omega) (by omega)])]
          exact a7 a ha
      show WF (q_said M w.toNat)
      exact (hF.note h1).now (s' := q_said M w.toNat) (q_note_124 (s := M) (b := 14) (by decide) ▸ h1) (q_said_ne (by decide) (by decide)) (q_said_ne (by decide) (by decide)) (q_said_ne (by decide) (by decide)) (q_said_ne (by decide) (by decide)) (q_said_124 (by decide)) (q_said_124 (by decide)) (q_said_124 (by decide)) (q_said_124 (by decide)) (q_said_124 (by decide)) (q_said_124 (by decide)) ⟨Int.le_refl 0, by show (0 : Int) ≤ 6; decide⟩ hT2
    · exact hF.tr (by decide) (by decide)
theorem c_say {l : Launch} {X : ZX} {M : ZM} (hI : IC M M) (hF : WF M) {w : Int} (hw1 : -2147483648 ≤ w) (hw2 : w < 2147483648) : zCi l X 5 yX11_say tX11_say [zr 0, zi w] M (CA M (ga_say M w)) := by
  obtain ⟨hW, ⟨c, c', hcc, hco, hsp, hC⟩, ⟨j1, j2, j3, j4, j5⟩, hN, hpast, hten, ⟨hz0, hsea⟩, hfit⟩ := id hI
  have hR := hF.r
  have hT := hF.t
  have hh := hF.h
  have e0 : M 127 0 = (q_n (M 127) 0 : Int) := hR.n (by decide)
  have e2 : M 127 2 = (q_n (M 127) 2 : Int) := hR.n (by decide)
  have e3 : M 127 3 = (q_n (M 127) 3 : Int) := hR.n (by decide)
  have e4 : M 127 4 = (q_n (M 127) 4 : Int) := hR.n (by decide)
  have bR := hR.2.1
  have h20 : M 124 14 = 0 → M 127 2 = 0 := fun h => hF.r0 h 2 (by decide)
  have h30 : M 124 14 = 0 → M 127 3 = 0 := fun h => hF.r0 h 3 (by decide)
  have h40 : M 124 14 = 0 → M 127 4 = 0 := fun h => hF.r0 h 4 (by decide)
  have hwo : M 49 3 = M 129 16 := hN.2.2.2.1
  have t160 := hT.1 16 (by decide)
  have t161 := hT.2.2.2.2.1
  refine zC.of [some (zr 0), some (zi w), none] (by decide +kernel) rfl rfl (Nat.le_of_ble_eq_true rfl) rfl ?_
  rcases hcc with ⟨rfl, rfl⟩ | ⟨rfl, rfl⟩
  · have hto : M 2 0 = M 124 14 := hC.1.1
    have hla : M 2 1 = M 127 0 := hC.1.2.1
    have hsn : M 2 2 = M 127 1 := hC.1.2.2.1
    have hcs : M 3 0 = M 127 2 := hC.1.2.2.2.1
    have hca : M 8 0 = M 127 3 := hC.1.2.2.2.2.1
    have hcw : M 13 0 = M 127 4 := hC.1.2.2.2.2.2.1
    have hcb : M 13 1 = M 127 5 := hC.1.2.2.2.2.2.2.1
    have hcor : M 19 0 = M 127 6 := hC.1.2.2.2.2.2.2.2.1
    have hcn : M 19 4 = M 127 7 := hC.1.2.2.2.2.2.2.2.2
    have b4 := bR.2.2.2.2.1
    have hp7 := p7 (n := q_n (M 127) 4) (by omega)
    have htl := q_ts_lt (M 127) (M 129)
    have hto7 : q_ts (M 127) (M 129) < 128 := by omega
    have hol := q_odds_le hR (q_ts (M 127) (M 129))
    have hkl := q_cost_le hR 7 (q_ts (M 127) (M 129))
    have hu := hF.u
    have hm3 := hF.m
    obtain ⟨p1, p2, top, ht16, p3, p4, p5⟩ := id hpast
    obtain ⟨cnt, hcnt⟩ : ∃ k : Nat, M 124 20 = (k : Int) := ⟨(M 124 20).toNat, by omega⟩
    have hc52 : M 52 2 = (cnt : Int) := by omega
    obtain ⟨ki, hki⟩ : ∃ k : Nat, M 124 21 = (k : Int) := ⟨(M 124 21).toNat, by omega⟩
    have hc54 : M 52 4 = (ki : Int) := by omega
    have e14 : M 129 14 = ((M 129 14).toNat : Int) := by have := hT.1 14 (by decide); omega
    have e17 : M 129 17 = ((M 129 17).toNat : Int) := by have := hT.1 17 (by decide); omega
    have t171 := hT.2.2.2.2.2.1
    have hD7 : (M 129 14).toNat < 2 ^ q_n (M 127) 4 := hT.said2 hR
    have hsl := q_seed2_le (M 129)
    refine p_aload_n 1 dX11_say_0 rfl rfl (by decide) ?_
    refine p_iload_n 2 dX11_say_1 rfl rfl ?_
    refine p_callV1i 0 5 dX11_say_2 (s_isWord_2 hW hC hR hco (by omega) (by omega)) lk_X11_208 mX11_isWord rfl rfl (by decide) (Nat.le_of_ble_eq_true rfl) ?_
    rintro _ _ ⟨rfl, e9⟩
    have e9 := e9.symm
    subst e9
    refine p_if_ne 14 8 dX11_say_5 (by split <;> omega) (by split <;> omega) (fun h5 => ?_) (fun h5 => ?_)
    · have h5 := if_ne0 h5
      obtain ⟨n, rfl⟩ : ∃ k : Nat, w = (k : Int) := ⟨w.toNat, by omega⟩
      have h1 : M 124 14 = 1 := by omega
      have hR1 := hF.r1 h1
      have eo : M 127 (38 + 3 * n) = (q_n (M 127) (38 + 3 * n) : Int) := hR.n (by omega)
      have hbo := (hR.2.2.2.2.1 n (by omega)).1
      have h2n : 2 ^ n < 128 := p7w (by omega)
      refine p_aload_n 15 dX11_say_14 rfl rfl (by decide) ?_
      refine p_iload_n 16 dX11_say_15 rfl rfl ?_
      refine p_callV1i 0 19 dX11_say_16 (s_canSay_2 hW hC hR hco hN hT (w := n) (by omega)) lk_X11_257 mX11_canSay rfl rfl (by decide) (Nat.le_of_ble_eq_true rfl) ?_
      rintro _ _ ⟨rfl, e9⟩
      have e9 := e9.symm
      subst e9
      refine p_if_ne 28 22 dX11_say_19 (by split <;> omega) (by split <;> omega) (fun h19 => ?_) (fun h19 => ?_)
      · have hsy : q_say (M 127) (M 129) n = true := if_ne0 h19
        obtain ⟨hs16, hbu⟩ := q_say_un hR (by omega) hsy
        have hun : q_un (q_n (M 127) 4) (M 129 14).toNat = (q_ts (M 127) (M 129)) := q_ts_un (by omega)
        have hne : (q_ts (M 127) (M 129)) ≠ 0 := q_say_ne hR (by omega) hsy
        have hop := q_odds_pos hR hR1 hne htl
        have hml : q_seed2 (M 129) % (q_odds (q_n (M 127)) (q_ts (M 127) (M 129))) < (q_odds (q_n (M 127)) (q_ts (M 127) (M 129))) := Nat.mod_lt _ hop
        refine p_aload_n 29 dX11_say_28 rfl rfl (by decide) ?_
        refine p_getR 0 32 dX11_say_29 fX11_54 rfl (hW (0, 11, 115) (by decide)) ?_
        refine p_aload_n 33 dX11_say_32 rfl rfl (by decide) ?_
        refine p_getR 0 36 dX11_say_33 fX11_16 rfl hco ?_
        refine p_getR 2 39 dX11_say_36 fX11_211 rfl (hW (2, 5, 13) (by decide)) ?_
        refine p_callV1v 115 42 dX11_say_39 (s_learnS (Or.inl rfl : isC 2) hW hC hR hR1.ex hz0 hsea) lk_X11_239 mX7_learn rfl rfl (by decide) (Nat.le_of_ble_eq_true rfl) ?_
        intro M9 h9
        obtain ⟨g1, g2, g3, g4⟩ := h9
        have hI9 : IC M M9 := hI.learn hF g1 g2 g3 g4
        have hk9 : ∀ k, 124 ≤ k → M9 k = M k := fun k hk => g1 k (by omega)
        have hW := hI9.1
        have hC : ICc (M 127) (M 124 14) 2 M9 := hC.congr (fun a _ _ => g1 a (by omega))
        have hco : M9 0 5 = 2 := (congrFun (g1 0 (by omega)) 5).trans hco
        have hN : ICn (M 129) (M 124 14) 49 M9 := hN.congr (g1 _ (by omega)) (g1 _ (by omega)) (g1 _ (by omega))
        have p39 : M9 52 1 = (top : Int) := (congrFun (g1 52 (by omega)) 1).trans p3
        have hc529 : M9 52 2 = (cnt : Int) := (congrFun (g1 52 (by omega)) 2).trans hc52
        refine p_aload_n 43 dX11_say_42 rfl rfl (by decide) ?_
        refine p_getR 0 46 dX11_say_43 fX11_54 rfl (hW (0, 11, 115) (by decide)) ?_
        refine p_aload_n 47 dX11_say_46 rfl rfl (by decide) ?_
        refine p_callV0i 0 50 dX11_say_47 (s_toSay_2 hW hC hR hco hN hT) lk_X11_232 mX11_toSay rfl rfl (by decide) (Nat.le_of_ble_eq_true rfl) ?_
        rintro _ _ ⟨rfl, e9⟩
        have e9 := e9.symm
        subst e9
        rw [q_ts_eq]
        refine p_callV1i 115 53 dX11_say_50 (s_oddsOfS hW hR g4 htl) lk_X11_242 mX7_oddsOf rfl rfl (by decide) (Nat.le_of_ble_eq_true rfl) ?_
        rintro _ _ ⟨rfl, e9⟩
        have e9 := e9.symm
        subst e9
        refine p_istore_n 54 dX11_say_53 rfl (Nat.le_of_ble_eq_true rfl) rfl rfl ?_
        dsimp only [List.set]
        refine p_aload_n 55 dX11_say_54 rfl rfl (by decide) ?_
        refine p_getR 0 58 dX11_say_55 fX11_40 rfl (hW (0, 9, 52) (by decide)) ?_
        refine p_aload_n 59 dX11_say_58 rfl rfl (by decide) ?_
        refine p_getR 0 62 dX11_say_59 fX11_33 rfl (hW (0, 8, 49) (by decide)) ?_
        refine p_callV1v 52 65 dX11_say_62 (s_keep hW ht16 (by omega) p39 hc529 (by rw [hN.2.2.2.1]; omega)) lk_X11_335 mX5_keep rfl rfl (by decide) (Nat.le_of_ble_eq_true rfl) ?_
        intro M8 e8
        change M8 = zkeep M9 top cnt at e8
        subst e8
        have hI8 := hI9.keep hF h1 ht16 p39 hc529
        have hW := hI8.1
        obtain ⟨n1, n2, n3, n4, n5, n6⟩ := hI8.2.2.2.1
        have n17 : zkeep M9 top cnt 49 1 = ((M 129 17).toNat : Int) := n2.trans e17
        have n14 : zkeep M9 top cnt 49 2 = ((M 129 14).toNat : Int) := n3.trans e14
        have hco : zkeep M9 top cnt 0 5 = 2 := (congrFun (zkeep_ne (by omega) (by omega) (by omega) (by decide)) 5).trans hco
        have hod : zkeep M9 top cnt 15 n = (q_n (M 127) (38 + 3 * n) : Int) := (congrFun (zkeep_ne (by omega) (by omega) (by omega) (by decide)) n).trans (((hC.2.2.2.1 n (by omega)).1).trans eo)
        refine p_aload_n 66 dX11_say_65 rfl rfl (by decide) ?_
        refine p_getR 0 69 dX11_say_66 fX11_33 rfl (hW (0, 8, 49) (by decide)) ?_
        refine p_aload_n 70 dX11_say_69 rfl rfl (by decide) ?_
        refine p_getR 0 73 dX11_say_70 fX11_33 rfl (hW (0, 8, 49) (by decide)) ?_
        refine p_getI 49 76 dX11_say_73 fX11_349 rfl ?_
        rw [n17]
        refine p_callS1i 79 dX11_say_76 (s_drawAfter (v := (M 129 17).toNat) (by omega)) lk_X11_323 mX11_drawAfter (by decide) (Nat.le_of_ble_eq_true rfl) ?_
        rintro _ _ ⟨rfl, e9⟩
        have e9 := e9.symm
        subst e9
        rw [show (75 * (M 129 17).toNat + 74) % 65537 = q_seed2 (M 129) from rfl]
        refine p_putI 49 82 dX11_say_79 wX11_349 rfl ?_
        refine p_aload_n 83 dX11_say_82 rfl rfl (by decide) ?_
        refine p_getR 0 86 dX11_say_83 fX11_33 rfl (hW (0, 8, 49) (by decide)) ?_
        refine p_iload_n 87 dX11_say_86 rfl rfl ?_
        refine p_if_le 118 90 dX11_say_87 (by omega) (by omega) (fun h87 => absurd (by omega) (fun h9 : False => h9)) (fun h87 => ?_)
        refine p_aload_n 91 dX11_say_90 rfl rfl (by decide) ?_
        refine p_getR 0 94 dX11_say_91 fX11_33 rfl (hW (0, 8, 49) (by decide)) ?_
        refine p_getI 49 97 dX11_say_94 fX11_349 rfl ?_
        rw [zset_at]
        refine p_iload_n 98 dX11_say_97 rfl rfl ?_
        refine p_irem 99 dX11_say_98 (by rw [w32_id (by omega) (by omega)]; omega) ?_
        rw [z_irem_n (q_seed2 (M 129)) (q_odds (q_n (M 127)) (q_ts (M 127) (M 129))) (by omega) (by omega)]
        refine p_aload_n 100 dX11_say_99 rfl rfl (by decide) ?_
        refine p_getR 0 103 dX11_say_100 fX11_16 rfl hco ?_
        refine p_getR 2 106 dX11_say_103 fX11_211 rfl (hW (2, 5, 13) (by decide)) ?_
        refine p_getR 13 109 dX11_say_106 fX11_215 rfl (hW (13, 3, 15) (by decide)) ?_
        refine p_iload_n 110 dX11_say_109 rfl rfl ?_
        refine p_ialdn 15 111 (n) dX11_say_110 rfl (by omega) (by omega) ?_
        rw [zset_ne _ (by decide), hod]
        refine p_icmp_ge 118 114 dX11_say_111 (by omega) (by omega) (by omega) (by omega) (fun h111 => ?_) (fun h111 => ?_)
        · refine p_iconst 119 dX11_say_118 ?_
          refine p_putZ 49 122 dX11_say_119 wX11_170 rfl (by decide) ?_
          refine p_aload_n 123 dX11_say_122 rfl rfl (by decide) ?_
          refine p_getR 0 126 dX11_say_123 fX11_33 rfl (hW (0, 8, 49) (by decide)) ?_
          refine p_dupR 127 dX11_say_126 ?_
          refine p_getI 49 130 dX11_say_127 fX11_223 rfl ?_
          rw [zset_k (by decide), zset_k (by decide), n14]
          refine p_iload_n 131 dX11_say_130 rfl rfl ?_
          refine p_callS1i 134 dX11_say_131 (s_bit (i := n) (by omega)) lk_X11_226 mX11_bit (by decide) (Nat.le_of_ble_eq_true rfl) ?_
          rintro _ _ ⟨rfl, e9⟩
          have e9 := e9.symm
          subst e9
          refine p_ior 135 dX11_say_134 ?_
          rw [z_ior_n (M 129 14).toNat (2 ^ n) (by omega) (by omega)]
          refine p_putI 49 138 dX11_say_135 wX11_223 rfl ?_
          refine p_aload_n 139 dX11_say_138 rfl rfl (by decide) ?_
          refine p_aload_n 140 dX11_say_139 rfl rfl (by decide) ?_
          refine p_getR 0 143 dX11_say_140 fX11_33 rfl (hW (0, 8, 49) (by decide)) ?_
          refine p_getI 49 146 dX11_say_143 fX11_170 rfl ?_
          rw [zset_k (by decide), zset_at]
          refine p_if_eq 153 149 dX11_say_146 (by decide) (by decide) (fun h146 => ?_) (fun h146 => absurd (absurd rfl h146) (fun h9 : False => h9))
          refine p_iconst 154 dX11_say_153 ?_
          refine p_callV1i 0 157 dX11_say_154 s_grant lk_X11_108 mX11_grant rfl rfl (by decide) (Nat.le_of_ble_eq_true rfl) ?_
          rintro _ _ ⟨rfl, rfl⟩
          refine p_iret dX11_say_157 rfl ?_
          refine ⟨_, rfl, ?_⟩
          unfold ga_say
          rw [if_neg (by omega), Int.toNat_natCast, if_pos hsy]
          have hwk : q_wake (M 127) (M 129) n = 0 := by
            unfold q_wake
            rw [hun]
            first | (rw [if_pos (by omega)]; done) | (rw [if_neg (by omega)]; done)
          refine ⟨hwk.symm, ?_, fun k hk => by rw [zset_ne _ (by omega), zset_ne _ (by omega), zset_ne _ (by omega), zset_ne _ (by omega), zkeep_ne (by omega) (by omega) (by omega) (by omega)]; exact hk9 k hk⟩
          refine hI8.now (s' := q_said M n) (hF.note h1) ((((hW.set (by decide +kernel)).set (by decide +kernel)).set (by decide +kernel)).set (by decide +kernel)) (q_said_ne (by decide) (by decide)) (q_said_ne (by decide) (by decide)) (q_said_ne (by decide) (by decide)) (q_said_ne (by decide) (by decide)) (q_said_124 (by decide)) (q_said_124 (by decide)) (q_said_124 (by decide)) (q_said_124 (by decide)) (q_said_124 (by decide)) (fun a g1 g2 g3 g4 g5 => by rw [zset_ne _ g1, zset_ne _ g2, zset_ne _ g2, zset_ne _ g2]) (fun k hk => by rw [zset_k hk, zset_ne _ (by decide), zset_ne _ (by decide), zset_ne _ (by decide)]) rfl (by show (0 : Int) ≠ 4; decide) ?_
          refine ⟨n1, rfl, rfl, ?_, fun s hs => (n5 s hs).trans (q_said_keep (by omega) (by omega) (by omega)).symm, fun g s hs => (n6 (by rw [q_note_124 (by decide)]; exact h1) s hs).trans (by show q_tnd (M 129 (7 + s)) = q_tnd (q_said M n 129 (7 + s)); rw [q_said_keep (by omega) (by omega) (by omega)])⟩
          show _ = q_wake (M 127) (M 129) n
          rw [hwk]
          rfl
        · refine p_iconst 115 dX11_say_114 ?_
          refine p_goto 119 dX11_say_115 ?_
          refine p_putZ 49 122 dX11_say_119 wX11_170 rfl (by decide) ?_
          refine p_aload_n 123 dX11_say_122 rfl rfl (by decide) ?_
          refine p_getR 0 126 dX11_say_123 fX11_33 rfl (hW (0, 8, 49) (by decide)) ?_
          refine p_dupR 127 dX11_say_126 ?_
          refine p_getI 49 130 dX11_say_127 fX11_223 rfl ?_
          rw [zset_k (by decide), zset_k (by decide), n14]
          refine p_iload_n 131 dX11_say_130 rfl rfl ?_
          refine p_callS1i 134 dX11_say_131 (s_bit (i := n) (by omega)) lk_X11_226 mX11_bit (by decide) (Nat.le_of_ble_eq_true rfl) ?_
          rintro _ _ ⟨rfl, e9⟩
          have e9 := e9.symm
          subst e9
          refine p_ior 135 dX11_say_134 ?_
          rw [z_ior_n (M 129 14).toNat (2 ^ n) (by omega) (by omega)]
          refine p_putI 49 138 dX11_say_135 wX11_223 rfl ?_
          refine p_aload_n 139 dX11_say_138 rfl rfl (by decide) ?_
          refine p_aload_n 140 dX11_say_139 rfl rfl (by decide) ?_
          refine p_getR 0 143 dX11_say_140 fX11_33 rfl (hW (0, 8, 49) (by decide)) ?_
          refine p_getI 49 146 dX11_say_143 fX11_170 rfl ?_
          rw [zset_k (by decide), zset_at]
          refine p_if_eq 153 149 dX11_say_146 (by decide) (by decide) (fun h146 => absurd (absurd h146 (by decide)) (fun h9 : False => h9)) (fun h146 => ?_)
          refine p_iconst 150 dX11_say_149 ?_
          refine p_goto 154 dX11_say_150 ?_
          refine p_callV1i 0 157 dX11_say_154 s_grant lk_X11_108 mX11_grant rfl rfl (by decide) (Nat.le_of_ble_eq_true rfl) ?_
          rintro _ _ ⟨rfl, rfl⟩
          refine p_iret dX11_say_157 rfl ?_
          refine ⟨_, rfl, ?_⟩
          unfold ga_say
          rw [if_neg (by omega), Int.toNat_natCast, if_pos hsy]
          have hwk : q_wake (M 127) (M 129) n = 1 := by
            unfold q_wake
            rw [hun]
            first | (rw [if_pos (by omega)]; done) | (rw [if_neg (by omega)]; done)
          refine ⟨hwk.symm, ?_, fun k hk => by rw [zset_ne _ (by omega), zset_ne _ (by omega), zset_ne _ (by omega), zset_ne _ (by omega), zkeep_ne (by omega) (by omega) (by omega) (by omega)]; exact hk9 k hk⟩
          refine hI8.now (s' := q_said M n) (hF.note h1) ((((hW.set (by decide +kernel)).set (by decide +kernel)).set (by decide +kernel)).set (by decide +kernel)) (q_said_ne (by decide) (by decide)) (q_said_ne (by decide) (by decide)) (q_said_ne (by decide) (by decide)) (q_said_ne (by decide) (by decide)) (q_said_124 (by decide)) (q_said_124 (by decide)) (q_said_124 (by decide)) (q_said_124 (by decide)) (q_said_124 (by decide)) (fun a g1 g2 g3 g4 g5 => by rw [zset_ne _ g1, zset_ne _ g2, zset_ne _ g2, zset_ne _ g2]) (fun k hk => by rw [zset_k hk, zset_ne _ (by decide), zset_ne _ (by decide), zset_ne _ (by decide)]) rfl (by show (0 : Int) ≠ 4; decide) ?_
          refine ⟨n1, rfl, rfl, ?_, fun s hs => (n5 s hs).trans (q_said_keep (by omega) (by omega) (by omega)).symm, fun g s hs => (n6 (by rw [q_note_124 (by decide)]; exact h1) s hs).trans (by show q_tnd (M 129 (7 + s)) = q_tnd (q_said M n 129 (7 + s)); rw [q_said_keep (by omega) (by omega) (by omega)])⟩
          show _ = q_wake (M 127) (M 129) n
          rw [hwk]
          rfl
      · have hsy : ¬ q_say (M 127) (M 129) n = true := if_nne0 h19
        refine p_aload_n 23 dX11_say_22 rfl rfl (by decide) ?_
        refine p_iconst 24 dX11_say_23 ?_
        refine p_callV1i 0 27 dX11_say_24 s_refuse lk_X11_73 mX11_refuse rfl rfl (by decide) (Nat.le_of_ble_eq_true rfl) ?_
        rintro _ _ ⟨rfl, rfl⟩
        refine p_iret dX11_say_27 rfl ?_
        exact ⟨_, rfl, CA.no hI hF (by unfold ga_say; rw [if_neg (by omega), Int.toNat_natCast, if_neg hsy]) (by unfold ga_say; rw [if_neg (by omega), Int.toNat_natCast, if_neg hsy]) (by decide)⟩
    · have h5 := if_nne0 h5
      refine p_aload_n 9 dX11_say_8 rfl rfl (by decide) ?_
      refine p_iconst 10 dX11_say_9 ?_
      refine p_callV1i 0 13 dX11_say_10 s_refuse lk_X11_73 mX11_refuse rfl rfl (by decide) (Nat.le_of_ble_eq_true rfl) ?_
      rintro _ _ ⟨rfl, rfl⟩
      refine p_iret dX11_say_13 rfl ?_
      exact ⟨_, rfl, CA.no hI hF (by unfold ga_say; rw [if_pos (by omega)]) (by unfold ga_say; rw [if_pos (by omega)]) (by decide)⟩
  · have hto : M 25 0 = M 124 14 := hC.1.1
    have hla : M 25 1 = M 127 0 := hC.1.2.1
    have hsn : M 25 2 = M 127 1 := hC.1.2.2.1
    have hcs : M 26 0 = M 127 2 := hC.1.2.2.2.1
    have hca : M 31 0 = M 127 3 := hC.1.2.2.2.2.1
    have hcw : M 36 0 = M 127 4 := hC.1.2.2.2.2.2.1
    have hcb : M 36 1 = M 127 5 := hC.1.2.2.2.2.2.2.1
    have hcor : M 42 0 = M 127 6 := hC.1.2.2.2.2.2.2.2.1
    have hcn : M 42 4 = M 127 7 := hC.1.2.2.2.2.2.2.2.2
    have b4 := bR.2.2.2.2.1
    have hp7 := p7 (n := q_n (M 127) 4) (by omega)
    have htl := q_ts_lt (M 127) (M 129)
    have hto7 : q_ts (M 127) (M 129) < 128 := by omega
    have hol := q_odds_le hR (q_ts (M 127) (M 129))
    have hkl := q_cost_le hR 7 (q_ts (M 127) (M 129))
    have hu := hF.u
    have hm3 := hF.m
    obtain ⟨p1, p2, top, ht16, p3, p4, p5⟩ := id hpast
    obtain ⟨cnt, hcnt⟩ : ∃ k : Nat, M 124 20 = (k : Int) := ⟨(M 124 20).toNat, by omega⟩
    have hc52 : M 52 2 = (cnt : Int) := by omega
    obtain ⟨ki, hki⟩ : ∃ k : Nat, M 124 21 = (k : Int) := ⟨(M 124 21).toNat, by omega⟩
    have hc54 : M 52 4 = (ki : Int) := by omega
    have e14 : M 129 14 = ((M 129 14).toNat : Int) := by have := hT.1 14 (by decide); omega
    have e17 : M 129 17 = ((M 129 17).toNat : Int) := by have := hT.1 17 (by decide); omega
    have t171 := hT.2.2.2.2.2.1
    have hD7 : (M 129 14).toNat < 2 ^ q_n (M 127) 4 := hT.said2 hR
    have hsl := q_seed2_le (M 129)
    refine p_aload_n 1 dX11_say_0 rfl rfl (by decide) ?_
    refine p_iload_n 2 dX11_say_1 rfl rfl ?_
    refine p_callV1i 0 5 dX11_say_2 (s_isWord_25 hW hC hR hco (by omega) (by omega)) lk_X11_208 mX11_isWord rfl rfl (by decide) (Nat.le_of_ble_eq_true rfl) ?_
    rintro _ _ ⟨rfl, e9⟩
    have e9 := e9.symm
    subst e9
    refine p_if_ne 14 8 dX11_say_5 (by split <;> omega) (by split <;> omega) (fun h5 => ?_) (fun h5 => ?_)
    · have h5 := if_ne0 h5
      obtain ⟨n, rfl⟩ : ∃ k : Nat, w = (k : Int) := ⟨w.toNat, by omega⟩
      have h1 : M 124 14 = 1 := by omega
      have hR1 := hF.r1 h1
      have eo : M 127 (38 + 3 * n) = (q_n (M 127) (38 + 3 * n) : Int) := hR.n (by omega)
      have hbo := (hR.2.2.2.2.1 n (by omega)).1
      have h2n : 2 ^ n < 128 := p7w (by omega)
      refine p_aload_n 15 dX11_say_14 rfl rfl (by decide) ?_
      refine p_iload_n 16 dX11_say_15 rfl rfl ?_
      refine p_callV1i 0 19 dX11_say_16 (s_canSay_25 hW hC hR hco hN hT (w := n) (by omega)) lk_X11_257 mX11_canSay rfl rfl (by decide) (Nat.le_of_ble_eq_true rfl) ?_
      rintro _ _ ⟨rfl, e9⟩
      have e9 := e9.symm
      subst e9
      refine p_if_ne 28 22 dX11_say_19 (by split <;> omega) (by split <;> omega) (fun h19 => ?_) (fun h19 => ?_)
      · have hsy : q_say (M 127) (M 129) n = true := if_ne0 h19
        obtain ⟨hs16, hbu⟩ := q_say_un hR (by omega) hsy
        have hun : q_un (q_n (M 127) 4) (M 129 14).toNat = (q_ts (M 127) (M 129)) := q_ts_un (by omega)
        have hne : (q_ts (M 127) (M 129)) ≠ 0 := q_say_ne hR (by omega) hsy
        have hop := q_odds_pos hR hR1 hne htl
        have hml : q_seed2 (M 129) % (q_odds (q_n (M 127)) (q_ts (M 127) (M 129))) < (q_odds (q_n (M 127)) (q_ts (M 127) (M 129))) := Nat.mod_lt _ hop
        refine p_aload_n 29 dX11_say_28 rfl rfl (by decide) ?_
        refine p_getR 0 32 dX11_say_29 fX11_54 rfl (hW (0, 11, 115) (by decide)) ?_
        refine p_aload_n 33 dX11_say_32 rfl rfl (by decide) ?_
        refine p_getR 0 36 dX11_say_33 fX11_16 rfl hco ?_
        refine p_getR 25 39 dX11_say_36 fX11_211 rfl (hW (25, 5, 36) (by decide)) ?_
        refine p_callV1v 115 42 dX11_say_39 (s_learnS (Or.inr rfl : isC 25) hW hC hR hR1.ex hz0 hsea) lk_X11_239 mX7_learn rfl rfl (by decide) (Nat.le_of_ble_eq_true rfl) ?_
        intro M9 h9
        obtain ⟨g1, g2, g3, g4⟩ := h9
        have hI9 : IC M M9 := hI.learn hF g1 g2 g3 g4
        have hk9 : ∀ k, 124 ≤ k → M9 k = M k := fun k hk => g1 k (by omega)
        have hW := hI9.1
        have hC : ICc (M 127) (M 124 14) 25 M9 := hC.congr (fun a _ _ => g1 a (by omega))
        have hco : M9 0 5 = 25 := (congrFun (g1 0 (by omega)) 5).trans hco
        have hN : ICn (M 129) (M 124 14) 49 M9 := hN.congr (g1 _ (by omega)) (g1 _ (by omega)) (g1 _ (by omega))
        have p39 : M9 52 1 = (top : Int) := (congrFun (g1 52 (by omega)) 1).trans p3
        have hc529 : M9 52 2 = (cnt : Int) := (congrFun (g1 52 (by omega)) 2).trans hc52
        refine p_aload_n 43 dX11_say_42 rfl rfl (by decide) ?_
        refine p_getR 0 46 dX11_say_43 fX11_54 rfl (hW (0, 11, 115) (by decide)) ?_
        refine p_aload_n 47 dX11_say_46 rfl rfl (by decide) ?_
        refine p_callV0i 0 50 dX11_say_47 (s_toSay_25 hW hC hR hco hN hT) lk_X11_232 mX11_toSay rfl rfl (by decide) (Nat.le_of_ble_eq_true rfl) ?_
        rintro _ _ ⟨rfl, e9⟩
        have e9 := e9.symm
        subst e9
        rw [q_ts_eq]
        refine p_callV1i 115 53 dX11_say_50 (s_oddsOfS hW hR g4 htl) lk_X11_242 mX7_oddsOf rfl rfl (by decide) (Nat.le_of_ble_eq_true rfl) ?_
        rintro _ _ ⟨rfl, e9⟩
        have e9 := e9.symm
        subst e9
        refine p_istore_n 54 dX11_say_53 rfl (Nat.le_of_ble_eq_true rfl) rfl rfl ?_
        dsimp only [List.set]
        refine p_aload_n 55 dX11_say_54 rfl rfl (by decide) ?_
        refine p_getR 0 58 dX11_say_55 fX11_40 rfl (hW (0, 9, 52) (by decide)) ?_
        refine p_aload_n 59 dX11_say_58 rfl rfl (by decide) ?_
        refine p_getR 0 62 dX11_say_59 fX11_33 rfl (hW (0, 8, 49) (by decide)) ?_
        refine p_callV1v 52 65 dX11_say_62 (s_keep hW ht16 (by omega) p39 hc529 (by rw [hN.2.2.2.1]; omega)) lk_X11_335 mX5_keep rfl rfl (by decide) (Nat.le_of_ble_eq_true rfl) ?_
        intro M8 e8
        change M8 = zkeep M9 top cnt at e8
        subst e8
        have hI8 := hI9.keep hF h1 ht16 p39 hc529
        have hW := hI8.1
        obtain ⟨n1, n2, n3, n4, n5, n6⟩ := hI8.2.2.2.1
        have n17 : zkeep M9 top cnt 49 1 = ((M 129 17).toNat : Int) := n2.trans e17
        have n14 : zkeep M9 top cnt 49 2 = ((M 129 14).toNat : Int) := n3.trans e14
        have hco : zkeep M9 top cnt 0 5 = 25 := (congrFun (zkeep_ne (by omega) (by omega) (by omega) (by decide)) 5).trans hco
        have hod : zkeep M9 top cnt 38 n = (q_n (M 127) (38 + 3 * n) : Int) := (congrFun (zkeep_ne (by omega) (by omega) (by omega) (by decide)) n).trans (((hC.2.2.2.1 n (by omega)).1).trans eo)
        refine p_aload_n 66 dX11_say_65 rfl rfl (by decide) ?_
        refine p_getR 0 69 dX11_say_66 fX11_33 rfl (hW (0, 8, 49) (by decide)) ?_
        refine p_aload_n 70 dX11_say_69 rfl rfl (by decide) ?_
        refine p_getR 0 73 dX11_say_70 fX11_33 rfl (hW (0, 8, 49) (by decide)) ?_
        refine p_getI 49 76 dX11_say_73 fX11_349 rfl ?_
        rw [n17]
        refine p_callS1i 79 dX11_say_76 (s_drawAfter (v := (M 129 17).toNat) (by omega)) lk_X11_323 mX11_drawAfter (by decide) (Nat.le_of_ble_eq_true rfl) ?_
        rintro _ _ ⟨rfl, e9⟩
        have e9 := e9.symm
        subst e9
        rw [show (75 * (M 129 17).toNat + 74) % 65537 = q_seed2 (M 129) from rfl]
        refine p_putI 49 82 dX11_say_79 wX11_349 rfl ?_
        refine p_aload_n 83 dX11_say_82 rfl rfl (by decide) ?_
        refine p_getR 0 86 dX11_say_83 fX11_33 rfl (hW (0, 8, 49) (by decide)) ?_
        refine p_iload_n 87 dX11_say_86 rfl rfl ?_
        refine p_if_le 118 90 dX11_say_87 (by omega) (by omega) (fun h87 => absurd (by omega) (fun h9 : False => h9)) (fun h87 => ?_)
        refine p_aload_n 91 dX11_say_90 rfl rfl (by decide) ?_
        refine p_getR 0 94 dX11_say_91 fX11_33 rfl (hW (0, 8, 49) (by decide)) ?_
        refine p_getI 49 97 dX11_say_94 fX11_349 rfl ?_
        rw [zset_at]
        refine p_iload_n 98 dX11_say_97 rfl rfl ?_
        refine p_irem 99 dX11_say_98 (by rw [w32_id (by omega) (by omega)]; omega) ?_
        rw [z_irem_n (q_seed2 (M 129)) (q_odds (q_n (M 127)) (q_ts (M 127) (M 129))) (by omega) (by omega)]
        refine p_aload_n 100 dX11_say_99 rfl rfl (by decide) ?_
        refine p_getR 0 103 dX11_say_100 fX11_16 rfl hco ?_
        refine p_getR 25 106 dX11_say_103 fX11_211 rfl (hW (25, 5, 36) (by decide)) ?_
        refine p_getR 36 109 dX11_say_106 fX11_215 rfl (hW (36, 3, 38) (by decide)) ?_
        refine p_iload_n 110 dX11_say_109 rfl rfl ?_
        refine p_ialdn 38 111 (n) dX11_say_110 rfl (by omega) (by omega) ?_
        rw [zset_ne _ (by decide), hod]
        refine p_icmp_ge 118 114 dX11_say_111 (by omega) (by omega) (by omega) (by omega) (fun h111 => ?_) (fun h111 => ?_)
        · refine p_iconst 119 dX11_say_118 ?_
          refine p_putZ 49 122 dX11_say_119 wX11_170 rfl (by decide) ?_
          refine p_aload_n 123 dX11_say_122 rfl rfl (by decide) ?_
          refine p_getR 0 126 dX11_say_123 fX11_33 rfl (hW (0, 8, 49) (by decide)) ?_
          refine p_dupR 127 dX11_say_126 ?_
          refine p_getI 49 130 dX11_say_127 fX11_223 rfl ?_
          rw [zset_k (by decide), zset_k (by decide), n14]
          refine p_iload_n 131 dX11_say_130 rfl rfl ?_
          refine p_callS1i 134 dX11_say_131 (s_bit (i := n) (by omega)) lk_X11_226 mX11_bit (by decide) (Nat.le_of_ble_eq_true rfl) ?_
          rintro _ _ ⟨rfl, e9⟩
          have e9 := e9.symm
          subst e9
          refine p_ior 135 dX11_say_134 ?_
          rw [z_ior_n (M 129 14).toNat (2 ^ n) (by omega) (by omega)]
          refine p_putI 49 138 dX11_say_135 wX11_223 rfl ?_
          refine p_aload_n 139 dX11_say_138 rfl rfl (by decide) ?_
          refine p_aload_n 140 dX11_say_139 rfl rfl (by decide) ?_
          refine p_getR 0 143 dX11_say_140 fX11_33 rfl (hW (0, 8, 49) (by decide)) ?_
          refine p_getI 49 146 dX11_say_143 fX11_170 rfl ?_
          rw [zset_k (by decide), zset_at]
          refine p_if_eq 153 149 dX11_say_146 (by decide) (by decide) (fun h146 => ?_) (fun h146 => absurd (absurd rfl h146) (fun h9 : False => h9))
          refine p_iconst 154 dX11_say_153 ?_
          refine p_callV1i 0 157 dX11_say_154 s_grant lk_X11_108 mX11_grant rfl rfl (by decide) (Nat.le_of_ble_eq_true rfl) ?_
          rintro _ _ ⟨rfl, rfl⟩
          refine p_iret dX11_say_157 rfl ?_
          refine ⟨_, rfl, ?_⟩
          unfold ga_say
          rw [if_neg (by omega), Int.toNat_natCast, if_pos hsy]
          have hwk : q_wake (M 127) (M 129) n = 0 := by
            unfold q_wake
            rw [hun]
            first | (rw [if_pos (by omega)]; done) | (rw [if_neg (by omega)]; done)
          refine ⟨hwk.symm, ?_, fun k hk => by rw [zset_ne _ (by omega), zset_ne _ (by omega), zset_ne _ (by omega), zset_ne _ (by omega), zkeep_ne (by omega) (by omega) (by omega) (by omega)]; exact hk9 k hk⟩
          refine hI8.now (s' := q_said M n) (hF.note h1) ((((hW.set (by decide +kernel)).set (by decide +kernel)).set (by decide +kernel)).set (by decide +kernel)) (q_said_ne (by decide) (by decide)) (q_said_ne (by decide) (by decide)) (q_said_ne (by decide) (by decide)) (q_said_ne (by decide) (by decide)) (q_said_124 (by decide)) (q_said_124 (by decide)) (q_said_124 (by decide)) (q_said_124 (by decide)) (q_said_124 (by decide)) (fun a g1 g2 g3 g4 g5 => by rw [zset_ne _ g1, zset_ne _ g2, zset_ne _ g2, zset_ne _ g2]) (fun k hk => by rw [zset_k hk, zset_ne _ (by decide), zset_ne _ (by decide), zset_ne _ (by decide)]) rfl (by show (0 : Int) ≠ 4; decide) ?_
          refine ⟨n1, rfl, rfl, ?_, fun s hs => (n5 s hs).trans (q_said_keep (by omega) (by omega) (by omega)).symm, fun g s hs => (n6 (by rw [q_note_124 (by decide)]; exact h1) s hs).trans (by show q_tnd (M 129 (7 + s)) = q_tnd (q_said M n 129 (7 + s)); rw [q_said_keep (by omega) (by omega) (by omega)])⟩
          show _ = q_wake (M 127) (M 129) n
          rw [hwk]
          rfl
        · refine p_iconst 115 dX11_say_114 ?_
          refine p_goto 119 dX11_say_115 ?_
          refine p_putZ 49 122 dX11_say_119 wX11_170 rfl (by decide) ?_
          refine p_aload_n 123 dX11_say_122 rfl rfl (by decide) ?_
          refine p_getR 0 126 dX11_say_123 fX11_33 rfl (hW (0, 8, 49) (by decide)) ?_
          refine p_dupR 127 dX11_say_126 ?_
          refine p_getI 49 130 dX11_say_127 fX11_223 rfl ?_
          rw [zset_k (by decide), zset_k (by decide), n14]
          refine p_iload_n 131 dX11_say_130 rfl rfl ?_
          refine p_callS1i 134 dX11_say_131 (s_bit (i := n) (by omega)) lk_X11_226 mX11_bit (by decide) (Nat.le_of_ble_eq_true rfl) ?_
          rintro _ _ ⟨rfl, e9⟩
          have e9 := e9.symm
          subst e9
          refine p_ior 135 dX11_say_134 ?_
          rw [z_ior_n (M 129 14).toNat (2 ^ n) (by omega) (by omega)]
          refine p_putI 49 138 dX11_say_135 wX11_223 rfl ?_
          refine p_aload_n 139 dX11_say_138 rfl rfl (by decide) ?_
          refine p_aload_n 140 dX11_say_139 rfl rfl (by decide) ?_
          refine p_getR 0 143 dX11_say_140 fX11_33 rfl (hW (0, 8, 49) (by decide)) ?_
          refine p_getI 49 146 dX11_say_143 fX11_170 rfl ?_
          rw [zset_k (by decide), zset_at]
          refine p_if_eq 153 149 dX11_say_146 (by decide) (by decide) (fun h146 => absurd (absurd h146 (by decide)) (fun h9 : False => h9)) (fun h146 => ?_)
          refine p_iconst 150 dX11_say_149 ?_
          refine p_goto 154 dX11_say_150 ?_
          refine p_callV1i 0 157 dX11_say_154 s_grant lk_X11_108 mX11_grant rfl rfl (by decide) (Nat.le_of_ble_eq_true rfl) ?_
          rintro _ _ ⟨rfl, rfl⟩
          refine p_iret dX11_say_157 rfl ?_
          refine ⟨_, rfl, ?_⟩
          unfold ga_say
          rw [if_neg (by omega), Int.toNat_natCast, if_pos hsy]
          have hwk : q_wake (M 127) (M 129) n = 1 := by
            unfold q_wake
            rw [hun]
            first | (rw [if_pos (by omega)]; done) | (rw [if_neg (by omega)]; done)
          refine ⟨hwk.symm, ?_, fun k hk => by rw [zset_ne _ (by omega), zset_ne _ (by omega), zset_ne _ (by omega), zset_ne _ (by omega), zkeep_ne (by omega) (by omega) (by omega) (by omega)]; exact hk9 k hk⟩
          refine hI8.now (s' := q_said M n) (hF.note h1) ((((hW.set (by decide +kernel)).set (by decide +kernel)).set (by decide +kernel)).set (by decide +kernel)) (q_said_ne (by decide) (by decide)) (q_said_ne (by decide) (by decide)) (q_said_ne (by decide) (by decide)) (q_said_ne (by decide) (by decide)) (q_said_124 (by decide)) (q_said_124 (by decide)) (q_said_124 (by decide)) (q_said_124 (by decide)) (q_said_124 (by decide)) (fun a g1 g2 g3 g4 g5 => by rw [zset_ne _ g1, zset_ne _ g2, zset_ne _ g2, zset_ne _ g2]) (fun k hk => by rw [zset_k hk, zset_ne _ (by decide), zset_ne _ (by decide), zset_ne _ (by decide)]) rfl (by show (0 : Int) ≠ 4; decide) ?_
          refine ⟨n1, rfl, rfl, ?_, fun s hs => (n5 s hs).trans (q_said_keep (by omega) (by omega) (by omega)).symm, fun g s hs => (n6 (by rw [q_note_124 (by decide)]; exact h1) s hs).trans (by show q_tnd (M 129 (7 + s)) = q_tnd (q_said M n 129 (7 + s)); rw [q_said_keep (by omega) (by omega) (by omega)])⟩
          show _ = q_wake (M 127) (M 129) n
          rw [hwk]
          rfl
      · have hsy : ¬ q_say (M 127) (M 129) n = true := if_nne0 h19
        refine p_aload_n 23 dX11_say_22 rfl rfl (by decide) ?_
        refine p_iconst 24 dX11_say_23 ?_
        refine p_callV1i 0 27 dX11_say_24 s_refuse lk_X11_73 mX11_refuse rfl rfl (by decide) (Nat.le_of_ble_eq_true rfl) ?_
        rintro _ _ ⟨rfl, rfl⟩
        refine p_iret dX11_say_27 rfl ?_
        exact ⟨_, rfl, CA.no hI hF (by unfold ga_say; rw [if_neg (by omega), Int.toNat_natCast, if_neg hsy]) (by unfold ga_say; rw [if_neg (by omega), Int.toNat_natCast, if_neg hsy]) (by decide)⟩
    · have h5 := if_nne0 h5
      refine p_aload_n 9 dX11_say_8 rfl rfl (by decide) ?_
      refine p_iconst 10 dX11_say_9 ?_
      refine p_callV1i 0 13 dX11_say_10 s_refuse lk_X11_73 mX11_refuse rfl rfl (by decide) (Nat.le_of_ble_eq_true rfl) ?_
      rintro _ _ ⟨rfl, rfl⟩
      refine p_iret dX11_say_13 rfl ?_
      exact ⟨_, rfl, CA.no hI hF (by unfold ga_say; rw [if_pos (by omega)]) (by unfold ga_say; rw [if_pos (by omega)]) (by decide)⟩
theorem m_say {l : Launch} {X : ZX} {M : ZM} (hW : zWm M) (hF : WF M) {w : Int} (hw1 : -2147483648 ≤ w) (hw2 : w < 2147483648) : zCi l X 4 yX12_say tX12_say [zr 124, zi w] M (MA M (ga_say M w)) := by
  have hWg : zWm (zset (zset M 124 0 0) 124 11 0) := (hW.set (by decide +kernel)).set (by decide +kernel)
  have hR := hF.r
  have hT := hF.t
  have hh := hF.h
  have e0 : M 127 0 = (q_n (M 127) 0 : Int) := hR.n (by decide)
  have e2 : M 127 2 = (q_n (M 127) 2 : Int) := hR.n (by decide)
  have e3 : M 127 3 = (q_n (M 127) 3 : Int) := hR.n (by decide)
  have e4 : M 127 4 = (q_n (M 127) 4 : Int) := hR.n (by decide)
  have bR := hR.2.1
  have h20 : M 124 14 = 0 → M 127 2 = 0 := fun h => hF.r0 h 2 (by decide)
  have h30 : M 124 14 = 0 → M 127 3 = 0 := fun h => hF.r0 h 3 (by decide)
  have h40 : M 124 14 = 0 → M 127 4 = 0 := fun h => hF.r0 h 4 (by decide)
  have b4 := bR.2.2.2.2.1
  have hp7 := p7 (n := q_n (M 127) 4) (by omega)
  have htl := q_ts_lt (M 127) (M 129)
  have hto7 : q_ts (M 127) (M 129) < 128 := by omega
  have hol := q_odds_le hR (q_ts (M 127) (M 129))
  have hkl := q_cost_le hR 7 (q_ts (M 127) (M 129))
  have hul := q_un_lt (q_n (M 127) 4) (M 129 14).toNat
  have hD7 : (M 129 14).toNat < 2 ^ q_n (M 127) 4 := hT.said2 hR
  have e14 : M 129 14 = ((M 129 14).toNat : Int) := by have := hT.1 14 (by decide); omega
  have t160 := hT.1 16 (by decide)
  have t161 := hT.2.2.2.2.1
  have hG11 : zset (zset M 124 0 0) 124 11 0 124 11 = 0 := rfl
  have hu := hF.u
  have hm3 := hF.m
  obtain ⟨cnt, hcnt⟩ : ∃ k : Nat, M 124 20 = (k : Int) := ⟨(M 124 20).toNat, by omega⟩
  obtain ⟨ki, hki⟩ : ∃ k : Nat, M 124 21 = (k : Int) := ⟨(M 124 21).toNat, by omega⟩
  have e17 : M 129 17 = ((M 129 17).toNat : Int) := by have := hT.1 17 (by decide); omega
  have t171 := hT.2.2.2.2.2.1
  have hsl := q_seed2_le (M 129)
  have hob := q_odds_le hR (q_un (q_n (M 127) 4) (M 129 14).toNat)
  refine zC.of [some (zr 124), some (zi w), none] (by decide +kernel) rfl rfl (Nat.le_of_ble_eq_true rfl) rfl ?_
  refine p_aload_n 1 dX12_say_0 rfl rfl (by decide) ?_
  refine p_callV0v 124 4 dX12_say_1 s_good lk_X12_165 mX12_good rfl rfl (by decide) (Nat.le_of_ble_eq_true rfl) ?_
  rintro _ rfl
  refine p_aload_n 5 dX12_say_4 rfl rfl (by decide) ?_
  refine p_iload_n 6 dX12_say_5 rfl rfl ?_
  refine p_callV1i 124 9 dX12_say_6 (s_isWordThere (ρ := M 127) hWg (fun _ _ => rfl) hR (by exact hh) (by omega) (by omega)) lk_X12_312 mX12_isWordThere rfl rfl (by decide) (Nat.le_of_ble_eq_true rfl) ?_
  rintro _ _ ⟨rfl, e9⟩
  have e9 := e9.symm
  subst e9
  refine p_if_ne 18 12 dX12_say_9 (by split <;> omega) (by split <;> omega) (fun h9 => ?_) (fun h9 => ?_)
  · have h9t : M 124 14 = 1 ∧ 0 ≤ w ∧ w < M 127 4 := if_ne0 h9
    obtain ⟨n, rfl⟩ : ∃ k : Nat, w = (k : Int) := ⟨w.toNat, by omega⟩
    have h1 : M 124 14 = 1 := h9t.1
    have hR1 := hF.r1 h1
    have eo : M 127 (38 + 3 * n) = (q_n (M 127) (38 + 3 * n) : Int) := hR.n (by omega)
    have hbo := (hR.2.2.2.2.1 n (by omega)).1
    have h2n : 2 ^ n < 128 := p7w (by omega)
    refine p_aload_n 19 dX12_say_18 rfl rfl (by decide) ?_
    refine p_iload_n 20 dX12_say_19 rfl rfl ?_
    refine p_callV1i 124 23 dX12_say_20 (s_canSay (ρ := M 127) hWg (fun _ _ => rfl) hR (τ := M 129) (fun _ _ => rfl) hT (w := n) (by omega)) lk_X12_352 mX12_canSay rfl rfl (by decide) (Nat.le_of_ble_eq_true rfl) ?_
    rintro _ _ ⟨rfl, e9⟩
    have e9 := e9.symm
    subst e9
    refine p_if_ne 32 26 dX12_say_23 (by split <;> omega) (by split <;> omega) (fun h23 => ?_) (fun h23 => ?_)
    · have hsy : q_say (M 127) (M 129) n = true := if_ne0 h23
      obtain ⟨hs16, hbu⟩ := q_say_un hR (by omega) hsy
      have hne : (q_un (q_n (M 127) 4) (M 129 14).toNat) ≠ 0 := fun e => by rw [e, Nat.zero_testBit] at hbu; cases hbu
      have hop := q_odds_pos hR hR1 hne hul
      have hml : q_seed2 (M 129) % (q_odds (q_n (M 127)) (q_un (q_n (M 127) 4) (M 129 14).toNat)) < (q_odds (q_n (M 127)) (q_un (q_n (M 127) 4) (M 129 14).toNat)) := Nat.mod_lt _ hop
      refine p_aload_n 33 dX12_say_32 rfl rfl (by decide) ?_
      refine p_callV0v 124 36 dX12_say_33 (s_note hWg (show (zset (zset M 124 0 0) 124 11 0) 124 20 = (cnt : Int) from hcnt) (by omega)) lk_X12_434 mX12_note rfl rfl (by decide) (Nat.le_of_ble_eq_true rfl) ?_
      rintro _ rfl
      have hW9 := q_note_wm hWg
      have hN17 : q_note (zset (zset M 124 0 0) 124 11 0) 129 17 = ((M 129 17).toNat : Int) := e17
      have hN14 : q_note (zset (zset M 124 0 0) 124 11 0) 129 14 = ((M 129 14).toNat : Int) := e14
      refine p_aload_n 37 dX12_say_36 rfl rfl (by decide) ?_
      refine p_aload_n 38 dX12_say_37 rfl rfl (by decide) ?_
      refine p_callV0i 124 41 dX12_say_38 (s_unsaid hW9 (ρ := M 127) (fun _ _ => rfl) hR (τ := M 129) (fun _ _ => rfl) hT) lk_X12_319 mX12_unsaid rfl rfl (by decide) (Nat.le_of_ble_eq_true rfl) ?_
      rintro _ _ ⟨rfl, e9⟩
      have e9 := e9.symm
      subst e9
      refine p_callV1i 124 44 dX12_say_41 (s_oddsIn hW9 (ρ := M 127) (fun _ _ => rfl) hR (S := (q_un (q_n (M 127) 4) (M 129 14).toNat)) (by omega)) lk_X12_322 mX12_oddsIn rfl rfl (by decide) (Nat.le_of_ble_eq_true rfl) ?_
      rintro _ _ ⟨rfl, e9⟩
      have e9 := e9.symm
      subst e9
      refine p_istore_n 45 dX12_say_44 rfl (Nat.le_of_ble_eq_true rfl) rfl rfl ?_
      dsimp only [List.set]
      refine p_aload_n 46 dX12_say_45 rfl rfl (by decide) ?_
      refine p_getR 124 49 dX12_say_46 fX12_26 rfl (hWg (124, 17, 129) (by decide)) ?_
      refine p_bipush 51 dX12_say_49 rfl ?_
      refine p_bipush 53 dX12_say_51 rfl ?_
      refine p_aload_n 54 dX12_say_53 rfl rfl (by decide) ?_
      refine p_getR 124 57 dX12_say_54 fX12_26 rfl (hWg (124, 17, 129) (by decide)) ?_
      refine p_bipush 59 dX12_say_57 rfl ?_
      refine p_ialdn 129 60 (17) dX12_say_59 rfl (by omega) (by omega) ?_
      rw [hN17]
      refine p_imul 61 dX12_say_60 ?_
      refine p_bipush 63 dX12_say_61 rfl ?_
      refine p_iadd 64 dX12_say_63 ?_
      refine p_ldcw (z := 65537) 67 dX12_say_64 kk_X12_426 rfl ?_
      refine p_irem 68 dX12_say_67 (by decide) ?_
      rw [z_draw (by omega), show (75 * (M 129 17).toNat + 74) % 65537 = q_seed2 (M 129) from rfl]
      refine p_iastn 129 69 (17) dX12_say_68 rfl (by omega) (by omega) ?_
      refine p_aload_n 70 dX12_say_69 rfl rfl (by decide) ?_
      refine p_getR 124 73 dX12_say_70 fX12_26 rfl (hWg (124, 17, 129) (by decide)) ?_
      refine p_bipush 75 dX12_say_73 rfl ?_
      refine p_dup2 76 dX12_say_75 ?_
      refine p_ialdn 129 77 (14) dX12_say_76 rfl (by omega) (by omega) ?_
      rw [zset_k (by decide), hN14]
      refine p_iconst 78 dX12_say_77 ?_
      refine p_iload_n 79 dX12_say_78 rfl rfl ?_
      refine p_ishl 80 dX12_say_79 ?_
      rw [z_bit n (by omega)]
      refine p_ior 81 dX12_say_80 ?_
      rw [z_ior_n (M 129 14).toNat (2 ^ n) (by omega) (by omega)]
      refine p_iastn 129 82 (14) dX12_say_81 rfl (by omega) (by omega) ?_
      refine p_aload_n 83 dX12_say_82 rfl rfl (by decide) ?_
      refine p_getR 124 86 dX12_say_83 fX12_26 rfl (hWg (124, 17, 129) (by decide)) ?_
      refine p_bipush 88 dX12_say_86 rfl ?_
      refine p_aload_n 89 dX12_say_88 rfl rfl (by decide) ?_
      refine p_getR 124 92 dX12_say_89 fX12_26 rfl (hWg (124, 17, 129) (by decide)) ?_
      refine p_bipush 94 dX12_say_92 rfl ?_
      refine p_ialdn 129 95 (17) dX12_say_94 rfl (by omega) (by omega) ?_
      rw [zset_k (by decide), zset_at]
      refine p_iload_n 96 dX12_say_95 rfl rfl ?_
      refine p_irem 97 dX12_say_96 (by rw [w32_id (by omega) (by omega)]; omega) ?_
      rw [z_irem_n (q_seed2 (M 129)) (q_odds (q_n (M 127)) (q_un (q_n (M 127) 4) (M 129 14).toNat)) (by omega) (by omega)]
      refine p_aload_n 98 dX12_say_97 rfl rfl (by decide) ?_
      refine p_iload_n 99 dX12_say_98 rfl rfl ?_
      refine p_callV1i 124 102 dX12_say_99 (s_oddsOf ((hW9.setc (by decide +kernel)).setc (by decide +kernel)) (ρ := M 127) (fun _ _ => rfl) hR (w := n) (by omega)) lk_X12_309 mX12_oddsOf rfl rfl (by decide) (Nat.le_of_ble_eq_true rfl) ?_
      rintro _ _ ⟨rfl, e9⟩
      have e9 := e9.symm
      subst e9
      rw [eo]
      refine p_icmp_ge 109 105 dX12_say_102 (by omega) (by omega) (by omega) (by omega) (fun h102 => ?_) (fun h102 => ?_)
      · refine p_iconst 110 dX12_say_109 ?_
        refine p_iastn 129 111 (16) dX12_say_110 rfl (by omega) (by omega) ?_
        refine p_aload_n 112 dX12_say_111 rfl rfl (by decide) ?_
        refine p_getR 124 115 dX12_say_112 fX12_26 rfl (hW9 (124, 17, 129) (by decide)) ?_
        refine p_bipush 117 dX12_say_115 rfl ?_
        refine p_ialdn 129 118 (16) dX12_say_117 rfl (by omega) (by omega) ?_
        rw [zset_at]
        refine p_iret dX12_say_118 rfl ?_
        refine ⟨_, rfl, ?_⟩
        unfold ga_say
        rw [if_neg (by omega), Int.toNat_natCast, if_pos hsy]
        have hwk : q_wake (M 127) (M 129) n = 0 := by
          unfold q_wake
          first | (rw [if_pos (by omega)]; done) | (rw [if_neg (by omega)]; done)
        have ed : ∀ k, k ≠ 129 → zset (zset (zset (q_note (zset (zset M 124 0 0) 124 11 0)) 129 17 (q_seed2 (M 129) : Int)) 129 14 (((M 129 14).toNat ||| 2 ^ n : Nat) : Int)) 129 16 0 k = q_note (zset (zset M 124 0 0) 124 11 0) k := fun k h1 => by
          rw [zset_ne _ h1, zset_ne _ h1, zset_ne _ h1]
        refine ⟨by rw [hwk], fun k hk => by rw [ed k (by omega), q_note_ne (by omega) (by omega), zset_ne _ (by omega), zset_ne _ (by omega)], ((hW9.setc (by decide +kernel)).setc (by decide +kernel)).setc (by decide +kernel), ed 125 (by decide), ed 127 (by decide), ?_, ?_, ed 131 (by decide), ?_, ?_, ?_, ?_, ?_, ?_, ?_⟩
        · funext b
          show _ = (if b = 14 then (((M 129 14).toNat ||| 2 ^ n : Nat) : Int) else if b = 16 then q_wake (M 127) (M 129) n else if b = 17 then (q_seed2 (M 129) : Int) else M 129 b)
          have e129 : q_note (zset (zset M 124 0 0) 124 11 0) 129 = M 129 := rfl
          simp only [zset, e129, if_true, hwk]
          (repeat' split) <;> first | (exfalso; omega) | rfl
        · rw [ed 130 (by decide)]
          rfl
        · rw [ed 124 (by decide)]
          rfl
        · rw [ed 124 (by decide)]
          rfl
        · rw [ed 124 (by decide)]
          rfl
        · rw [ed 124 (by decide)]
          rfl
        · rw [ed 124 (by decide)]
          rfl
        · rw [ed 124 (by decide)]
          rfl
        · rw [ed 124 (by decide)]
          rfl
      · refine p_iconst 106 dX12_say_105 ?_
        refine p_goto 110 dX12_say_106 ?_
        refine p_iastn 129 111 (16) dX12_say_110 rfl (by omega) (by omega) ?_
        refine p_aload_n 112 dX12_say_111 rfl rfl (by decide) ?_
        refine p_getR 124 115 dX12_say_112 fX12_26 rfl (hW9 (124, 17, 129) (by decide)) ?_
        refine p_bipush 117 dX12_say_115 rfl ?_
        refine p_ialdn 129 118 (16) dX12_say_117 rfl (by omega) (by omega) ?_
        rw [zset_at]
        refine p_iret dX12_say_118 rfl ?_
        refine ⟨_, rfl, ?_⟩
        unfold ga_say
        rw [if_neg (by omega), Int.toNat_natCast, if_pos hsy]
        have hwk : q_wake (M 127) (M 129) n = 1 := by
          unfold q_wake
          first | (rw [if_pos (by omega)]; done) | (rw [if_neg (by omega)]; done)
        have ed : ∀ k, k ≠ 129 → zset (zset (zset (q_note (zset (zset M 124 0 0) 124 11 0)) 129 17 (q_seed2 (M 129) : Int)) 129 14 (((M 129 14).toNat ||| 2 ^ n : Nat) : Int)) 129 16 1 k = q_note (zset (zset M 124 0 0) 124 11 0) k := fun k h1 => by
          rw [zset_ne _ h1, zset_ne _ h1, zset_ne _ h1]
        refine ⟨by rw [hwk], fun k hk => by rw [ed k (by omega), q_note_ne (by omega) (by omega), zset_ne _ (by omega), zset_ne _ (by omega)], ((hW9.setc (by decide +kernel)).setc (by decide +kernel)).setc (by decide +kernel), ed 125 (by decide), ed 127 (by decide), ?_, ?_, ed 131 (by decide), ?_, ?_, ?_, ?_, ?_, ?_, ?_⟩
        · funext b
          show _ = (if b = 14 then (((M 129 14).toNat ||| 2 ^ n : Nat) : Int) else if b = 16 then q_wake (M 127) (M 129) n else if b = 17 then (q_seed2 (M 129) : Int) else M 129 b)
          have e129 : q_note (zset (zset M 124 0 0) 124 11 0) 129 = M 129 := rfl
          simp only [zset, e129, if_true, hwk]
          (repeat' split) <;> first | (exfalso; omega) | rfl
        · rw [ed 130 (by decide)]
          rfl
        · rw [ed 124 (by decide)]
          rfl
        · rw [ed 124 (by decide)]
          rfl
        · rw [ed 124 (by decide)]
          rfl
        · rw [ed 124 (by decide)]
          rfl
        · rw [ed 124 (by decide)]
          rfl
        · rw [ed 124 (by decide)]
          rfl
        · rw [ed 124 (by decide)]
          rfl
    · have hsy : ¬ q_say (M 127) (M 129) n = true := if_nne0 h23
      refine p_aload_n 27 dX12_say_26 rfl rfl (by decide) ?_
      refine p_iconst 28 dX12_say_27 ?_
      refine p_callV1i 124 31 dX12_say_28 s_no lk_X12_168 mX12_no rfl rfl (by decide) (Nat.le_of_ble_eq_true rfl) ?_
      rintro _ _ ⟨rfl, rfl⟩
      refine p_iret dX12_say_31 rfl ?_
      exact ⟨_, rfl, MA.no hW (by unfold ga_say; rw [if_neg (by omega), Int.toNat_natCast, if_neg hsy]) (by unfold ga_say; rw [if_neg (by omega), Int.toNat_natCast, if_neg hsy])⟩
  · have h9f : ¬ (M 124 14 = 1 ∧ 0 ≤ w ∧ w < M 127 4) := if_nne0 h9
    refine p_aload_n 13 dX12_say_12 rfl rfl (by decide) ?_
    refine p_iconst 14 dX12_say_13 ?_
    refine p_callV1i 124 17 dX12_say_14 s_no lk_X12_168 mX12_no rfl rfl (by decide) (Nat.le_of_ble_eq_true rfl) ?_
    rintro _ _ ⟨rfl, rfl⟩
    refine p_iret dX12_say_17 rfl ?_
    exact ⟨_, rfl, MA.no hW (by unfold ga_say; rw [if_pos (by omega)]) (by unfold ga_say; rw [if_pos (by omega)])⟩
