/-! THE READER, the class's: tokens -/
theorem pz_sh64 : ((Int32.ofInt 5).toInt64 &&& 63).toBitVec.smod 64 = 5#64 := by decide
theorem pz_bv64 (a : Nat) : (Int64.ofInt (a : Int)).toBitVec = BitVec.ofNat 64 a := by
  rw [Int64.toBitVec_ofInt, BitVec.ofInt_natCast]
theorem pz_bvInt64 {x : BitVec 64} {n : Nat} (h : x.toNat = n) (hn : n < 9223372036854775808) : x.toInt = (n : Int) := by
  rw [BitVec.toInt_eq_toNat_of_lt (by rw [h]; omega), h]
theorem pz_bvN64 {a : Nat} (ha : a < 9223372036854775808) : (BitVec.ofNat 64 a).toNat = a := by
  rw [BitVec.toNat_ofNat]
  omega
theorem z_lshl5 (a : Nat) (ha : a < 68719476736) : z_lshl (a : Int) 5 = ((a * 32 : Nat) : Int) := by
  unfold z_lshl
  show ((Int64.ofInt (a : Int)).toBitVec <<< (((Int32.ofInt 5).toInt64 &&& 63).toBitVec.smod 64)).toInt = _
  rw [pz_sh64, pz_bv64]
  refine pz_bvInt64 ?_ (by omega)
  rw [BitVec.shiftLeft_eq', BitVec.toNat_shiftLeft, pz_bvN64 (by omega), Nat.shiftLeft_eq]
  show a * 2 ^ 5 % 2 ^ 64 = a * 32
  omega
theorem z_lor5 (a b : Nat) (ha : a < 68719476736) (hb : b < 32) : z_lor ((a * 32 : Nat) : Int) (b : Int) = ((a * 32 + b : Nat) : Int) := by
  unfold z_lor
  show ((Int64.ofInt ((a * 32 : Nat) : Int)).toBitVec ||| (Int64.ofInt (b : Int)).toBitVec).toInt = _
  rw [pz_bv64, pz_bv64]
  refine pz_bvInt64 ?_ (by omega)
  rw [BitVec.toNat_or, pz_bvN64 (by omega), pz_bvN64 (by omega)]
  have h := Nat.two_pow_add_eq_or_of_lt (i := 5) (b := b) hb a
  rw [show 2 ^ 5 * a = a * 32 by omega] at h
  exact h.symm
theorem z_pkstep {x v : Int} (h0 : 0 ≤ x) (h1 : x < 34359738368) (v1 : 1 ≤ v) (v2 : v ≤ 26) : z_lor (z_lshl x 5) (w32 v) = 32 * x + v := by
  obtain ⟨a, rfl⟩ : ∃ a : Nat, x = (a : Int) := ⟨x.toNat, by omega⟩
  obtain ⟨b, rfl⟩ : ∃ b : Nat, v = (b : Int) := ⟨v.toNat, by omega⟩
  rw [w32_id (by omega) (by omega), z_lshl5 a (by omega), z_lor5 a b (by omega) (by omega)]
  omega
theorem q_sb_sm {x : Int} (h : 0 ≤ x ∧ x < 256) : (97 ≤ q_sb x ∧ q_sb x ≤ 122) ↔ q_sm x = true := by
  unfold q_sb q_sm
  rw [Bool.and_eq_true, decide_eq_true_eq, decide_eq_true_eq]
  split <;> omega
theorem q_sb_dgt {x : Int} (h : 0 ≤ x ∧ x < 256) : (48 ≤ q_sb x ∧ q_sb x ≤ 57) ↔ q_dgt x = true := by
  unfold q_sb q_dgt
  rw [Bool.and_eq_true, decide_eq_true_eq, decide_eq_true_eq]
  split <;> omega
theorem q_sb_eq {x : Int} (h : 0 ≤ x ∧ x < 256) {k : Int} (hk : 0 ≤ k ∧ k < 128) : q_sb x = k ↔ x = k := by
  unfold q_sb
  split <;> omega
theorem q_sb_small {x : Int} (h : 0 ≤ x ∧ x < 128) : q_sb x = x := by
  unfold q_sb
  rw [if_pos h.2]
def q_srt (k : Nat) : Int := if k = 0 then 0 else if k = 2 then 1 else if k = 3 then 2 else if k = 59 then 3 else 4
/-- the reader reads t; its token is the one from p on -/
def RB (t : Nat → Int) (n c : Nat) (M : ZM) : Prop := zWc M ∧ M 48 0 = 1 ∧ M 48 1 = (n : Int) ∧ M 48 2 = (c : Int) ∧ ∀ i, i < n → M 1 i = q_sb (t i)
def TC (t : Nat → Int) (n p : Nat) (M : ZM) : Prop := M 48 3 = (q_en t n p : Int) ∧ M 48 4 = (q_at t n p : Int) ∧ M 48 5 = q_srt (q_tk t n p) ∧ (q_tk t n p = 2 → M 48 6 = q_wd t n p) ∧ (q_tk t n p = 3 → M 48 7 = q_nb t n p)
/-- what a token's reading leaves as it was -/
def RK (N M : ZM) : Prop := (∀ a, a ≠ 48 → M a = N a) ∧ ∀ k, k < 3 ∨ 7 < k → M 48 k = N 48 k
theorem RK.rfl {N : ZM} : RK N N := ⟨fun _ _ => Eq.refl _, fun _ _ => Eq.refl _⟩
theorem RK.trans {A B C : ZM} (h1 : RK A B) (h2 : RK B C) : RK A C := ⟨fun a ha => (h2.1 a ha).trans (h1.1 a ha), fun k hk => (h2.2 k hk).trans (h1.2 k hk)⟩
theorem RK.set {N M : ZM} {k : Nat} {v : Int} (h : RK N M) (hk : 3 ≤ k ∧ k ≤ 7) : RK N (zset M 48 k v) := ⟨fun a ha => (zset_ne M ha).trans (h.1 a ha), fun j hj => (zset_k (by omega)).trans (h.2 j hj)⟩
theorem RK.wc {N M : ZM} (h : RK N M) (hW : zWc N) : zWc M := hW.fr (fun q hq => by
  have hr : ∀ q ∈ zwC, q.1 ≠ 48 := by decide +kernel
  rw [h.1 _ (hr q hq)])
theorem RB.of {t : Nat → Int} {n c : Nat} {N M : ZM} (h : RB t n c N) (hk : RK N M) : RB t n c M := by
  obtain ⟨h1, h2, h3, h4, h5⟩ := h
  refine ⟨hk.wc h1, (hk.2 0 (by omega)).trans h2, (hk.2 1 (by omega)).trans h3, (hk.2 2 (by omega)).trans h4, fun i hi => ?_⟩
  rw [hk.1 1 (by decide)]
  exact h5 i hi
theorem s_isLetter {l : Launch} {X : ZX} {M : ZM} {x : Int} (hx : 0 ≤ x ∧ x < 256) : zCi l X 0 yX6_isLetter tX6_isLetter [zi (q_sb x)] M (fun a M' => a = (if q_sm x = true then 1 else 0) ∧ M' = M) := by
  have hb := q_sb_bd hx
  refine zC.of [some (zi (q_sb x))] (by decide +kernel) rfl rfl (Nat.le_of_ble_eq_true rfl) rfl ?_
  refine p_iload_n 1 dX6_isLetter_0 rfl rfl ?_
  refine p_bipush 3 dX6_isLetter_1 rfl ?_
  refine p_icmp_lt 16 6 dX6_isLetter_3 (by omega) (by omega) (by decide) (by decide) (fun h3 => ?_) (fun h3 => ?_)
  · refine p_iconst 17 dX6_isLetter_16 ?_
    refine p_zret dX6_isLetter_17 rfl (by decide) ?_
    refine ⟨_, rfl, ?_, rfl⟩
    first | (rw [if_pos ((q_sb_sm hx).mp (by omega))]; done) | (rw [if_neg (fun g => by have := (q_sb_sm hx).mpr g; omega)]; done)
  · refine p_iload_n 7 dX6_isLetter_6 rfl rfl ?_
    refine p_bipush 9 dX6_isLetter_7 rfl ?_
    refine p_icmp_gt 16 12 dX6_isLetter_9 (by omega) (by omega) (by decide) (by decide) (fun h9 => ?_) (fun h9 => ?_)
    · refine p_iconst 17 dX6_isLetter_16 ?_
      refine p_zret dX6_isLetter_17 rfl (by decide) ?_
      refine ⟨_, rfl, ?_, rfl⟩
      first | (rw [if_pos ((q_sb_sm hx).mp (by omega))]; done) | (rw [if_neg (fun g => by have := (q_sb_sm hx).mpr g; omega)]; done)
    · refine p_iconst 13 dX6_isLetter_12 ?_
      refine p_goto 17 dX6_isLetter_13 ?_
      refine p_zret dX6_isLetter_17 rfl (by decide) ?_
      refine ⟨_, rfl, ?_, rfl⟩
      first | (rw [if_pos ((q_sb_sm hx).mp (by omega))]; done) | (rw [if_neg (fun g => by have := (q_sb_sm hx).mpr g; omega)]; done)
theorem s_isDigit {l : Launch} {X : ZX} {M : ZM} {x : Int} (hx : 0 ≤ x ∧ x < 256) : zCi l X 0 yX6_isDigit tX6_isDigit [zi (q_sb x)] M (fun a M' => a = (if q_dgt x = true then 1 else 0) ∧ M' = M) := by
  have hb := q_sb_bd hx
  refine zC.of [some (zi (q_sb x))] (by decide +kernel) rfl rfl (Nat.le_of_ble_eq_true rfl) rfl ?_
  refine p_iload_n 1 dX6_isDigit_0 rfl rfl ?_
  refine p_bipush 3 dX6_isDigit_1 rfl ?_
  refine p_icmp_lt 16 6 dX6_isDigit_3 (by omega) (by omega) (by decide) (by decide) (fun h3 => ?_) (fun h3 => ?_)
  · refine p_iconst 17 dX6_isDigit_16 ?_
    refine p_zret dX6_isDigit_17 rfl (by decide) ?_
    refine ⟨_, rfl, ?_, rfl⟩
    first | (rw [if_pos ((q_sb_dgt hx).mp (by omega))]; done) | (rw [if_neg (fun g => by have := (q_sb_dgt hx).mpr g; omega)]; done)
  · refine p_iload_n 7 dX6_isDigit_6 rfl rfl ?_
    refine p_bipush 9 dX6_isDigit_7 rfl ?_
    refine p_icmp_gt 16 12 dX6_isDigit_9 (by omega) (by omega) (by decide) (by decide) (fun h9 => ?_) (fun h9 => ?_)
    · refine p_iconst 17 dX6_isDigit_16 ?_
      refine p_zret dX6_isDigit_17 rfl (by decide) ?_
      refine ⟨_, rfl, ?_, rfl⟩
      first | (rw [if_pos ((q_sb_dgt hx).mp (by omega))]; done) | (rw [if_neg (fun g => by have := (q_sb_dgt hx).mpr g; omega)]; done)
    · refine p_iconst 13 dX6_isDigit_12 ?_
      refine p_goto 17 dX6_isDigit_13 ?_
      refine p_zret dX6_isDigit_17 rfl (by decide) ?_
      refine ⟨_, rfl, ?_, rfl⟩
      first | (rw [if_pos ((q_sb_dgt hx).mp (by omega))]; done) | (rw [if_neg (fun g => by have := (q_sb_dgt hx).mpr g; omega)]; done)
theorem q_go_step {p : Int → Bool} {t : Nat → Int} {n k : Nat} (h1 : k < n) (h2 : p (t k) = true) : q_go p t n (k + 1) = q_go p t n k := by
  rw [q_go_rec p t n k, if_pos ⟨h1, h2⟩]
theorem q_go_stop {p : Int → Bool} {t : Nat → Int} {n k : Nat} (h : ¬ (k < n ∧ p (t k) = true)) : q_go p t n k = k := by
  rw [q_go_rec p t n k, if_neg h]
theorem l_adv {l : Launch} {X : ZX} {M : ZM} {t : Nat → Int} {n c : Nat} (hn : n ≤ 900) (ht : ∀ i, i < n → 0 ≤ t i ∧ t i < 256) {N : ZM} (hB : RB t n c N) {p : Nat} {Q : Option ZV → ZM → Prop} (hQ : ∀ M' : ZM, RK N M' → M' 48 3 = (q_at t n p : Int) → zP l X 2 tX6_advance 38 [some (zr 48)] [] M' Q) : ∀ (j i : Nat), i + j = n → ∀ (M : ZM), RK N M → M 48 3 = (i : Int) → p ≤ i → q_go q_sp t n i = q_at t n p → zP l X 2 tX6_advance 0 [some (zr 48)] [] M (Q) := by
  intro j
  induction j with
  | zero =>
    intro i hi M hk h3 hpi hg
    have hB9 := hB.of hk
    refine p_aload_n 1 dX6_advance_0 rfl rfl (by decide) ?_
    refine p_getI 48 4 dX6_advance_1 fX6_28 rfl ?_
    rw [h3]
    refine p_aload_n 5 dX6_advance_4 rfl rfl (by decide) ?_
    refine p_getI 48 8 dX6_advance_5 fX6_15 rfl ?_
    rw [hB9.2.2.1]
    refine p_icmp_ge 38 11 dX6_advance_8 (by omega) (by omega) (by omega) (by omega) (fun h8 => ?_) (fun h8 => absurd (by omega) (fun h9 : False => h9))
    refine hQ M hk (h3.trans ?_)
    rw [← hg, q_go_stop (fun g => by omega)]
  | succ j ih =>
    intro i hi M hk h3 hpi hg
    have hB9 := hB.of hk
    have hti := ht i (by omega)
    have hsb := q_sb_bd hti
    refine p_aload_n 1 dX6_advance_0 rfl rfl (by decide) ?_
    refine p_getI 48 4 dX6_advance_1 fX6_28 rfl ?_
    rw [h3]
    refine p_aload_n 5 dX6_advance_4 rfl rfl (by decide) ?_
    refine p_getI 48 8 dX6_advance_5 fX6_15 rfl ?_
    rw [hB9.2.2.1]
    refine p_icmp_ge 38 11 dX6_advance_8 (by omega) (by omega) (by omega) (by omega) (fun h8 => absurd (by omega) (fun h9 : False => h9)) (fun h8 => ?_)
    refine p_aload_n 12 dX6_advance_11 rfl rfl (by decide) ?_
    refine p_getR 48 15 dX6_advance_12 fX6_9 rfl hB9.2.1 ?_
    refine p_aload_n 16 dX6_advance_15 rfl rfl (by decide) ?_
    refine p_getI 48 19 dX6_advance_16 fX6_28 rfl ?_
    rw [h3]
    refine p_baldn 1 20 (i) dX6_advance_19 rfl (by omega) (by omega) ?_
    rw [hB9.2.2.2.2 i (by omega)]
    refine p_bipush 22 dX6_advance_20 rfl ?_
    refine p_icmp_ne 38 25 dX6_advance_22 (by omega) (by omega) (by decide) (by decide) (fun h22 => ?_) (fun h22 => ?_)
    · refine hQ M hk (h3.trans ?_)
      rw [← hg, q_go_stop (fun g => ?_)]
      have := g.2
      unfold q_sp at this
      rw [decide_eq_true_eq] at this
      exact h22 ((q_sb_eq hti (by decide)).mpr this)
    · refine p_aload_n 26 dX6_advance_25 rfl rfl (by decide) ?_
      refine p_dupR 27 dX6_advance_26 ?_
      refine p_getI 48 30 dX6_advance_27 fX6_28 rfl ?_
      rw [h3]
      refine p_iconst 31 dX6_advance_30 ?_
      refine p_iadd 32 dX6_advance_31 ?_
      refine p_putI 48 35 dX6_advance_32 wX6_28 rfl ?_
      refine p_goto 0 dX6_advance_35 ?_
      have hs : q_sp (t i) = true := by
        unfold q_sp
        rw [decide_eq_true_eq]
        exact (q_sb_eq hti (by decide)).mp (Decidable.not_not.mp h22)
      exact ih (i + 1) (by omega) _ (hk.set (by omega)) (zset_at _ _ _ _) (by omega) (by rw [q_go_step (by omega) hs]; exact hg)
theorem l_advWord {l : Launch} {X : ZX} {M : ZM} {t : Nat → Int} {n c : Nat} (hn : n ≤ 900) (ht : ∀ i, i < n → 0 ≤ t i ∧ t i < 256) {N : ZM} (hB : RB t n c N) {a : Nat} (ha : N 48 4 = (a : Int)) (hal : a ≤ n) {Q : Option ZV → ZM → Prop} (hQ : ∀ M' : ZM, RK N M' → M' 48 4 = (a : Int) → M' 48 3 = (q_go q_sm t n a : Int) → (q_go q_sm t n a - a ≤ 8 → M' 48 6 = q_pk (fun j => t (a + j)) (q_go q_sm t n a - a)) → zP l X 1 tX6_advanceWord 70 [some (zr 48)] [] M' Q) : ∀ (j i : Nat), i + j = n → ∀ (M : ZM), RK N M → M 48 4 = (a : Int) → M 48 3 = (i : Int) → a ≤ i → q_go q_sm t n i = q_go q_sm t n a → (i - a ≤ 8 → M 48 6 = q_pk (fun j => t (a + j)) (i - a)) → (∀ j, j < i - a → 97 ≤ t (a + j) ∧ t (a + j) ≤ 122) → zP l X 1 tX6_advanceWord 5 [some (zr 48)] [] M (Q) := by
  intro j
  induction j with
  | zero =>
    intro i hi M hk h4 h3 hai hg h6 hall
    have hB9 := hB.of hk
    refine p_aload_n 6 dX6_advanceWord_5 rfl rfl (by decide) ?_
    refine p_getI 48 9 dX6_advanceWord_6 fX6_28 rfl ?_
    rw [h3]
    refine p_aload_n 10 dX6_advanceWord_9 rfl rfl (by decide) ?_
    refine p_getI 48 13 dX6_advanceWord_10 fX6_15 rfl ?_
    rw [hB9.2.2.1]
    refine p_icmp_ge 70 16 dX6_advanceWord_13 (by omega) (by omega) (by omega) (by omega) (fun h13 => ?_) (fun h13 => absurd (by omega) (fun h9 : False => h9))
    have he : q_go q_sm t n a = i := by rw [← hg, q_go_stop (fun g => by omega)]
    exact hQ M hk h4 (by rw [he]; exact h3) (by rw [he]; exact h6)
  | succ j ih =>
    intro i hi M hk h4 h3 hai hg h6 hall
    have hB9 := hB.of hk
    have hti := ht i (by omega)
    have hsb := q_sb_bd hti
    refine p_aload_n 6 dX6_advanceWord_5 rfl rfl (by decide) ?_
    refine p_getI 48 9 dX6_advanceWord_6 fX6_28 rfl ?_
    rw [h3]
    refine p_aload_n 10 dX6_advanceWord_9 rfl rfl (by decide) ?_
    refine p_getI 48 13 dX6_advanceWord_10 fX6_15 rfl ?_
    rw [hB9.2.2.1]
    refine p_icmp_ge 70 16 dX6_advanceWord_13 (by omega) (by omega) (by omega) (by omega) (fun h13 => absurd (by omega) (fun h9 : False => h9)) (fun h13 => ?_)
    refine p_aload_n 17 dX6_advanceWord_16 rfl rfl (by decide) ?_
    refine p_getR 48 20 dX6_advanceWord_17 fX6_9 rfl hB9.2.1 ?_
    refine p_aload_n 21 dX6_advanceWord_20 rfl rfl (by decide) ?_
    refine p_getI 48 24 dX6_advanceWord_21 fX6_28 rfl ?_
    rw [h3]
    refine p_baldn 1 25 (i) dX6_advanceWord_24 rfl (by omega) (by omega) ?_
    rw [hB9.2.2.2.2 i (by omega)]
    refine p_callS1i 28 dX6_advanceWord_25 (s_isLetter hti) lk_X6_63 mX6_isLetter (by decide) (Nat.le_of_ble_eq_true rfl) ?_
    rintro _ _ ⟨rfl, e9⟩
    have e9 := e9.symm
    subst e9
    refine p_if_eq 70 31 dX6_advanceWord_28 (by split <;> omega) (by split <;> omega) (fun h28 => ?_) (fun h28 => ?_)
    · have he : q_go q_sm t n a = i := by rw [← hg, q_go_stop (fun g => if_eq0 h28 g.2)]
      exact hQ M hk h4 (by rw [he]; exact h3) (by rw [he]; exact h6)
    · refine p_aload_n 32 dX6_advanceWord_31 rfl rfl (by decide) ?_
      refine p_aload_n 33 dX6_advanceWord_32 rfl rfl (by decide) ?_
      refine p_getJ 48 36 dX6_advanceWord_33 fX6_76 rfl ?_
      refine p_iconst 37 dX6_advanceWord_36 ?_
      refine p_lshl 38 dX6_advanceWord_37 ?_
      refine p_aload_n 39 dX6_advanceWord_38 rfl rfl (by decide) ?_
      refine p_getR 48 42 dX6_advanceWord_39 fX6_9 rfl hB9.2.1 ?_
      refine p_aload_n 43 dX6_advanceWord_42 rfl rfl (by decide) ?_
      refine p_getI 48 46 dX6_advanceWord_43 fX6_28 rfl ?_
      rw [h3]
      refine p_baldn 1 47 (i) dX6_advanceWord_46 rfl (by omega) (by omega) ?_
      rw [hB9.2.2.2.2 i (by omega)]
      refine p_bipush 49 dX6_advanceWord_47 rfl ?_
      refine p_isub 50 dX6_advanceWord_49 ?_
      refine p_iconst 51 dX6_advanceWord_50 ?_
      refine p_iadd 52 dX6_advanceWord_51 ?_
      refine p_i2l 53 dX6_advanceWord_52 ?_
      refine p_lor 54 dX6_advanceWord_53 ?_
      refine p_putJ 48 57 dX6_advanceWord_54 wX6_76 rfl ?_
      refine p_aload_n 58 dX6_advanceWord_57 rfl rfl (by decide) ?_
      refine p_dupR 59 dX6_advanceWord_58 ?_
      refine p_getI 48 62 dX6_advanceWord_59 fX6_28 rfl ?_
      rw [zset_k (by decide), h3]
      refine p_iconst 63 dX6_advanceWord_62 ?_
      refine p_iadd 64 dX6_advanceWord_63 ?_
      refine p_putI 48 67 dX6_advanceWord_64 wX6_28 rfl ?_
      refine p_goto 5 dX6_advanceWord_67 ?_
      have hs : q_sm (t i) = true := if_neq0 h28
      have hlt : 97 ≤ t i ∧ t i ≤ 122 := by
        have := hs
        unfold q_sm at this
        rw [Bool.and_eq_true, decide_eq_true_eq, decide_eq_true_eq] at this
        exact this
      refine ih (i + 1) (by omega) _ ((hk.set (by omega)).set (by omega)) (by rw [zset_k (by decide), zset_k (by decide)]; exact h4) (zset_at _ _ _ _) (by omega) (by rw [q_go_step (by omega) hs]; exact hg) (fun h8 => ?_) (fun j hj => ?_)
      · rw [zset_k (by decide), zset_at, h6 (by omega), q_sb_small (by omega), show i + 1 - a = (i - a) + 1 by omega]
        have hb := q_pk_bd (g := fun j => t (a + j)) (i - a) hall
        have hp : 32 ^ (i - a) ≤ 32 ^ 7 := Nat.pow_le_pow_right (by decide) (by omega)
        have e7 : (32 : Nat) ^ 7 = 34359738368 := by decide
        rw [z_pkstep hb.1 (by omega) (by omega) (by omega)]
        show _ = 32 * q_pk (fun j => t (a + j)) (i - a) + (t (a + (i - a)) - 96)
        rw [show a + (i - a) = i by omega]
        omega
      · by_cases e : j = i - a
        · subst e
          rw [show a + (i - a) = i by omega]
          exact hlt
        · exact hall j (by omega)
theorem l_advWhole {l : Launch} {X : ZX} {M : ZM} {t : Nat → Int} {n c : Nat} (hn : n ≤ 900) (ht : ∀ i, i < n → 0 ≤ t i ∧ t i < 256) {N : ZM} (hB : RB t n c N) {a : Nat} (ha : N 48 4 = (a : Int)) (hal : a ≤ n) {Q : Option ZV → ZM → Prop} (hQ : ∀ M' : ZM, RK N M' → M' 48 4 = (a : Int) → M' 48 3 = (q_go q_dgt t n a : Int) → M' 48 7 = q_dec (fun j => t (a + j)) (q_go q_dgt t n a - a) → zP l X 1 tX6_advanceWhole 68 [some (zr 48)] [] M' Q) : ∀ (j i : Nat), i + j = n → ∀ (M : ZM), RK N M → M 48 4 = (a : Int) → M 48 3 = (i : Int) → a ≤ i → q_go q_dgt t n i = q_go q_dgt t n a → M 48 7 = q_dec (fun j => t (a + j)) (i - a) → zP l X 1 tX6_advanceWhole 5 [some (zr 48)] [] M (Q) := by
  intro j
  induction j with
  | zero =>
    intro i hi M hk h4 h3 hai hg h7
    have hB9 := hB.of hk
    refine p_aload_n 6 dX6_advanceWhole_5 rfl rfl (by decide) ?_
    refine p_getI 48 9 dX6_advanceWhole_6 fX6_28 rfl ?_
    rw [h3]
    refine p_aload_n 10 dX6_advanceWhole_9 rfl rfl (by decide) ?_
    refine p_getI 48 13 dX6_advanceWhole_10 fX6_15 rfl ?_
    rw [hB9.2.2.1]
    refine p_icmp_ge 68 16 dX6_advanceWhole_13 (by omega) (by omega) (by omega) (by omega) (fun h13 => ?_) (fun h13 => absurd (by omega) (fun h9 : False => h9))
    have he : q_go q_dgt t n a = i := by rw [← hg, q_go_stop (fun g => by omega)]
    exact hQ M hk h4 (by rw [he]; exact h3) (by rw [he]; exact h7)
  | succ j ih =>
    intro i hi M hk h4 h3 hai hg h7
    have hB9 := hB.of hk
    have hti := ht i (by omega)
    have hsb := q_sb_bd hti
    refine p_aload_n 6 dX6_advanceWhole_5 rfl rfl (by decide) ?_
    refine p_getI 48 9 dX6_advanceWhole_6 fX6_28 rfl ?_
    rw [h3]
    refine p_aload_n 10 dX6_advanceWhole_9 rfl rfl (by decide) ?_
    refine p_getI 48 13 dX6_advanceWhole_10 fX6_15 rfl ?_
    rw [hB9.2.2.1]
    refine p_icmp_ge 68 16 dX6_advanceWhole_13 (by omega) (by omega) (by omega) (by omega) (fun h13 => absurd (by omega) (fun h9 : False => h9)) (fun h13 => ?_)
    refine p_aload_n 17 dX6_advanceWhole_16 rfl rfl (by decide) ?_
    refine p_getR 48 20 dX6_advanceWhole_17 fX6_9 rfl hB9.2.1 ?_
    refine p_aload_n 21 dX6_advanceWhole_20 rfl rfl (by decide) ?_
    refine p_getI 48 24 dX6_advanceWhole_21 fX6_28 rfl ?_
    rw [h3]
    refine p_baldn 1 25 (i) dX6_advanceWhole_24 rfl (by omega) (by omega) ?_
    rw [hB9.2.2.2.2 i (by omega)]
    refine p_callS1i 28 dX6_advanceWhole_25 (s_isDigit hti) lk_X6_70 mX6_isDigit (by decide) (Nat.le_of_ble_eq_true rfl) ?_
    rintro _ _ ⟨rfl, e9⟩
    have e9 := e9.symm
    subst e9
    refine p_if_eq 68 31 dX6_advanceWhole_28 (by split <;> omega) (by split <;> omega) (fun h28 => ?_) (fun h28 => ?_)
    · have he : q_go q_dgt t n a = i := by rw [← hg, q_go_stop (fun g => if_eq0 h28 g.2)]
      exact hQ M hk h4 (by rw [he]; exact h3) (by rw [he]; exact h7)
    · refine p_aload_n 32 dX6_advanceWhole_31 rfl rfl (by decide) ?_
      refine p_bipush 34 dX6_advanceWhole_32 rfl ?_
      refine p_aload_n 35 dX6_advanceWhole_34 rfl rfl (by decide) ?_
      refine p_getI 48 38 dX6_advanceWhole_35 fX6_80 rfl ?_
      rw [h7]
      refine p_imul 39 dX6_advanceWhole_38 ?_
      refine p_aload_n 40 dX6_advanceWhole_39 rfl rfl (by decide) ?_
      refine p_getR 48 43 dX6_advanceWhole_40 fX6_9 rfl hB9.2.1 ?_
      refine p_aload_n 44 dX6_advanceWhole_43 rfl rfl (by decide) ?_
      refine p_getI 48 47 dX6_advanceWhole_44 fX6_28 rfl ?_
      rw [h3]
      refine p_baldn 1 48 (i) dX6_advanceWhole_47 rfl (by omega) (by omega) ?_
      rw [hB9.2.2.2.2 i (by omega)]
      refine p_bipush 50 dX6_advanceWhole_48 rfl ?_
      refine p_isub 51 dX6_advanceWhole_50 ?_
      refine p_iadd 52 dX6_advanceWhole_51 ?_
      refine p_putI 48 55 dX6_advanceWhole_52 wX6_80 rfl ?_
      refine p_aload_n 56 dX6_advanceWhole_55 rfl rfl (by decide) ?_
      refine p_dupR 57 dX6_advanceWhole_56 ?_
      refine p_getI 48 60 dX6_advanceWhole_57 fX6_28 rfl ?_
      rw [zset_k (by decide), h3]
      refine p_iconst 61 dX6_advanceWhole_60 ?_
      refine p_iadd 62 dX6_advanceWhole_61 ?_
      refine p_putI 48 65 dX6_advanceWhole_62 wX6_28 rfl ?_
      refine p_goto 5 dX6_advanceWhole_65 ?_
      have hs : q_dgt (t i) = true := if_neq0 h28
      have hlt : 48 ≤ t i ∧ t i ≤ 57 := by
        have := hs
        unfold q_dgt at this
        rw [Bool.and_eq_true, decide_eq_true_eq, decide_eq_true_eq] at this
        exact this
      refine ih (i + 1) (by omega) _ ((hk.set (by omega)).set (by omega)) (by rw [zset_k (by decide), zset_k (by decide)]; exact h4) (zset_at _ _ _ _) (by omega) (by rw [q_go_step (by omega) hs]; exact hg) ?_
      rw [zset_k (by decide), zset_at, q_sb_small (by omega), show i + 1 - a = (i - a) + 1 by omega]
      show _ = 10 * q_dec (fun j => t (a + j)) (i - a) + (t (a + (i - a)) - 48)
      rw [show a + (i - a) = i by omega]
theorem s_advWord {l : Launch} {X : ZX} {M : ZM} {t : Nat → Int} {n c : Nat} (hn : n ≤ 900) (ht : ∀ i, i < n → 0 ≤ t i ∧ t i < 256) (hB : RB t n c M) {a : Nat} (ha : M 48 4 = (a : Int)) (h3 : M 48 3 = (a : Int)) (hal : a ≤ n) : zCv l X 1 yX6_advanceWord tX6_advanceWord [zr 48] M (fun M' => RK M M' ∧ M' 48 4 = (a : Int) ∧ M' 48 3 = (q_go q_sm t n a : Int) ∧ M' 48 5 = (if 8 < q_go q_sm t n a - a then 4 else 1) ∧ (q_go q_sm t n a - a ≤ 8 → M' 48 6 = q_pk (fun j => t (a + j)) (q_go q_sm t n a - a))) := by
  refine zC.of [some (zr 48)] (by decide +kernel) rfl rfl (Nat.le_of_ble_eq_true rfl) rfl ?_
  refine p_aload_n 1 dX6_advanceWord_0 rfl rfl (by decide) ?_
  refine p_lconst (z := 0) 2 dX6_advanceWord_1 rfl ?_
  refine p_putJ 48 5 dX6_advanceWord_2 wX6_76 rfl ?_
  refine l_advWord (l := l) (X := X) (M := M) hn ht hB ha hal (fun M9 kk k4 k3 k6 => ?_) (n - a) a (by omega) (zset M 48 6 0) (RK.rfl.set (by omega)) (by rw [zset_k (by decide)]; exact ha) (by rw [zset_k (by decide)]; exact h3) (Nat.le_refl a) rfl (fun _ => by rw [zset_at, Nat.sub_self]; rfl) (fun j hj => absurd hj (by omega))
  have g1 := q_go_le q_sm t n a
  have g2 := q_go_le2 q_sm t (n := n) (k := a) hal
  refine p_aload_n 71 dX6_advanceWord_70 rfl rfl (by decide) ?_
  refine p_aload_n 72 dX6_advanceWord_71 rfl rfl (by decide) ?_
  refine p_getI 48 75 dX6_advanceWord_72 fX6_28 rfl ?_
  rw [k3]
  refine p_aload_n 76 dX6_advanceWord_75 rfl rfl (by decide) ?_
  refine p_getI 48 79 dX6_advanceWord_76 fX6_60 rfl ?_
  rw [k4]
  refine p_isub 80 dX6_advanceWord_79 ?_
  refine p_bipush 82 dX6_advanceWord_80 rfl ?_
  refine p_icmp_gt 89 85 dX6_advanceWord_82 (by omega) (by omega) (by decide) (by decide) (fun h82 => ?_) (fun h82 => ?_)
  · refine p_iconst 90 dX6_advanceWord_89 ?_
    refine p_putI 48 93 dX6_advanceWord_90 wX6_44 rfl ?_
    refine p_vret dX6_advanceWord_93 rfl ?_
    refine ⟨rfl, kk.set (by omega), by rw [zset_k (by decide)]; exact k4, by rw [zset_k (by decide)]; exact k3, ?_, fun h8 => ?_⟩
    · rw [zset_at]
      first | (rw [if_neg (by omega)]; done) | (rw [if_pos (by omega)]; done)
    · rw [zset_k (by decide)]
      exact k6 h8
  · refine p_iconst 86 dX6_advanceWord_85 ?_
    refine p_goto 90 dX6_advanceWord_86 ?_
    refine p_putI 48 93 dX6_advanceWord_90 wX6_44 rfl ?_
    refine p_vret dX6_advanceWord_93 rfl ?_
    refine ⟨rfl, kk.set (by omega), by rw [zset_k (by decide)]; exact k4, by rw [zset_k (by decide)]; exact k3, ?_, fun h8 => ?_⟩
    · rw [zset_at]
      first | (rw [if_neg (by omega)]; done) | (rw [if_pos (by omega)]; done)
    · rw [zset_k (by decide)]
      exact k6 h8
theorem s_advWhole {l : Launch} {X : ZX} {M : ZM} {t : Nat → Int} {n c : Nat} (hn : n ≤ 900) (ht : ∀ i, i < n → 0 ≤ t i ∧ t i < 256) (hB : RB t n c M) {a : Nat} (ha : M 48 4 = (a : Int)) (h3 : M 48 3 = (a : Int)) (hal : a ≤ n) : zCv l X 1 yX6_advanceWhole tX6_advanceWhole [zr 48] M (fun M' => RK M M' ∧ M' 48 4 = (a : Int) ∧ M' 48 3 = (q_go q_dgt t n a : Int) ∧ M' 48 5 = (if 3 < q_go q_dgt t n a - a then 4 else 2) ∧ M' 48 7 = q_dec (fun j => t (a + j)) (q_go q_dgt t n a - a)) := by
  refine zC.of [some (zr 48)] (by decide +kernel) rfl rfl (Nat.le_of_ble_eq_true rfl) rfl ?_
  refine p_aload_n 1 dX6_advanceWhole_0 rfl rfl (by decide) ?_
  refine p_iconst 2 dX6_advanceWhole_1 ?_
  refine p_putI 48 5 dX6_advanceWhole_2 wX6_80 rfl ?_
  refine l_advWhole (l := l) (X := X) (M := M) hn ht hB ha hal (fun M9 kk k4 k3 k7 => ?_) (n - a) a (by omega) (zset M 48 7 0) (RK.rfl.set (by omega)) (by rw [zset_k (by decide)]; exact ha) (by rw [zset_k (by decide)]; exact h3) (Nat.le_refl a) rfl (by rw [zset_at, Nat.sub_self]; rfl)
  have g1 := q_go_le q_dgt t n a
  have g2 := q_go_le2 q_dgt t (n := n) (k := a) hal
  refine p_aload_n 69 dX6_advanceWhole_68 rfl rfl (by decide) ?_
  refine p_aload_n 70 dX6_advanceWhole_69 rfl rfl (by decide) ?_
  refine p_getI 48 73 dX6_advanceWhole_70 fX6_28 rfl ?_
  rw [k3]
  refine p_aload_n 74 dX6_advanceWhole_73 rfl rfl (by decide) ?_
  refine p_getI 48 77 dX6_advanceWhole_74 fX6_60 rfl ?_
  rw [k4]
  refine p_isub 78 dX6_advanceWhole_77 ?_
  refine p_iconst 79 dX6_advanceWhole_78 ?_
  refine p_icmp_gt 86 82 dX6_advanceWhole_79 (by omega) (by omega) (by decide) (by decide) (fun h79 => ?_) (fun h79 => ?_)
  · refine p_iconst 87 dX6_advanceWhole_86 ?_
    refine p_putI 48 90 dX6_advanceWhole_87 wX6_44 rfl ?_
    refine p_vret dX6_advanceWhole_90 rfl ?_
    refine ⟨rfl, kk.set (by omega), by rw [zset_k (by decide)]; exact k4, by rw [zset_k (by decide)]; exact k3, ?_, ?_⟩
    · rw [zset_at]
      first | (rw [if_neg (by omega)]; done) | (rw [if_pos (by omega)]; done)
    · rw [zset_k (by decide)]
      exact k7
  · refine p_iconst 83 dX6_advanceWhole_82 ?_
    refine p_goto 87 dX6_advanceWhole_83 ?_
    refine p_putI 48 90 dX6_advanceWhole_87 wX6_44 rfl ?_
    refine p_vret dX6_advanceWhole_90 rfl ?_
    refine ⟨rfl, kk.set (by omega), by rw [zset_k (by decide)]; exact k4, by rw [zset_k (by decide)]; exact k3, ?_, ?_⟩
    · rw [zset_at]
      first | (rw [if_neg (by omega)]; done) | (rw [if_pos (by omega)]; done)
    · rw [zset_k (by decide)]
      exact k7
theorem s_advance {l : Launch} {X : ZX} {M : ZM} {t : Nat → Int} {n c : Nat} (hn : n ≤ 900) (ht : ∀ i, i < n → 0 ≤ t i ∧ t i < 256) (hB : RB t n c M) {p : Nat} (hp : p ≤ n) (h3 : M 48 3 = (p : Int)) : zCv l X 2 yX6_advance tX6_advance [zr 48] M (fun M' => RK M M' ∧ TC t n p M') := by
  refine zC.of [some (zr 48)] (by decide +kernel) rfl rfl (Nat.le_of_ble_eq_true rfl) rfl ?_
  refine l_adv (l := l) (X := X) (M := M) hn ht hB (p := p) (fun M9 kk k3 => ?_) (n - p) p (by omega) M RK.rfl h3 (Nat.le_refl p) rfl
  have hal := q_at_le t hp
  refine p_aload_n 39 dX6_advance_38 rfl rfl (by decide) ?_
  refine p_aload_n 40 dX6_advance_39 rfl rfl (by decide) ?_
  refine p_getI 48 43 dX6_advance_40 fX6_28 rfl ?_
  rw [k3]
  have hB8 : RB t n c (zset M9 48 4 (q_at t n p : Int)) := hB.of (kk.set (by omega))
  have h83 : zset M9 48 4 (q_at t n p : Int) 48 3 = (q_at t n p : Int) := by rw [zset_k (by decide)]; exact k3
  have h84 : zset M9 48 4 (q_at t n p : Int) 48 4 = (q_at t n p : Int) := zset_at _ _ _ _
  refine p_putI 48 46 dX6_advance_43 wX6_60 rfl ?_
  refine p_aload_n 47 dX6_advance_46 rfl rfl (by decide) ?_
  refine p_getI 48 50 dX6_advance_47 fX6_28 rfl ?_
  rw [h83]
  refine p_aload_n 51 dX6_advance_50 rfl rfl (by decide) ?_
  refine p_getI 48 54 dX6_advance_51 fX6_15 rfl ?_
  rw [hB8.2.2.1]
  refine p_icmp_lt 65 57 dX6_advance_54 (by omega) (by omega) (by omega) (by omega) (fun h54 => ?_) (fun h54 => ?_)
  · have hlt : q_at t n p < n := by omega
    have hta := ht _ hlt
    have g0 : ¬ n ≤ q_at t n p := by omega
    refine p_aload_n 66 dX6_advance_65 rfl rfl (by decide) ?_
    refine p_getR 48 69 dX6_advance_66 fX6_9 rfl hB8.2.1 ?_
    refine p_aload_n 70 dX6_advance_69 rfl rfl (by decide) ?_
    refine p_getI 48 73 dX6_advance_70 fX6_28 rfl ?_
    rw [h83]
    refine p_baldn 1 74 (q_at t n p) dX6_advance_73 rfl (by omega) (by omega) ?_
    rw [hB8.2.2.2.2 _ (by omega)]
    refine p_callS1i 77 dX6_advance_74 (s_isLetter hta) lk_X6_63 mX6_isLetter (by decide) (Nat.le_of_ble_eq_true rfl) ?_
    rintro _ _ ⟨rfl, e9⟩
    have e9 := e9.symm
    subst e9
    refine p_if_eq 87 80 dX6_advance_77 (by split <;> omega) (by split <;> omega) (fun h77 => ?_) (fun h77 => ?_)
    · have g1 := if_eq0 h77
      refine p_aload_n 88 dX6_advance_87 rfl rfl (by decide) ?_
      refine p_getR 48 91 dX6_advance_88 fX6_9 rfl hB8.2.1 ?_
      refine p_aload_n 92 dX6_advance_91 rfl rfl (by decide) ?_
      refine p_getI 48 95 dX6_advance_92 fX6_28 rfl ?_
      rw [h83]
      refine p_baldn 1 96 (q_at t n p) dX6_advance_95 rfl (by omega) (by omega) ?_
      rw [hB8.2.2.2.2 _ (by omega)]
      refine p_callS1i 99 dX6_advance_96 (s_isDigit hta) lk_X6_70 mX6_isDigit (by decide) (Nat.le_of_ble_eq_true rfl) ?_
      rintro _ _ ⟨rfl, e9⟩
      have e9 := e9.symm
      subst e9
      refine p_if_eq 109 102 dX6_advance_99 (by split <;> omega) (by split <;> omega) (fun h99 => ?_) (fun h99 => ?_)
      · have g2 := if_eq0 h99
        have een : q_en t n p = q_at t n p + 1 := by unfold q_en; rw [if_neg g0, if_neg g1, if_neg g2]
        refine p_aload_n 110 dX6_advance_109 rfl rfl (by decide) ?_
        refine p_aload_n 111 dX6_advance_110 rfl rfl (by decide) ?_
        refine p_getR 48 114 dX6_advance_111 fX6_9 rfl hB8.2.1 ?_
        refine p_aload_n 115 dX6_advance_114 rfl rfl (by decide) ?_
        refine p_getI 48 118 dX6_advance_115 fX6_28 rfl ?_
        rw [h83]
        refine p_baldn 1 119 (q_at t n p) dX6_advance_118 rfl (by omega) (by omega) ?_
        rw [hB8.2.2.2.2 _ (by omega)]
        refine p_bipush 121 dX6_advance_119 rfl ?_
        refine p_icmp_ne 128 124 dX6_advance_121 (by have := q_sb_bd hta; omega) (by have := q_sb_bd hta; omega) (by decide) (by decide) (fun h121 => ?_) (fun h121 => ?_)
        · have g3 : ¬ t (q_at t n p) = 59 := fun g => h121 ((q_sb_eq hta (by decide)).mpr g)
          have etk : q_tk t n p = 1 := by unfold q_tk; rw [if_neg g0, if_neg g1, if_neg g2, if_neg g3]
          refine p_iconst 129 dX6_advance_128 ?_
          refine p_putI 48 132 dX6_advance_129 wX6_44 rfl ?_
          refine p_aload_n 133 dX6_advance_132 rfl rfl (by decide) ?_
          refine p_dupR 134 dX6_advance_133 ?_
          refine p_getI 48 137 dX6_advance_134 fX6_28 rfl ?_
          rw [zset_k (by decide), h83]
          refine p_iconst 138 dX6_advance_137 ?_
          refine p_iadd 139 dX6_advance_138 ?_
          refine p_putI 48 142 dX6_advance_139 wX6_28 rfl ?_
          refine p_vret dX6_advance_142 rfl ?_
          first
            | (have g0 : n ≤ q_at t n p := by omega
               have een : q_en t n p = q_at t n p := by unfold q_en; rw [if_pos g0]
               have etk : q_tk t n p = 0 := by unfold q_tk; rw [if_pos g0]
               refine ⟨rfl, (kk.set (by omega)).set (by omega), ?_⟩
               unfold TC
               rw [een, etk]
               exact ⟨by rw [zset_k (by decide)]; exact h83, by rw [zset_k (by decide)]; exact h84, zset_at _ _ _ _, fun g => absurd g (by decide), fun g => absurd g (by decide)⟩)
            | (refine ⟨rfl, ((kk.set (by omega)).set (by omega)).set (by omega), ?_⟩
               unfold TC
               rw [een, etk]
               exact ⟨zset_at _ _ _ _, by rw [zset_k (by decide), zset_k (by decide)]; exact h84, by rw [zset_k (by decide), zset_at]; rfl, fun g => absurd g (by decide), fun g => absurd g (by decide)⟩)
            | (have etk : q_tk t n p = if 8 < q_en t n p - q_at t n p then 1 else 2 := by unfold q_tk; rw [if_neg g0, if_pos g1]
               refine ⟨rfl, (kk.set (by omega)).trans f1, by rw [een]; exact f3, f2, ?_, fun g => ?_, fun g => ?_⟩
               · rw [f4, etk, een]
                 split <;> rfl
               · rw [f5 (by rw [etk, een] at g; split at g <;> omega)]
                 unfold q_wd q_ln
                 rw [een]
               · rw [etk] at g; split at g <;> omega)
            | (have etk : q_tk t n p = if 3 < q_en t n p - q_at t n p then 1 else 3 := by unfold q_tk; rw [if_neg g0, if_neg g1, if_pos g2]
               refine ⟨rfl, (kk.set (by omega)).trans f1, by rw [een]; exact f3, f2, ?_, fun g => ?_, fun g => ?_⟩
               · rw [f4, etk, een]
                 split <;> rfl
               · rw [etk] at g; split at g <;> omega
               · rw [f5]
                 unfold q_nb q_ln
                 rw [een])
        · have g3 : t (q_at t n p) = 59 := (q_sb_eq hta (by decide)).mp (Decidable.not_not.mp h121)
          have etk : q_tk t n p = 59 := by unfold q_tk; rw [if_neg g0, if_neg g1, if_neg g2, if_pos g3]
          refine p_iconst 125 dX6_advance_124 ?_
          refine p_goto 129 dX6_advance_125 ?_
          refine p_putI 48 132 dX6_advance_129 wX6_44 rfl ?_
          refine p_aload_n 133 dX6_advance_132 rfl rfl (by decide) ?_
          refine p_dupR 134 dX6_advance_133 ?_
          refine p_getI 48 137 dX6_advance_134 fX6_28 rfl ?_
          rw [zset_k (by decide), h83]
          refine p_iconst 138 dX6_advance_137 ?_
          refine p_iadd 139 dX6_advance_138 ?_
          refine p_putI 48 142 dX6_advance_139 wX6_28 rfl ?_
          refine p_vret dX6_advance_142 rfl ?_
          first
            | (have g0 : n ≤ q_at t n p := by omega
               have een : q_en t n p = q_at t n p := by unfold q_en; rw [if_pos g0]
               have etk : q_tk t n p = 0 := by unfold q_tk; rw [if_pos g0]
               refine ⟨rfl, (kk.set (by omega)).set (by omega), ?_⟩
               unfold TC
               rw [een, etk]
               exact ⟨by rw [zset_k (by decide)]; exact h83, by rw [zset_k (by decide)]; exact h84, zset_at _ _ _ _, fun g => absurd g (by decide), fun g => absurd g (by decide)⟩)
            | (refine ⟨rfl, ((kk.set (by omega)).set (by omega)).set (by omega), ?_⟩
               unfold TC
               rw [een, etk]
               exact ⟨zset_at _ _ _ _, by rw [zset_k (by decide), zset_k (by decide)]; exact h84, by rw [zset_k (by decide), zset_at]; rfl, fun g => absurd g (by decide), fun g => absurd g (by decide)⟩)
            | (have etk : q_tk t n p = if 8 < q_en t n p - q_at t n p then 1 else 2 := by unfold q_tk; rw [if_neg g0, if_pos g1]
               refine ⟨rfl, (kk.set (by omega)).trans f1, by rw [een]; exact f3, f2, ?_, fun g => ?_, fun g => ?_⟩
               · rw [f4, etk, een]
                 split <;> rfl
               · rw [f5 (by rw [etk, een] at g; split at g <;> omega)]
                 unfold q_wd q_ln
                 rw [een]
               · rw [etk] at g; split at g <;> omega)
            | (have etk : q_tk t n p = if 3 < q_en t n p - q_at t n p then 1 else 3 := by unfold q_tk; rw [if_neg g0, if_neg g1, if_pos g2]
               refine ⟨rfl, (kk.set (by omega)).trans f1, by rw [een]; exact f3, f2, ?_, fun g => ?_, fun g => ?_⟩
               · rw [f4, etk, een]
                 split <;> rfl
               · rw [etk] at g; split at g <;> omega
               · rw [f5]
                 unfold q_nb q_ln
                 rw [een])
      · have g2 : q_dgt (t (q_at t n p)) = true := if_neq0 h99
        have een : q_en t n p = q_go q_dgt t n (q_at t n p) := by unfold q_en; rw [if_neg g0, if_neg g1, if_pos g2]
        refine p_aload_n 103 dX6_advance_102 rfl rfl (by decide) ?_
        refine p_callV0v 48 106 dX6_advance_103 (s_advWhole hn ht hB8 (a := q_at t n p) h84 h83 (by omega)) lk_X6_73 mX6_advanceWhole rfl rfl (by decide) (Nat.le_of_ble_eq_true rfl) ?_
        intro M7 h7
        obtain ⟨f1, f2, f3, f4, f5⟩ := h7
        refine p_goto 142 dX6_advance_106 ?_
        refine p_vret dX6_advance_142 rfl ?_
        first
          | (have g0 : n ≤ q_at t n p := by omega
             have een : q_en t n p = q_at t n p := by unfold q_en; rw [if_pos g0]
             have etk : q_tk t n p = 0 := by unfold q_tk; rw [if_pos g0]
             refine ⟨rfl, (kk.set (by omega)).set (by omega), ?_⟩
             unfold TC
             rw [een, etk]
             exact ⟨by rw [zset_k (by decide)]; exact h83, by rw [zset_k (by decide)]; exact h84, zset_at _ _ _ _, fun g => absurd g (by decide), fun g => absurd g (by decide)⟩)
          | (refine ⟨rfl, ((kk.set (by omega)).set (by omega)).set (by omega), ?_⟩
             unfold TC
             rw [een, etk]
             exact ⟨zset_at _ _ _ _, by rw [zset_k (by decide), zset_k (by decide)]; exact h84, by rw [zset_k (by decide), zset_at]; rfl, fun g => absurd g (by decide), fun g => absurd g (by decide)⟩)
          | (have etk : q_tk t n p = if 8 < q_en t n p - q_at t n p then 1 else 2 := by unfold q_tk; rw [if_neg g0, if_pos g1]
             refine ⟨rfl, (kk.set (by omega)).trans f1, by rw [een]; exact f3, f2, ?_, fun g => ?_, fun g => ?_⟩
             · rw [f4, etk, een]
               split <;> rfl
             · rw [f5 (by rw [etk, een] at g; split at g <;> omega)]
               unfold q_wd q_ln
               rw [een]
             · rw [etk] at g; split at g <;> omega)
          | (have etk : q_tk t n p = if 3 < q_en t n p - q_at t n p then 1 else 3 := by unfold q_tk; rw [if_neg g0, if_neg g1, if_pos g2]
             refine ⟨rfl, (kk.set (by omega)).trans f1, by rw [een]; exact f3, f2, ?_, fun g => ?_, fun g => ?_⟩
             · rw [f4, etk, een]
               split <;> rfl
             · rw [etk] at g; split at g <;> omega
             · rw [f5]
               unfold q_nb q_ln
               rw [een])
    · have g1 : q_sm (t (q_at t n p)) = true := if_neq0 h77
      have een : q_en t n p = q_go q_sm t n (q_at t n p) := by unfold q_en; rw [if_neg g0, if_pos g1]
      refine p_aload_n 81 dX6_advance_80 rfl rfl (by decide) ?_
      refine p_callV0v 48 84 dX6_advance_81 (s_advWord hn ht hB8 (a := q_at t n p) h84 h83 (by omega)) lk_X6_67 mX6_advanceWord rfl rfl (by decide) (Nat.le_of_ble_eq_true rfl) ?_
      intro M7 h7
      obtain ⟨f1, f2, f3, f4, f5⟩ := h7
      refine p_goto 142 dX6_advance_84 ?_
      refine p_vret dX6_advance_142 rfl ?_
      first
        | (have g0 : n ≤ q_at t n p := by omega
           have een : q_en t n p = q_at t n p := by unfold q_en; rw [if_pos g0]
           have etk : q_tk t n p = 0 := by unfold q_tk; rw [if_pos g0]
           refine ⟨rfl, (kk.set (by omega)).set (by omega), ?_⟩
           unfold TC
           rw [een, etk]
           exact ⟨by rw [zset_k (by decide)]; exact h83, by rw [zset_k (by decide)]; exact h84, zset_at _ _ _ _, fun g => absurd g (by decide), fun g => absurd g (by decide)⟩)
        | (refine ⟨rfl, ((kk.set (by omega)).set (by omega)).set (by omega), ?_⟩
           unfold TC
           rw [een, etk]
           exact ⟨zset_at _ _ _ _, by rw [zset_k (by decide), zset_k (by decide)]; exact h84, by rw [zset_k (by decide), zset_at]; rfl, fun g => absurd g (by decide), fun g => absurd g (by decide)⟩)
        | (have etk : q_tk t n p = if 8 < q_en t n p - q_at t n p then 1 else 2 := by unfold q_tk; rw [if_neg g0, if_pos g1]
           refine ⟨rfl, (kk.set (by omega)).trans f1, by rw [een]; exact f3, f2, ?_, fun g => ?_, fun g => ?_⟩
           · rw [f4, etk, een]
             split <;> rfl
           · rw [f5 (by rw [etk, een] at g; split at g <;> omega)]
             unfold q_wd q_ln
             rw [een]
           · rw [etk] at g; split at g <;> omega)
        | (have etk : q_tk t n p = if 3 < q_en t n p - q_at t n p then 1 else 3 := by unfold q_tk; rw [if_neg g0, if_neg g1, if_pos g2]
           refine ⟨rfl, (kk.set (by omega)).trans f1, by rw [een]; exact f3, f2, ?_, fun g => ?_, fun g => ?_⟩
           · rw [f4, etk, een]
             split <;> rfl
           · rw [etk] at g; split at g <;> omega
           · rw [f5]
             unfold q_nb q_ln
             rw [een])
  · refine p_aload_n 58 dX6_advance_57 rfl rfl (by decide) ?_
    refine p_iconst 59 dX6_advance_58 ?_
    refine p_putI 48 62 dX6_advance_59 wX6_44 rfl ?_
    refine p_goto 142 dX6_advance_62 ?_
    refine p_vret dX6_advance_142 rfl ?_
    first
      | (have g0 : n ≤ q_at t n p := by omega
         have een : q_en t n p = q_at t n p := by unfold q_en; rw [if_pos g0]
         have etk : q_tk t n p = 0 := by unfold q_tk; rw [if_pos g0]
         refine ⟨rfl, (kk.set (by omega)).set (by omega), ?_⟩
         unfold TC
         rw [een, etk]
         exact ⟨by rw [zset_k (by decide)]; exact h83, by rw [zset_k (by decide)]; exact h84, zset_at _ _ _ _, fun g => absurd g (by decide), fun g => absurd g (by decide)⟩)
      | (refine ⟨rfl, ((kk.set (by omega)).set (by omega)).set (by omega), ?_⟩
         unfold TC
         rw [een, etk]
         exact ⟨zset_at _ _ _ _, by rw [zset_k (by decide), zset_k (by decide)]; exact h84, by rw [zset_k (by decide), zset_at]; rfl, fun g => absurd g (by decide), fun g => absurd g (by decide)⟩)
      | (have etk : q_tk t n p = if 8 < q_en t n p - q_at t n p then 1 else 2 := by unfold q_tk; rw [if_neg g0, if_pos g1]
         refine ⟨rfl, (kk.set (by omega)).trans f1, by rw [een]; exact f3, f2, ?_, fun g => ?_, fun g => ?_⟩
         · rw [f4, etk, een]
           split <;> rfl
         · rw [f5 (by rw [etk, een] at g; split at g <;> omega)]
           unfold q_wd q_ln
           rw [een]
         · rw [etk] at g; split at g <;> omega)
      | (have etk : q_tk t n p = if 3 < q_en t n p - q_at t n p then 1 else 3 := by unfold q_tk; rw [if_neg g0, if_neg g1, if_pos g2]
         refine ⟨rfl, (kk.set (by omega)).trans f1, by rw [een]; exact f3, f2, ?_, fun g => ?_, fun g => ?_⟩
         · rw [f4, etk, een]
           split <;> rfl
         · rw [etk] at g; split at g <;> omega
         · rw [f5]
           unfold q_nb q_ln
           rw [een])
