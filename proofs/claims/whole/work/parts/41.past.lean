/-- a Now made like another, its rows up to k -/
def zcp (M : ZM) (e f k : Nat) : ZM := fun a b => if a = e ∧ b < 4 then M f b else if a = e + 1 ∧ b < k then M (f + 1) b else if a = e + 2 ∧ b < k then M (f + 2) b else M a b
theorem zcp_other {M : ZM} {e f k a : Nat} (h0 : a ≠ e) (h1 : a ≠ e + 1) (h2 : a ≠ e + 2) : zcp M e f k a = M a := by
  funext b
  unfold zcp
  rw [if_neg (fun g => h0 g.1), if_neg (fun g => h1 g.1), if_neg (fun g => h2 g.1)]
theorem zcp_e {M : ZM} {e f k b : Nat} (h : 4 ≤ b) : zcp M e f k e b = M e b := by
  unfold zcp
  rw [if_neg (by omega), if_neg (by omega), if_neg (by omega)]
theorem zcp_start {M : ZM} {e f : Nat} (hf : f ≠ e) : zset (zset (zset (zset M e 0 (M f 0)) e 1 (M f 1)) e 2 (M f 2)) e 3 (M f 3) = zcp M e f 0 := by
  funext a b
  unfold zset zcp
  by_cases ha : a = e
  · subst ha
    simp only [if_true, true_and]
    by_cases h3 : b = 3
    · subst h3; simp
    · by_cases h2 : b = 2
      · subst h2; simp
      · by_cases h1 : b = 1
        · subst h1; simp
        · by_cases h0 : b = 0
          · subst h0; simp
          · rw [if_neg h3, if_neg h2, if_neg h1, if_neg h0, if_neg (by omega), if_neg (by omega), if_neg (by omega)]
  · simp only [ha, if_false, false_and]
    rw [if_neg (by omega), if_neg (by omega)]
theorem zcp_step {M : ZM} {e f k : Nat} (h1 : f + 1 ≠ e) (h2 : f + 1 ≠ e + 1) (h3 : f + 1 ≠ e + 2) (h4 : f + 2 ≠ e) (h5 : f + 2 ≠ e + 1) : zset (zset (zcp M e f k) (e + 1) k (zcp M e f k (f + 1) k)) (e + 2) k (zset (zcp M e f k) (e + 1) k (zcp M e f k (f + 1) k) (f + 2) k) = zcp M e f (k + 1) := by
  have e1 : zcp M e f k (f + 1) = M (f + 1) := zcp_other h1 h2 h3
  have e2 : zset (zcp M e f k) (e + 1) k (zcp M e f k (f + 1) k) (f + 2) k = M (f + 2) k := by
    rw [zset_ne _ h5, zcp_other h4 h5 (by omega)]
  rw [e2, e1]
  funext a b
  unfold zset zcp
  (repeat' split) <;> first | rfl | (exfalso; omega) | (have hbk : b = k := by omega
                                                        subst hbk
                                                        rfl)
/-- a Now's cells -/
def isNow (e : Nat) : Prop := e = 49 ∨ ∃ i, i < 19 ∧ e = 55 + 3 * i
theorem isNow.tt {e : Nat} (h : isNow e) : zTT[e]? = some (.inl 3) ∧ zTT[e + 1]? = some (.inr (0, 7)) ∧ zTT[e + 2]? = some (.inr (0, 7)) := by
  rcases h with rfl | ⟨i, hi, rfl⟩
  · exact ⟨rfl, rfl, rfl⟩
  · have hd : ∀ i, i < 19 → zTT[55 + 3 * i]? = some (.inl 3) ∧ zTT[55 + 3 * i + 1]? = some (.inr (0, 7)) ∧ zTT[55 + 3 * i + 2]? = some (.inr (0, 7)) := by decide +kernel
    exact hd i hi
theorem isNow.wire {e : Nat} (h : isNow e) {M : ZM} (hW : zWc M) : M e 4 = ((e + 1 : Nat) : Int) ∧ M e 5 = ((e + 2 : Nat) : Int) := by
  rcases h with rfl | ⟨i, hi, rfl⟩
  · exact ⟨hW (49, 4, 50) (by decide +kernel), hW (49, 5, 51) (by decide +kernel)⟩
  · have hd : ∀ i, i < 19 → (55 + 3 * i, 4, ((55 + 3 * i + 1 : Nat) : Int)) ∈ zwC ∧ (55 + 3 * i, 5, ((55 + 3 * i + 2 : Nat) : Int)) ∈ zwC := by decide +kernel
    exact ⟨hW _ (hd i hi).1, hW _ (hd i hi).2⟩
theorem isNow.ne {e f : Nat} (h : isNow e) (g : isNow f) (hne : f ≠ e) : f + 3 ≤ e ∨ e + 3 ≤ f := by
  rcases h with rfl | ⟨i, hi, rfl⟩ <;> rcases g with rfl | ⟨j, hj, rfl⟩ <;> omega
theorem isNow.lt {e : Nat} (h : isNow e) : 49 ≤ e ∧ e + 2 ≤ 111 := by
  rcases h with rfl | ⟨i, hi, rfl⟩ <;> omega
theorem zcp_wc {M : ZM} (hW : zWc M) {e f k : Nat} (h : isNow e) : zWc (zcp M e f k) := by
  refine hW.fr (fun q hq => ?_)
  have hr : ∀ q ∈ zwC, ¬ (q.1 = 49 ∧ q.2.1 < 4) ∧ (∀ i, i < 19 → ¬ (q.1 = 55 + 3 * i ∧ q.2.1 < 4)) ∧ q.1 ≠ 50 ∧ q.1 ≠ 51 ∧ ∀ i, i < 19 → q.1 ≠ 55 + 3 * i + 1 ∧ q.1 ≠ 55 + 3 * i + 2 := by decide +kernel
  obtain ⟨g1, g2, g3, g4, g5⟩ := hr q hq
  unfold zcp
  rcases h with rfl | ⟨i, hi, rfl⟩
  · rw [if_neg g1, if_neg (fun g => g3 g.1), if_neg (fun g => g4 g.1)]
  · rw [if_neg (g2 i hi), if_neg (fun g => (g5 i hi).1 g.1), if_neg (fun g => (g5 i hi).2 g.1)]
theorem zcp_ICn {M : ZM} {e f : Nat} {τ : Nat → Int} {h : Int} (hI : ICn τ h f M) (hne : f + 3 ≤ e ∨ e + 3 ≤ f) : ICn τ h e (zcp M e f 7) := by
  obtain ⟨a, b, c, d, g, i⟩ := hI
  have z0 : ∀ k, k < 4 → zcp M e f 7 e k = M f k := fun k hk => by
    unfold zcp
    rw [if_pos ⟨rfl, hk⟩]
  refine ⟨(z0 0 (by decide)).trans a, (z0 1 (by decide)).trans b, (z0 2 (by decide)).trans c, (z0 3 (by decide)).trans d, fun s hs => ?_, fun h1 s hs => ?_⟩
  · rw [← g s hs]
    unfold zcp
    rw [if_neg (by omega), if_pos ⟨rfl, hs⟩]
  · rw [← i h1 s hs]
    unfold zcp
    rw [if_neg (by omega), if_neg (by omega), if_pos ⟨rfl, hs⟩]
theorem l_copyFrom {l : Launch} {X : ZX} {M : ZM} {e f : Nat} (hW : zWc M) (he : isNow e) (hf : isNow f) (hne : f ≠ e) (hz : M f 3 = 0 ∨ M f 3 = 1) : ∀ (j i : Nat), i + j = 7 → zP l X 0 tX3_copyFrom 34 [some (zr (e : Int)), some (zr (f : Int)), some (zi (i : Int))] [] (zcp M e f i) (fun r M' => r = none ∧ M' = zcp M e f 7) := by
  have hd := he.ne hf hne
  intro j
  induction j with
  | zero =>
    intro i hi
    refine p_iload_n 35 dX3_copyFrom_34 rfl rfl ?_
    refine p_bipush 37 dX3_copyFrom_35 rfl ?_
    refine p_icmp_ge 70 40 dX3_copyFrom_37 (by omega) (by omega) (by omega) (by omega) (fun h37 => ?_) (fun h37 => absurd (by omega) (fun h9 : False => h9))
    refine p_vret dX3_copyFrom_70 rfl ?_
    rw [Nat.add_zero] at hi
    rw [hi]
    exact ⟨rfl, rfl⟩
  | succ j ih =>
    intro i hi
    refine p_iload_n 35 dX3_copyFrom_34 rfl rfl ?_
    refine p_bipush 37 dX3_copyFrom_35 rfl ?_
    refine p_icmp_ge 70 40 dX3_copyFrom_37 (by omega) (by omega) (by omega) (by omega) (fun h37 => absurd (by omega) (fun h9 : False => h9)) (fun h37 => ?_)
    refine p_aload_n 41 dX3_copyFrom_40 rfl rfl (by omega) ?_
    refine p_getR (e) 44 dX3_copyFrom_41 fX3_9 he.tt.1 (he.wire (zcp_wc hW he)).1 ?_
    refine p_iload_n 45 dX3_copyFrom_44 rfl rfl ?_
    refine p_aload_n 46 dX3_copyFrom_45 rfl rfl (by omega) ?_
    refine p_getR (f) 49 dX3_copyFrom_46 fX3_9 hf.tt.1 (hf.wire (zcp_wc hW he)).1 ?_
    refine p_iload_n 50 dX3_copyFrom_49 rfl rfl ?_
    refine p_ialdn (f + 1) 51 (i) dX3_copyFrom_50 hf.tt.2.1 (by omega) (by omega) ?_
    refine p_iastn (e + 1) 52 (i) dX3_copyFrom_51 he.tt.2.1 (by omega) (by omega) ?_
    refine p_aload_n 53 dX3_copyFrom_52 rfl rfl (by omega) ?_
    refine p_getR (e) 56 dX3_copyFrom_53 fX3_15 he.tt.1 ((congrFun (zset_ne _ (by omega)) 5).trans (he.wire (zcp_wc hW he)).2) ?_
    refine p_iload_n 57 dX3_copyFrom_56 rfl rfl ?_
    refine p_aload_n 58 dX3_copyFrom_57 rfl rfl (by omega) ?_
    refine p_getR (f) 61 dX3_copyFrom_58 fX3_15 hf.tt.1 ((congrFun (zset_ne _ (by omega)) 5).trans (hf.wire (zcp_wc hW he)).2) ?_
    refine p_iload_n 62 dX3_copyFrom_61 rfl rfl ?_
    refine p_ialdn (f + 2) 63 (i) dX3_copyFrom_62 hf.tt.2.2 (by omega) (by omega) ?_
    refine p_iastn (e + 2) 64 (i) dX3_copyFrom_63 he.tt.2.2 (by omega) (by omega) ?_
    refine p_iinc 67 dX3_copyFrom_64 rfl rfl rfl ?_
    dsimp only [List.set]
    refine p_goto 34 dX3_copyFrom_67 ?_
    rw [zcp_step (by omega) (by omega) (by omega) (by omega) (by omega)]
    exact ih (i + 1) (by omega)
theorem s_copyFrom {l : Launch} {X : ZX} {M : ZM} {e f : Nat} (hW : zWc M) (he : isNow e) (hf : isNow f) (hne : f ≠ e) (hz : M f 3 = 0 ∨ M f 3 = 1) : zCv l X 0 yX3_copyFrom tX3_copyFrom [zr (e : Int), zr (f : Int)] M (fun M' => M' = zcp M e f 7) := by
  refine zC.of [some (zr (e : Int)), some (zr (f : Int)), none] (by decide +kernel) rfl rfl (Nat.le_of_ble_eq_true rfl) rfl ?_
  refine p_aload_n 1 dX3_copyFrom_0 rfl rfl (by omega) ?_
  refine p_aload_n 2 dX3_copyFrom_1 rfl rfl (by omega) ?_
  refine p_getI (f) 5 dX3_copyFrom_2 fX3_18 hf.tt.1 ?_
  refine p_putI (e) 8 dX3_copyFrom_5 wX3_18 he.tt.1 ?_
  refine p_aload_n 9 dX3_copyFrom_8 rfl rfl (by omega) ?_
  refine p_aload_n 10 dX3_copyFrom_9 rfl rfl (by omega) ?_
  refine p_getI (f) 13 dX3_copyFrom_10 fX3_22 hf.tt.1 ?_
  rw [zset_ne _ hne]
  refine p_putI (e) 16 dX3_copyFrom_13 wX3_22 he.tt.1 ?_
  refine p_aload_n 17 dX3_copyFrom_16 rfl rfl (by omega) ?_
  refine p_aload_n 18 dX3_copyFrom_17 rfl rfl (by omega) ?_
  refine p_getI (f) 21 dX3_copyFrom_18 fX3_25 hf.tt.1 ?_
  rw [zset_ne _ hne, zset_ne _ hne]
  refine p_putI (e) 24 dX3_copyFrom_21 wX3_25 he.tt.1 ?_
  refine p_aload_n 25 dX3_copyFrom_24 rfl rfl (by omega) ?_
  refine p_aload_n 26 dX3_copyFrom_25 rfl rfl (by omega) ?_
  refine p_getI (f) 29 dX3_copyFrom_26 fX3_28 hf.tt.1 ?_
  rw [zset_ne _ hne, zset_ne _ hne, zset_ne _ hne]
  refine p_putZ (e) 32 dX3_copyFrom_29 wX3_28 he.tt.1 hz ?_
  refine p_iconst 33 dX3_copyFrom_32 ?_
  refine p_istore_n 34 dX3_copyFrom_33 rfl (Nat.le_of_ble_eq_true rfl) rfl rfl ?_
  dsimp only [List.set]
  rw [zcp_start hne]
  exact l_copyFrom hW he hf hne hz 7 0 rfl
theorem wc_kept {M : ZM} (hW : zWc M) {i : Nat} (hi : i < 16) : M 53 i = ((55 + 3 * i : Nat) : Int) := by
  have hd : ∀ i, i < 16 → (53, i, ((55 + 3 * i : Nat) : Int)) ∈ zwC := by decide +kernel
  exact hW _ (hd i hi)
theorem wc_img {M : ZM} (hW : zWc M) {i : Nat} (hi : i < 3) : M 54 i = ((103 + 3 * i : Nat) : Int) := by
  have hd : ∀ i, i < 3 → (54, i, ((103 + 3 * i : Nat) : Int)) ∈ zwC := by decide +kernel
  exact hW _ (hd i hi)
theorem isNow_kept {i : Nat} (hi : i < 16) : isNow (55 + 3 * i) := Or.inr ⟨i, by omega, rfl⟩
theorem isNow_img {i : Nat} (hi : i < 3) : isNow (103 + 3 * i) := Or.inr ⟨16 + i, by omega, by omega⟩
theorem isNow_49 : isNow 49 := Or.inl rfl
theorem s_keep {l : Launch} {X : ZX} {M : ZM} (hW : zWc M) {top cnt : Nat} (ht : top < 16) (hc : cnt ≤ 16) (h1 : M 52 1 = (top : Int)) (h2 : M 52 2 = (cnt : Int)) (hz : M 49 3 = 0 ∨ M 49 3 = 1) : zCv l X 1 yX5_keep tX5_keep [zr 52, zr 49] M (fun M' => M' = zset (zset (zcp M (55 + 3 * top) 49 7) 52 1 (((top + 1) % 16 : Nat) : Int)) 52 2 ((if cnt < 16 then cnt + 1 else 16 : Nat) : Int)) := by
  refine zC.of [some (zr 52), some (zr 49)] (by decide +kernel) rfl rfl (Nat.le_of_ble_eq_true rfl) rfl ?_
  refine p_aload_n 1 dX5_keep_0 rfl rfl (by decide) ?_
  refine p_getR 52 4 dX5_keep_1 fX5_11 rfl (hW (52, 0, 53) (by decide +kernel)) ?_
  refine p_aload_n 5 dX5_keep_4 rfl rfl (by decide) ?_
  refine p_getI 52 8 dX5_keep_5 fX5_28 rfl ?_
  rw [h1]
  refine p_aaldn 53 9 (top) dX5_keep_8 rfl (by omega) (by omega) ?_
  rw [wc_kept hW ht]
  refine p_aload_n 10 dX5_keep_9 rfl rfl (by decide) ?_
  refine p_callV1v (55 + 3 * top) 13 dX5_keep_10 (s_copyFrom (e := 55 + 3 * top) (f := 49) hW (isNow_kept ht) isNow_49 (by omega) hz) lk_X5_31 mX3_copyFrom (isNow_kept ht).tt.1 rfl (by decide) (Nat.le_of_ble_eq_true rfl) ?_
  rintro _ rfl
  refine p_aload_n 14 dX5_keep_13 rfl rfl (by decide) ?_
  refine p_aload_n 15 dX5_keep_14 rfl rfl (by decide) ?_
  refine p_getI 52 18 dX5_keep_15 fX5_28 rfl ?_
  rw [show zcp M (55 + 3 * top) 49 7 52 1 = (top : Int) from (by rw [zcp_other (by omega) (by omega) (by omega)]; exact h1)]
  refine p_iconst 19 dX5_keep_18 ?_
  refine p_iadd 20 dX5_keep_19 ?_
  refine p_bipush 22 dX5_keep_20 rfl ?_
  refine p_irem 23 dX5_keep_22 (by decide) ?_
  rw [show z_irem ((top : Int) + 1) 16 = (((top + 1) % 16 : Nat) : Int) from z_irem_n (top + 1) 16 (by omega) (by decide)]
  refine p_putI 52 26 dX5_keep_23 wX5_28 rfl ?_
  refine p_aload_n 27 dX5_keep_26 rfl rfl (by decide) ?_
  refine p_aload_n 28 dX5_keep_27 rfl rfl (by decide) ?_
  refine p_getI 52 31 dX5_keep_28 fX5_21 rfl ?_
  rw [show zset (zcp M (55 + 3 * top) 49 7) 52 1 (((top + 1) % 16 : Nat) : Int) 52 2 = (cnt : Int) from (by show zcp M (55 + 3 * top) 49 7 52 2 = _; rw [zcp_other (by omega) (by omega) (by omega)]; exact h2)]
  refine p_iconst 32 dX5_keep_31 ?_
  refine p_iadd 33 dX5_keep_32 ?_
  refine p_bipush 35 dX5_keep_33 rfl ?_
  refine p_mmin 38 dX5_keep_35 lk_X5_35 (by decide) (Nat.le_of_ble_eq_true rfl) (by omega) (by omega) (by omega) (by omega) ?_
  refine p_putI 52 41 dX5_keep_38 wX5_21 rfl ?_
  refine p_vret dX5_keep_41 rfl ?_
  refine ⟨rfl, ?_⟩
  congr 1
  split <;> split <;> omega
theorem s_takeBack {l : Launch} {X : ZX} {M : ZM} (hW : zWc M) {top cnt : Nat} (ht : top < 16) (hc : 0 < cnt) (hc2 : cnt ≤ 16) (h1 : M 52 1 = (top : Int)) (h2 : M 52 2 = (cnt : Int)) (hz : M (55 + 3 * ((top + 15) % 16)) 3 = 0 ∨ M (55 + 3 * ((top + 15) % 16)) 3 = 1) : zCv l X 1 yX5_takeBack tX5_takeBack [zr 52, zr 49] M (fun M' => M' = zcp (zset (zset M 52 1 (((top + 15) % 16 : Nat) : Int)) 52 2 ((cnt - 1 : Nat) : Int)) 49 (55 + 3 * ((top + 15) % 16)) 7) := by
  have hm : (top + 15) % 16 < 16 := Nat.mod_lt _ (by decide)
  have hW2 : zWc (zset (zset M 52 1 (((top + 15) % 16 : Nat) : Int)) 52 2 ((cnt - 1 : Nat) : Int)) := (hW.set (by decide +kernel)).set (by decide +kernel)
  refine zC.of [some (zr 52), some (zr 49)] (by decide +kernel) rfl rfl (Nat.le_of_ble_eq_true rfl) rfl ?_
  refine p_aload_n 1 dX5_takeBack_0 rfl rfl (by decide) ?_
  refine p_aload_n 2 dX5_takeBack_1 rfl rfl (by decide) ?_
  refine p_getI 52 5 dX5_takeBack_2 fX5_28 rfl ?_
  rw [h1]
  refine p_bipush 7 dX5_takeBack_5 rfl ?_
  refine p_iadd 8 dX5_takeBack_7 ?_
  refine p_iconst 9 dX5_takeBack_8 ?_
  refine p_isub 10 dX5_takeBack_9 ?_
  refine p_bipush 12 dX5_takeBack_10 rfl ?_
  refine p_irem 13 dX5_takeBack_12 (by decide) ?_
  rw [show z_irem ((top : Int) + 16 - 1) 16 = (((top + 15) % 16 : Nat) : Int) from (by rw [show (top : Int) + 16 - 1 = ((top + 15 : Nat) : Int) by omega]; exact z_irem_n (top + 15) 16 (by omega) (by decide))]
  refine p_putI 52 16 dX5_takeBack_13 wX5_28 rfl ?_
  refine p_aload_n 17 dX5_takeBack_16 rfl rfl (by decide) ?_
  refine p_dupR 18 dX5_takeBack_17 ?_
  refine p_getI 52 21 dX5_takeBack_18 fX5_21 rfl ?_
  rw [show zset M 52 1 (((top + 15) % 16 : Nat) : Int) 52 2 = (cnt : Int) from h2]
  refine p_iconst 22 dX5_takeBack_21 ?_
  refine p_isub 23 dX5_takeBack_22 ?_
  refine p_putI 52 26 dX5_takeBack_23 wX5_21 rfl ?_
  rw [show (cnt : Int) - 1 = ((cnt - 1 : Nat) : Int) by omega]
  refine p_aload_n 27 dX5_takeBack_26 rfl rfl (by decide) ?_
  refine p_aload_n 28 dX5_takeBack_27 rfl rfl (by decide) ?_
  refine p_getR 52 31 dX5_takeBack_28 fX5_11 rfl (hW2 (52, 0, 53) (by decide +kernel)) ?_
  refine p_aload_n 32 dX5_takeBack_31 rfl rfl (by decide) ?_
  refine p_getI 52 35 dX5_takeBack_32 fX5_28 rfl ?_
  skip
  refine p_aaldn 53 36 ((top + 15) % 16) dX5_takeBack_35 rfl (by rfl) hm ?_
  rw [wc_kept hW2 hm]
  refine p_callV1v 49 39 dX5_takeBack_36 (s_copyFrom (e := 49) (f := 55 + 3 * ((top + 15) % 16)) hW2 isNow_49 (isNow_kept hm) (by omega) (by rw [zset_ne _ (by omega), zset_ne _ (by omega)]; exact hz)) lk_X5_31 mX3_copyFrom rfl rfl (by decide) (Nat.le_of_ble_eq_true rfl) ?_
  rintro _ rfl
  refine p_vret dX5_takeBack_39 rfl ?_
  exact ⟨rfl, rfl⟩
theorem s_keepImage {l : Launch} {X : ZX} {M : ZM} (hW : zWc M) {k : Nat} (hk : k < 3) (h4 : M 52 4 = (k : Int)) (hz : M 49 3 = 0 ∨ M 49 3 = 1) : zCi l X 1 yX5_keepImage tX5_keepImage [zr 52, zr 49] M (fun a M' => a = (k : Int) ∧ M' = zset (zcp M (103 + 3 * k) 49 7) 52 4 ((k + 1 : Nat) : Int)) := by
  refine zC.of [some (zr 52), some (zr 49)] (by decide +kernel) rfl rfl (Nat.le_of_ble_eq_true rfl) rfl ?_
  refine p_aload_n 1 dX5_keepImage_0 rfl rfl (by decide) ?_
  refine p_getR 52 4 dX5_keepImage_1 fX5_17 rfl (hW (52, 3, 54) (by decide +kernel)) ?_
  refine p_aload_n 5 dX5_keepImage_4 rfl rfl (by decide) ?_
  refine p_getI 52 8 dX5_keepImage_5 fX5_25 rfl ?_
  rw [h4]
  refine p_aaldn 54 9 (k) dX5_keepImage_8 rfl (by omega) (by omega) ?_
  rw [wc_img hW hk]
  refine p_aload_n 10 dX5_keepImage_9 rfl rfl (by decide) ?_
  refine p_callV1v (103 + 3 * k) 13 dX5_keepImage_10 (s_copyFrom (e := 103 + 3 * k) (f := 49) hW (isNow_img hk) isNow_49 (by omega) hz) lk_X5_31 mX3_copyFrom (isNow_img hk).tt.1 rfl (by decide) (Nat.le_of_ble_eq_true rfl) ?_
  rintro _ rfl
  refine p_aload_n 14 dX5_keepImage_13 rfl rfl (by decide) ?_
  refine p_dupR 15 dX5_keepImage_14 ?_
  refine p_getI 52 18 dX5_keepImage_15 fX5_25 rfl ?_
  rw [show zcp M (103 + 3 * k) 49 7 52 4 = (k : Int) from (by rw [zcp_other (by omega) (by omega) (by omega)]; exact h4)]
  refine p_iconst 19 dX5_keepImage_18 ?_
  refine p_iadd 20 dX5_keepImage_19 ?_
  refine p_putI 52 23 dX5_keepImage_20 wX5_25 rfl ?_
  refine p_aload_n 24 dX5_keepImage_23 rfl rfl (by decide) ?_
  refine p_getI 52 27 dX5_keepImage_24 fX5_25 rfl ?_
  rw [zset_at]
  refine p_iconst 28 dX5_keepImage_27 ?_
  refine p_isub 29 dX5_keepImage_28 ?_
  refine p_iret dX5_keepImage_29 rfl ?_
  exact ⟨_, rfl, by omega, rfl⟩
theorem s_goBack {l : Launch} {X : ZX} {M : ZM} (hW : zWc M) {k : Nat} (hk : k < 3) (hz : M (103 + 3 * k) 3 = 0 ∨ M (103 + 3 * k) 3 = 1) : zCv l X 1 yX5_goBack tX5_goBack [zr 52, zr 49, zi (k : Int)] M (fun M' => M' = zset (zcp M 49 (103 + 3 * k) 7) 52 2 0) := by
  refine zC.of [some (zr 52), some (zr 49), some (zi (k : Int))] (by decide +kernel) rfl rfl (Nat.le_of_ble_eq_true rfl) rfl ?_
  refine p_aload_n 1 dX5_goBack_0 rfl rfl (by decide) ?_
  refine p_aload_n 2 dX5_goBack_1 rfl rfl (by decide) ?_
  refine p_getR 52 5 dX5_goBack_2 fX5_17 rfl (hW (52, 3, 54) (by decide +kernel)) ?_
  refine p_iload_n 6 dX5_goBack_5 rfl rfl ?_
  refine p_aaldn 54 7 (k) dX5_goBack_6 rfl (by omega) (by omega) ?_
  rw [wc_img hW hk]
  refine p_callV1v 49 10 dX5_goBack_7 (s_copyFrom (e := 49) (f := 103 + 3 * k) hW isNow_49 (isNow_img hk) (by omega) hz) lk_X5_31 mX3_copyFrom rfl rfl (by decide) (Nat.le_of_ble_eq_true rfl) ?_
  rintro _ rfl
  refine p_aload_n 11 dX5_goBack_10 rfl rfl (by decide) ?_
  refine p_iconst 12 dX5_goBack_11 ?_
  refine p_putI 52 15 dX5_goBack_12 wX5_21 rfl ?_
  refine p_vret dX5_goBack_15 rfl ?_
  exact ⟨rfl, rfl⟩
theorem s_pastReset {l : Launch} {X : ZX} {M : ZM}  : zCv l X 0 yX5_reset tX5_reset [zr 52] M (fun M' => M' = zset (zset M 52 2 0) 52 4 0) := by
  refine zC.of [some (zr 52)] (by decide +kernel) rfl rfl (Nat.le_of_ble_eq_true rfl) rfl ?_
  refine p_aload_n 1 dX5_reset_0 rfl rfl (by decide) ?_
  refine p_iconst 2 dX5_reset_1 ?_
  refine p_putI 52 5 dX5_reset_2 wX5_21 rfl ?_
  refine p_aload_n 6 dX5_reset_5 rfl rfl (by decide) ?_
  refine p_iconst 7 dX5_reset_6 ?_
  refine p_putI 52 10 dX5_reset_7 wX5_25 rfl ?_
  refine p_vret dX5_reset_10 rfl ?_
  exact ⟨rfl, rfl⟩
/-- the first k places of a row all made v -/
def zfill (M : ZM) (c k : Nat) (v : Int) : ZM := fun a b => if a = c ∧ b < k then v else M a b
theorem zfill_zero (M : ZM) (c : Nat) (v : Int) : zfill M c 0 v = M := by
  funext a b
  unfold zfill
  rw [if_neg (by omega)]
theorem zfill_step (M : ZM) (c k : Nat) (v : Int) : zset (zfill M c k v) c k v = zfill M c (k + 1) v := by
  funext a b
  unfold zset zfill
  (repeat' split) <;> first | rfl | (exfalso; omega)
theorem zfill_ne {M : ZM} {c k a : Nat} {v : Int} (h : a ≠ c) : zfill M c k v a = M a := by
  funext b
  unfold zfill
  rw [if_neg (fun g => h g.1)]
theorem zfill_wc {M : ZM} (hW : zWc M) {c k : Nat} {v : Int} (hk : zwC.all (fun q => !(q.1 == c)) = true) : zWc (zfill M c k v) := by
  refine hW.fr (fun q hq => ?_)
  have h1 := List.all_eq_true.mp hk q hq
  simp only [Bool.not_eq_true', beq_eq_false_iff_ne] at h1
  rw [zfill_ne h1]
theorem l_tendNobody {l : Launch} {X : ZX} {M : ZM} (hW : zWc M) : ∀ (j i : Nat), i + j = 7 → zP l X 0 tX3_tendNobody 2 [some (zr 49), some (zi (i : Int))] [] (zfill M 51 i (-2)) (fun r M' => r = none ∧ M' = zfill M 51 7 (-2)) := by
  intro j
  induction j with
  | zero =>
    intro i hi
    refine p_iload_n 3 dX3_tendNobody_2 rfl rfl ?_
    refine p_bipush 5 dX3_tendNobody_3 rfl ?_
    refine p_icmp_ge 22 8 dX3_tendNobody_5 (by omega) (by omega) (by omega) (by omega) (fun h5 => ?_) (fun h5 => absurd (by omega) (fun h9 : False => h9))
    refine p_vret dX3_tendNobody_22 rfl ?_
    rw [Nat.add_zero] at hi
    rw [hi]
    exact ⟨rfl, rfl⟩
  | succ j ih =>
    intro i hi
    refine p_iload_n 3 dX3_tendNobody_2 rfl rfl ?_
    refine p_bipush 5 dX3_tendNobody_3 rfl ?_
    refine p_icmp_ge 22 8 dX3_tendNobody_5 (by omega) (by omega) (by omega) (by omega) (fun h5 => absurd (by omega) (fun h9 : False => h9)) (fun h5 => ?_)
    refine p_aload_n 9 dX3_tendNobody_8 rfl rfl (by decide) ?_
    refine p_getR 49 12 dX3_tendNobody_9 fX3_15 rfl ((zfill_wc hW (by decide +kernel)) (49, 5, 51) (by decide)) ?_
    refine p_iload_n 13 dX3_tendNobody_12 rfl rfl ?_
    refine p_bipush 15 dX3_tendNobody_13 rfl ?_
    refine p_iastn 51 16 (i) dX3_tendNobody_15 rfl (by omega) (by omega) ?_
    refine p_iinc 19 dX3_tendNobody_16 rfl rfl rfl ?_
    dsimp only [List.set]
    refine p_goto 2 dX3_tendNobody_19 ?_
    rw [zfill_step]
    exact ih (i + 1) (by omega)
theorem s_tendNobody {l : Launch} {X : ZX} {M : ZM} (hW : zWc M) : zCv l X 0 yX3_tendNobody tX3_tendNobody [zr 49] M (fun M' => M' = zfill M 51 7 (-2)) := by
  refine zC.of [some (zr 49), none] (by decide +kernel) rfl rfl (Nat.le_of_ble_eq_true rfl) rfl ?_
  refine p_iconst 1 dX3_tendNobody_0 ?_
  refine p_istore_n 2 dX3_tendNobody_1 rfl (Nat.le_of_ble_eq_true rfl) rfl rfl ?_
  dsimp only [List.set]
  have e := l_tendNobody (l := l) (X := X) hW 7 0 rfl
  rw [zfill_zero] at e
  exact e
theorem l_reset {l : Launch} {X : ZX} {M : ZM} (hW : zWc M) : ∀ (j i : Nat), i + j = 7 → zP l X 1 tX3_reset 22 [some (zr 49), some (zi (i : Int))] [] (zfill M 50 i 0) (fun r M' => r = none ∧ M' = zfill (zfill M 50 7 0) 51 7 (-2)) := by
  intro j
  induction j with
  | zero =>
    intro i hi
    refine p_iload_n 23 dX3_reset_22 rfl rfl ?_
    refine p_bipush 25 dX3_reset_23 rfl ?_
    refine p_icmp_ge 41 28 dX3_reset_25 (by omega) (by omega) (by omega) (by omega) (fun h25 => ?_) (fun h25 => absurd (by omega) (fun h9 : False => h9))
    refine p_aload_n 42 dX3_reset_41 rfl rfl (by decide) ?_
    refine p_callV0v 49 45 dX3_reset_42 (s_tendNobody (zfill_wc hW (by decide +kernel))) lk_X3_32 mX3_tendNobody rfl rfl (by decide) (Nat.le_of_ble_eq_true rfl) ?_
    rintro _ rfl
    refine p_vret dX3_reset_45 rfl ?_
    rw [Nat.add_zero] at hi
    rw [hi]
    exact ⟨rfl, rfl⟩
  | succ j ih =>
    intro i hi
    refine p_iload_n 23 dX3_reset_22 rfl rfl ?_
    refine p_bipush 25 dX3_reset_23 rfl ?_
    refine p_icmp_ge 41 28 dX3_reset_25 (by omega) (by omega) (by omega) (by omega) (fun h25 => absurd (by omega) (fun h9 : False => h9)) (fun h25 => ?_)
    refine p_aload_n 29 dX3_reset_28 rfl rfl (by decide) ?_
    refine p_getR 49 32 dX3_reset_29 fX3_9 rfl ((zfill_wc hW (by decide +kernel)) (49, 4, 50) (by decide)) ?_
    refine p_iload_n 33 dX3_reset_32 rfl rfl ?_
    refine p_iconst 34 dX3_reset_33 ?_
    refine p_iastn 50 35 (i) dX3_reset_34 rfl (by omega) (by omega) ?_
    refine p_iinc 38 dX3_reset_35 rfl rfl rfl ?_
    dsimp only [List.set]
    refine p_goto 22 dX3_reset_38 ?_
    rw [zfill_step]
    exact ih (i + 1) (by omega)
theorem s_nowReset {l : Launch} {X : ZX} {M : ZM} (hW : zWc M) : zCv l X 1 yX3_reset tX3_reset [zr 49] M (fun M' => M' = zfill (zfill (zset (zset (zset (zset M 49 0 0) 49 1 0) 49 2 0) 49 3 0) 50 7 0) 51 7 (-2)) := by
  refine zC.of [some (zr 49), none] (by decide +kernel) rfl rfl (Nat.le_of_ble_eq_true rfl) rfl ?_
  refine p_aload_n 1 dX3_reset_0 rfl rfl (by decide) ?_
  refine p_iconst 2 dX3_reset_1 ?_
  refine p_putI 49 5 dX3_reset_2 wX3_18 rfl ?_
  refine p_aload_n 6 dX3_reset_5 rfl rfl (by decide) ?_
  refine p_iconst 7 dX3_reset_6 ?_
  refine p_putI 49 10 dX3_reset_7 wX3_22 rfl ?_
  refine p_aload_n 11 dX3_reset_10 rfl rfl (by decide) ?_
  refine p_iconst 12 dX3_reset_11 ?_
  refine p_putI 49 15 dX3_reset_12 wX3_25 rfl ?_
  refine p_aload_n 16 dX3_reset_15 rfl rfl (by decide) ?_
  refine p_iconst 17 dX3_reset_16 ?_
  refine p_putZ 49 20 dX3_reset_17 wX3_28 rfl (by decide) ?_
  refine p_iconst 21 dX3_reset_20 ?_
  refine p_istore_n 22 dX3_reset_21 rfl (Nat.le_of_ble_eq_true rfl) rfl rfl ?_
  dsimp only [List.set]
  have e := l_reset (l := l) (X := X) (M := zset (zset (zset (zset M 49 0 0) 49 1 0) 49 2 0) 49 3 0) ((((hW.set (by decide +kernel)).set (by decide +kernel)).set (by decide +kernel)).set (by decide +kernel)) 7 0 rfl
  rw [zfill_zero] at e
  exact e
