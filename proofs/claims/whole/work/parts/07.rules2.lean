section ZA
variable {l : Launch} {X : ZX} {d : Nat} {mt : ZT} {pc : Nat} {L : List (Option ZV)} {S : List ZV} {n : Nat} {M : ZM} {out : ZO}
theorem go_iadd {a b : Int} (hd : decode mt.2.1 pc = .ok (.iadd, 1)) (kk : zGo l X d mt (pc + 1) L (zi (a + b) :: S) n M out) : zGo l X d mt pc L (zi b :: zi a :: S) n M out := by
  intro p e s m args below meth c B n0 H locs ls h1 h2 hR hS hL
  refine lv_iadd B.1 B.2.1 hd ?_
  have h := kk p e s m args below meth c B n0 H locs ls h1 h2 hR hS hL
  rw [List.map_cons, show pz_val X (zi (a + b)) = .int _ from congrArg Value.int (Int32.ofInt_add a b)] at h
  exact h
theorem go_isub {a b : Int} (hd : decode mt.2.1 pc = .ok (.isub, 1)) (kk : zGo l X d mt (pc + 1) L (zi (a - b) :: S) n M out) : zGo l X d mt pc L (zi b :: zi a :: S) n M out := by
  intro p e s m args below meth c B n0 H locs ls h1 h2 hR hS hL
  refine lv_isub B.1 B.2.1 hd ?_
  have h := kk p e s m args below meth c B n0 H locs ls h1 h2 hR hS hL
  rw [List.map_cons, show pz_val X (zi (a - b)) = .int _ from congrArg Value.int (Int32.ofInt_sub a b)] at h
  exact h
theorem go_imul {a b : Int} (hd : decode mt.2.1 pc = .ok (.imul, 1)) (kk : zGo l X d mt (pc + 1) L (zi (a * b) :: S) n M out) : zGo l X d mt pc L (zi b :: zi a :: S) n M out := by
  intro p e s m args below meth c B n0 H locs ls h1 h2 hR hS hL
  refine lv_imul B.1 B.2.1 hd ?_
  have h := kk p e s m args below meth c B n0 H locs ls h1 h2 hR hS hL
  rw [List.map_cons, show pz_val X (zi (a * b)) = .int _ from congrArg Value.int (Int32.ofInt_mul a b)] at h
  exact h
theorem go_ineg {a : Int} (hd : decode mt.2.1 pc = .ok (.ineg, 1)) (kk : zGo l X d mt (pc + 1) L (zi (-a) :: S) n M out) : zGo l X d mt pc L (zi a :: S) n M out := by
  intro p e s m args below meth c B n0 H locs ls h1 h2 hR hS hL
  refine lv_ineg B.1 B.2.1 hd ?_
  have h := kk p e s m args below meth c B n0 H locs ls h1 h2 hR hS hL
  rw [List.map_cons, show pz_val X (zi (-a)) = .int _ from congrArg Value.int (Int32.ofInt_neg a)] at h
  exact h
def z_iand (a b : Int) : Int := (Int32.ofInt a &&& Int32.ofInt b).toInt
theorem go_iand {a b : Int} (hd : decode mt.2.1 pc = .ok (.iand, 1)) (kk : zGo l X d mt (pc + 1) L (zi (z_iand a b) :: S) n M out) : zGo l X d mt pc L (zi b :: zi a :: S) n M out := by
  intro p e s m args below meth c B n0 H locs ls h1 h2 hR hS hL
  refine lv_iand B.1 B.2.1 hd ?_
  have h := kk p e s m args below meth c B n0 H locs ls h1 h2 hR hS hL
  rw [List.map_cons, show pz_val X (zi (z_iand a b)) = .int _ from congrArg Value.int (Int32.ofInt_toInt _)] at h
  exact h
def z_ior (a b : Int) : Int := (Int32.ofInt a ||| Int32.ofInt b).toInt
theorem go_ior {a b : Int} (hd : decode mt.2.1 pc = .ok (.ior, 1)) (kk : zGo l X d mt (pc + 1) L (zi (z_ior a b) :: S) n M out) : zGo l X d mt pc L (zi b :: zi a :: S) n M out := by
  intro p e s m args below meth c B n0 H locs ls h1 h2 hR hS hL
  refine lv_ior B.1 B.2.1 hd ?_
  have h := kk p e s m args below meth c B n0 H locs ls h1 h2 hR hS hL
  rw [List.map_cons, show pz_val X (zi (z_ior a b)) = .int _ from congrArg Value.int (Int32.ofInt_toInt _)] at h
  exact h
def z_ixor (a b : Int) : Int := (Int32.ofInt a ^^^ Int32.ofInt b).toInt
theorem go_ixor {a b : Int} (hd : decode mt.2.1 pc = .ok (.ixor, 1)) (kk : zGo l X d mt (pc + 1) L (zi (z_ixor a b) :: S) n M out) : zGo l X d mt pc L (zi b :: zi a :: S) n M out := by
  intro p e s m args below meth c B n0 H locs ls h1 h2 hR hS hL
  refine lv_ixor B.1 B.2.1 hd ?_
  have h := kk p e s m args below meth c B n0 H locs ls h1 h2 hR hS hL
  rw [List.map_cons, show pz_val X (zi (z_ixor a b)) = .int _ from congrArg Value.int (Int32.ofInt_toInt _)] at h
  exact h
def z_ishl (a b : Int) : Int := (Int32.ofInt a <<< (Int32.ofInt b &&& 31)).toInt
theorem go_ishl {a b : Int} (hd : decode mt.2.1 pc = .ok (.ishl, 1)) (kk : zGo l X d mt (pc + 1) L (zi (z_ishl a b) :: S) n M out) : zGo l X d mt pc L (zi b :: zi a :: S) n M out := by
  intro p e s m args below meth c B n0 H locs ls h1 h2 hR hS hL
  refine lv_ishl B.1 B.2.1 hd ?_
  have h := kk p e s m args below meth c B n0 H locs ls h1 h2 hR hS hL
  rw [List.map_cons, show pz_val X (zi (z_ishl a b)) = .int _ from congrArg Value.int (Int32.ofInt_toInt _)] at h
  exact h
def z_ishr (a b : Int) : Int := (Int32.ofInt a >>> (Int32.ofInt b &&& 31)).toInt
theorem go_ishr {a b : Int} (hd : decode mt.2.1 pc = .ok (.ishr, 1)) (kk : zGo l X d mt (pc + 1) L (zi (z_ishr a b) :: S) n M out) : zGo l X d mt pc L (zi b :: zi a :: S) n M out := by
  intro p e s m args below meth c B n0 H locs ls h1 h2 hR hS hL
  refine lv_ishr B.1 B.2.1 hd ?_
  have h := kk p e s m args below meth c B n0 H locs ls h1 h2 hR hS hL
  rw [List.map_cons, show pz_val X (zi (z_ishr a b)) = .int _ from congrArg Value.int (Int32.ofInt_toInt _)] at h
  exact h
def z_iushr (a b : Int) : Int := ((Int32.ofInt a).toUInt32 >>> ((Int32.ofInt b).toUInt32 &&& Int32.toUInt32 31)).toInt32.toInt
theorem go_iushr {a b : Int} (hd : decode mt.2.1 pc = .ok (.iushr, 1)) (kk : zGo l X d mt (pc + 1) L (zi (z_iushr a b) :: S) n M out) : zGo l X d mt pc L (zi b :: zi a :: S) n M out := by
  intro p e s m args below meth c B n0 H locs ls h1 h2 hR hS hL
  exact lv_iushr B.1 B.2.1 hd (Int32.ofInt_toInt _).symm (kk p e s m args below meth c B n0 H locs ls h1 h2 hR hS hL)
def z_idiv (a b : Int) : Int := (Int32.ofInt a / Int32.ofInt b).toInt
theorem go_idiv {a b : Int} (hd : decode mt.2.1 pc = .ok (.idiv, 1)) (hb : w32 b ≠ 0) (kk : zGo l X d mt (pc + 1) L (zi (z_idiv a b) :: S) n M out) : zGo l X d mt pc L (zi b :: zi a :: S) n M out := by
  intro p e s m args below meth c B n0 H locs ls h1 h2 hR hS hL
  refine lv_idiv B.1 B.2.1 hd (fun e0 => hb (by unfold w32; rw [e0]; rfl)) ?_
  have h := kk p e s m args below meth c B n0 H locs ls h1 h2 hR hS hL
  rw [List.map_cons, show pz_val X (zi (z_idiv a b)) = .int _ from congrArg Value.int (Int32.ofInt_toInt _)] at h
  exact h
def z_irem (a b : Int) : Int := (Int32.ofInt a - Int32.ofInt a / Int32.ofInt b * Int32.ofInt b).toInt
theorem go_irem {a b : Int} (hd : decode mt.2.1 pc = .ok (.irem, 1)) (hb : w32 b ≠ 0) (kk : zGo l X d mt (pc + 1) L (zi (z_irem a b) :: S) n M out) : zGo l X d mt pc L (zi b :: zi a :: S) n M out := by
  intro p e s m args below meth c B n0 H locs ls h1 h2 hR hS hL
  refine lv_irem B.1 B.2.1 hd (fun e0 => hb (by unfold w32; rw [e0]; rfl)) ?_
  have h := kk p e s m args below meth c B n0 H locs ls h1 h2 hR hS hL
  rw [List.map_cons, show pz_val X (zi (z_irem a b)) = .int _ from congrArg Value.int (Int32.ofInt_toInt _)] at h
  exact h
def z_ldiv (a b : Int) : Int := (Int64.ofInt a / Int64.ofInt b).toInt
theorem go_ldiv {a b : Int} (hd : decode mt.2.1 pc = .ok (.ldiv, 1)) (hb : w64 b ≠ 0) (kk : zGo l X d mt (pc + 1) L (zl (z_ldiv a b) :: S) n M out) : zGo l X d mt pc L (zl b :: zl a :: S) n M out := by
  intro p e s m args below meth c B n0 H locs ls h1 h2 hR hS hL
  refine lv_ldiv B.1 B.2.1 hd (fun e0 => hb (by unfold w64; rw [e0]; rfl)) ?_
  have h := kk p e s m args below meth c B n0 H locs ls h1 h2 hR hS hL
  rw [List.map_cons, show pz_val X (zl (z_ldiv a b)) = .long _ from congrArg Value.long (Int64.ofInt_toInt _)] at h
  exact h
def z_lrem (a b : Int) : Int := (Int64.ofInt a - Int64.ofInt a / Int64.ofInt b * Int64.ofInt b).toInt
theorem go_lrem {a b : Int} (hd : decode mt.2.1 pc = .ok (.lrem, 1)) (hb : w64 b ≠ 0) (kk : zGo l X d mt (pc + 1) L (zl (z_lrem a b) :: S) n M out) : zGo l X d mt pc L (zl b :: zl a :: S) n M out := by
  intro p e s m args below meth c B n0 H locs ls h1 h2 hR hS hL
  refine lv_lrem B.1 B.2.1 hd (fun e0 => hb (by unfold w64; rw [e0]; rfl)) ?_
  have h := kk p e s m args below meth c B n0 H locs ls h1 h2 hR hS hL
  rw [List.map_cons, show pz_val X (zl (z_lrem a b)) = .long _ from congrArg Value.long (Int64.ofInt_toInt _)] at h
  exact h
def z_lor (a b : Int) : Int := (Int64.ofInt a ||| Int64.ofInt b).toInt
theorem go_lor {a b : Int} (hd : decode mt.2.1 pc = .ok (.lor, 1)) (kk : zGo l X d mt (pc + 1) L (zl (z_lor a b) :: S) n M out) : zGo l X d mt pc L (zl b :: zl a :: S) n M out := by
  intro p e s m args below meth c B n0 H locs ls h1 h2 hR hS hL
  refine lv_lor B.1 B.2.1 hd ?_
  have h := kk p e s m args below meth c B n0 H locs ls h1 h2 hR hS hL
  rw [List.map_cons, show pz_val X (zl (z_lor a b)) = .long _ from congrArg Value.long (Int64.ofInt_toInt _)] at h
  exact h
def z_lshl (a b : Int) : Int := (Int64.ofInt a <<< ((Int32.ofInt b).toInt64 &&& 63)).toInt
theorem go_lshl {a b : Int} (hd : decode mt.2.1 pc = .ok (.lshl, 1)) (kk : zGo l X d mt (pc + 1) L (zl (z_lshl a b) :: S) n M out) : zGo l X d mt pc L (zi b :: zl a :: S) n M out := by
  intro p e s m args below meth c B n0 H locs ls h1 h2 hR hS hL
  exact lv_lshl B.1 B.2.1 hd (Int64.ofInt_toInt _).symm (kk p e s m args below meth c B n0 H locs ls h1 h2 hR hS hL)
theorem pz_i2l (a : Int) : (Int32.ofInt a).toInt64 = Int64.ofInt (w32 a) := by
  unfold w32
  rw [← Int64.ofInt_toInt (Int32.ofInt a).toInt64, Int32.toInt_toInt64]
theorem go_i2l {a : Int} (hd : decode mt.2.1 pc = .ok (.i2l, 1)) (kk : zGo l X d mt (pc + 1) L (zl (w32 a) :: S) n M out) : zGo l X d mt pc L (zi a :: S) n M out := by
  intro p e s m args below meth c B n0 H locs ls h1 h2 hR hS hL
  exact lv_i2l B.1 B.2.1 hd (pz_i2l a) (kk p e s m args below meth c B n0 H locs ls h1 h2 hR hS hL)
def z_i2b (a : Int) : Int := ((Int32.ofInt a).toInt8.toInt32).toInt
theorem go_i2b {a : Int} (hd : decode mt.2.1 pc = .ok (.i2b, 1)) (kk : zGo l X d mt (pc + 1) L (zi (z_i2b a) :: S) n M out) : zGo l X d mt pc L (zi a :: S) n M out := by
  intro p e s m args below meth c B n0 H locs ls h1 h2 hR hS hL
  exact lv_i2b B.1 B.2.1 hd (Int32.ofInt_toInt _).symm (kk p e s m args below meth c B n0 H locs ls h1 h2 hR hS hL)
def z_lcmp (a b : Int) : Int := if w64 b < w64 a then 1 else if w64 a = w64 b then 0 else -1
theorem pz_lcmp (a b : Int) : Int32.ofInt (z_lcmp a b) = lg_cmp (Int64.ofInt a) (Int64.ofInt b) := by
  unfold z_lcmp lg_cmp w64
  by_cases h1 : (Int64.ofInt b).toInt < (Int64.ofInt a).toInt
  · rw [if_pos h1, if_pos (show Int64.ofInt a > Int64.ofInt b from Int64.lt_iff_toInt_lt.mpr h1)]
    rfl
  · rw [if_neg h1, if_neg (fun h : Int64.ofInt a > Int64.ofInt b => h1 (Int64.lt_iff_toInt_lt.mp h))]
    by_cases h2 : (Int64.ofInt a).toInt = (Int64.ofInt b).toInt
    · rw [if_pos h2, if_pos (Int64.toInt_inj.mp h2)]
      rfl
    · rw [if_neg h2, if_neg (fun h => h2 (by rw [h]))]
      rfl
theorem go_lcmp {a b : Int} (hd : decode mt.2.1 pc = .ok (.lcmp, 1)) (kk : zGo l X d mt (pc + 1) L (zi (z_lcmp a b) :: S) n M out) : zGo l X d mt pc L (zl b :: zl a :: S) n M out := by
  intro p e s m args below meth c B n0 H locs ls h1 h2 hR hS hL
  refine W.lcmp B.1 B.2.1 hd ?_
  have h := kk p e s m args below meth c B n0 H locs ls h1 h2 hR hS hL
  rw [List.map_cons, show pz_val X (zi (z_lcmp a b)) = .int _ from congrArg Value.int (pz_lcmp a b)] at h
  exact h
theorem go_dup {v : ZV} (hd : decode mt.2.1 pc = .ok (.dup, 1)) (hv : ∀ z, v ≠ zl z) (kk : zGo l X d mt (pc + 1) L (v :: v :: S) n M out) : zGo l X d mt pc L (v :: S) n M out := by
  intro p e s m args below meth c B n0 H locs ls h1 h2 hR hS hL
  exact lv_dup B.1 B.2.1 hd (pz_cat1 X v hv) (kk p e s m args below meth c B n0 H locs ls h1 h2 hR hS hL)
theorem go_pop {v : ZV} (hd : decode mt.2.1 pc = .ok (.pop, 1)) (hv : ∀ z, v ≠ zl z) (kk : zGo l X d mt (pc + 1) L S n M out) : zGo l X d mt pc L (v :: S) n M out := by
  intro p e s m args below meth c B n0 H locs ls h1 h2 hR hS hL
  exact lv_pop B.1 B.2.1 hd (pz_cat1 X v hv) (kk p e s m args below meth c B n0 H locs ls h1 h2 hR hS hL)
theorem go_dup2 {v u : ZV} (hd : decode mt.2.1 pc = .ok (.dup2, 1)) (hv : ∀ z, v ≠ zl z) (hu : ∀ z, u ≠ zl z) (kk : zGo l X d mt (pc + 1) L (v :: u :: v :: u :: S) n M out) : zGo l X d mt pc L (v :: u :: S) n M out := by
  intro p e s m args below meth c B n0 H locs ls h1 h2 hR hS hL
  exact lv_dup2_11 B.1 B.2.1 hd (pz_cat1 X v hv) (pz_cat1 X u hu) (kk p e s m args below meth c B n0 H locs ls h1 h2 hR hS hL)
theorem pz_eq0 (a : Int) : Int32.ofInt a = 0 ↔ w32 a = 0 := ⟨fun h => by unfold w32; rw [h]; rfl, fun h => Int32.toInt_inj.mp (by unfold w32 at h; rw [h]; rfl)⟩
theorem pz_lt0 (a : Int) : Int32.ofInt a < 0 ↔ w32 a < 0 := Int32.lt_iff_toInt_lt
theorem pz_gt0 (a : Int) : 0 < Int32.ofInt a ↔ 0 < w32 a := Int32.lt_iff_toInt_lt
theorem pz_le0 (a : Int) : Int32.ofInt a ≤ 0 ↔ w32 a ≤ 0 := Int32.le_iff_toInt_le
theorem pz_ge0 (a : Int) : 0 ≤ Int32.ofInt a ↔ 0 ≤ w32 a := Int32.le_iff_toInt_le
theorem pz_eq2 (a b : Int) : Int32.ofInt a = Int32.ofInt b ↔ w32 a = w32 b := Int32.toInt_inj.symm
theorem pz_lt2 (a b : Int) : Int32.ofInt a < Int32.ofInt b ↔ w32 a < w32 b := Int32.lt_iff_toInt_lt
theorem pz_le2 (a b : Int) : Int32.ofInt a ≤ Int32.ofInt b ↔ w32 a ≤ w32 b := Int32.le_iff_toInt_le
theorem go_if_eq {a off : Int} {tgt : Nat} (hd : decode mt.2.1 pc = .ok (.ifCond .eq off, 3)) (ht : (pc : Int) + off = (tgt : Int)) (kt : w32 a = 0 → zGo l X d mt tgt L S n M out) (kf : ¬ w32 a = 0 → zGo l X d mt (pc + 3) L S n M out) : zGo l X d mt pc L (zi a :: S) n M out := by
  intro p e s m args below meth c B n0 H locs ls h1 h2 hR hS hL
  exact lv_if_eq B.1 B.2.1 hd ht (fun h => kt ((pz_eq0 a).mp h) p e s m args below meth c B n0 H locs ls h1 h2 hR hS hL) (fun h => kf (fun h9 => h ((pz_eq0 a).mpr h9)) p e s m args below meth c B n0 H locs ls h1 h2 hR hS hL)
theorem go_if_ne {a off : Int} {tgt : Nat} (hd : decode mt.2.1 pc = .ok (.ifCond .ne off, 3)) (ht : (pc : Int) + off = (tgt : Int)) (kt : ¬ w32 a = 0 → zGo l X d mt tgt L S n M out) (kf : w32 a = 0 → zGo l X d mt (pc + 3) L S n M out) : zGo l X d mt pc L (zi a :: S) n M out := by
  intro p e s m args below meth c B n0 H locs ls h1 h2 hR hS hL
  exact lv_if_ne B.1 B.2.1 hd ht (fun h => kt (fun h9 => h ((pz_eq0 a).mpr h9)) p e s m args below meth c B n0 H locs ls h1 h2 hR hS hL) (fun h => kf ((pz_eq0 a).mp h) p e s m args below meth c B n0 H locs ls h1 h2 hR hS hL)
theorem go_if_lt {a off : Int} {tgt : Nat} (hd : decode mt.2.1 pc = .ok (.ifCond .lt off, 3)) (ht : (pc : Int) + off = (tgt : Int)) (kt : w32 a < 0 → zGo l X d mt tgt L S n M out) (kf : ¬ w32 a < 0 → zGo l X d mt (pc + 3) L S n M out) : zGo l X d mt pc L (zi a :: S) n M out := by
  intro p e s m args below meth c B n0 H locs ls h1 h2 hR hS hL
  exact lv_if_lt B.1 B.2.1 hd ht (fun h => kt ((pz_lt0 a).mp h) p e s m args below meth c B n0 H locs ls h1 h2 hR hS hL) (fun h => kf (fun h9 => h ((pz_lt0 a).mpr h9)) p e s m args below meth c B n0 H locs ls h1 h2 hR hS hL)
theorem go_if_ge {a off : Int} {tgt : Nat} (hd : decode mt.2.1 pc = .ok (.ifCond .ge off, 3)) (ht : (pc : Int) + off = (tgt : Int)) (kt : 0 ≤ w32 a → zGo l X d mt tgt L S n M out) (kf : ¬ 0 ≤ w32 a → zGo l X d mt (pc + 3) L S n M out) : zGo l X d mt pc L (zi a :: S) n M out := by
  intro p e s m args below meth c B n0 H locs ls h1 h2 hR hS hL
  exact lv_if_ge B.1 B.2.1 hd ht (fun h => kt ((pz_ge0 a).mp h) p e s m args below meth c B n0 H locs ls h1 h2 hR hS hL) (fun h => kf (fun h9 => h ((pz_ge0 a).mpr h9)) p e s m args below meth c B n0 H locs ls h1 h2 hR hS hL)
theorem go_if_gt {a off : Int} {tgt : Nat} (hd : decode mt.2.1 pc = .ok (.ifCond .gt off, 3)) (ht : (pc : Int) + off = (tgt : Int)) (kt : 0 < w32 a → zGo l X d mt tgt L S n M out) (kf : ¬ 0 < w32 a → zGo l X d mt (pc + 3) L S n M out) : zGo l X d mt pc L (zi a :: S) n M out := by
  intro p e s m args below meth c B n0 H locs ls h1 h2 hR hS hL
  exact lv_if_gt B.1 B.2.1 hd ht (fun h => kt ((pz_gt0 a).mp h) p e s m args below meth c B n0 H locs ls h1 h2 hR hS hL) (fun h => kf (fun h9 => h ((pz_gt0 a).mpr h9)) p e s m args below meth c B n0 H locs ls h1 h2 hR hS hL)
theorem go_if_le {a off : Int} {tgt : Nat} (hd : decode mt.2.1 pc = .ok (.ifCond .le off, 3)) (ht : (pc : Int) + off = (tgt : Int)) (kt : w32 a ≤ 0 → zGo l X d mt tgt L S n M out) (kf : ¬ w32 a ≤ 0 → zGo l X d mt (pc + 3) L S n M out) : zGo l X d mt pc L (zi a :: S) n M out := by
  intro p e s m args below meth c B n0 H locs ls h1 h2 hR hS hL
  exact lv_if_le B.1 B.2.1 hd ht (fun h => kt ((pz_le0 a).mp h) p e s m args below meth c B n0 H locs ls h1 h2 hR hS hL) (fun h => kf (fun h9 => h ((pz_le0 a).mpr h9)) p e s m args below meth c B n0 H locs ls h1 h2 hR hS hL)
theorem go_icmp_eq {a b off : Int} {tgt : Nat} (hd : decode mt.2.1 pc = .ok (.if_icmp .eq off, 3)) (ht : (pc : Int) + off = (tgt : Int)) (kt : w32 a = w32 b → zGo l X d mt tgt L S n M out) (kf : ¬ w32 a = w32 b → zGo l X d mt (pc + 3) L S n M out) : zGo l X d mt pc L (zi b :: zi a :: S) n M out := by
  intro p e s m args below meth c B n0 H locs ls h1 h2 hR hS hL
  exact lv_icmp_eq B.1 B.2.1 hd ht (fun h => kt ((pz_eq2 a b).mp h) p e s m args below meth c B n0 H locs ls h1 h2 hR hS hL) (fun h => kf (fun h9 => h ((pz_eq2 a b).mpr h9)) p e s m args below meth c B n0 H locs ls h1 h2 hR hS hL)
theorem go_icmp_ne {a b off : Int} {tgt : Nat} (hd : decode mt.2.1 pc = .ok (.if_icmp .ne off, 3)) (ht : (pc : Int) + off = (tgt : Int)) (kt : ¬ w32 a = w32 b → zGo l X d mt tgt L S n M out) (kf : w32 a = w32 b → zGo l X d mt (pc + 3) L S n M out) : zGo l X d mt pc L (zi b :: zi a :: S) n M out := by
  intro p e s m args below meth c B n0 H locs ls h1 h2 hR hS hL
  exact lv_icmp_ne B.1 B.2.1 hd ht (fun h => kt (fun h9 => h ((pz_eq2 a b).mpr h9)) p e s m args below meth c B n0 H locs ls h1 h2 hR hS hL) (fun h => kf ((pz_eq2 a b).mp h) p e s m args below meth c B n0 H locs ls h1 h2 hR hS hL)
theorem go_icmp_lt {a b off : Int} {tgt : Nat} (hd : decode mt.2.1 pc = .ok (.if_icmp .lt off, 3)) (ht : (pc : Int) + off = (tgt : Int)) (kt : w32 a < w32 b → zGo l X d mt tgt L S n M out) (kf : ¬ w32 a < w32 b → zGo l X d mt (pc + 3) L S n M out) : zGo l X d mt pc L (zi b :: zi a :: S) n M out := by
  intro p e s m args below meth c B n0 H locs ls h1 h2 hR hS hL
  exact lv_icmp_lt B.1 B.2.1 hd ht (fun h => kt ((pz_lt2 a b).mp h) p e s m args below meth c B n0 H locs ls h1 h2 hR hS hL) (fun h => kf (fun h9 => h ((pz_lt2 a b).mpr h9)) p e s m args below meth c B n0 H locs ls h1 h2 hR hS hL)
theorem go_icmp_ge {a b off : Int} {tgt : Nat} (hd : decode mt.2.1 pc = .ok (.if_icmp .ge off, 3)) (ht : (pc : Int) + off = (tgt : Int)) (kt : w32 b ≤ w32 a → zGo l X d mt tgt L S n M out) (kf : ¬ w32 b ≤ w32 a → zGo l X d mt (pc + 3) L S n M out) : zGo l X d mt pc L (zi b :: zi a :: S) n M out := by
  intro p e s m args below meth c B n0 H locs ls h1 h2 hR hS hL
  exact lv_icmp_ge B.1 B.2.1 hd ht (fun h => kt ((pz_le2 b a).mp h) p e s m args below meth c B n0 H locs ls h1 h2 hR hS hL) (fun h => kf (fun h9 => h ((pz_le2 b a).mpr h9)) p e s m args below meth c B n0 H locs ls h1 h2 hR hS hL)
theorem go_icmp_gt {a b off : Int} {tgt : Nat} (hd : decode mt.2.1 pc = .ok (.if_icmp .gt off, 3)) (ht : (pc : Int) + off = (tgt : Int)) (kt : w32 b < w32 a → zGo l X d mt tgt L S n M out) (kf : ¬ w32 b < w32 a → zGo l X d mt (pc + 3) L S n M out) : zGo l X d mt pc L (zi b :: zi a :: S) n M out := by
  intro p e s m args below meth c B n0 H locs ls h1 h2 hR hS hL
  exact lv_icmp_gt B.1 B.2.1 hd ht (fun h => kt ((pz_lt2 b a).mp h) p e s m args below meth c B n0 H locs ls h1 h2 hR hS hL) (fun h => kf (fun h9 => h ((pz_lt2 b a).mpr h9)) p e s m args below meth c B n0 H locs ls h1 h2 hR hS hL)
theorem go_icmp_le {a b off : Int} {tgt : Nat} (hd : decode mt.2.1 pc = .ok (.if_icmp .le off, 3)) (ht : (pc : Int) + off = (tgt : Int)) (kt : w32 a ≤ w32 b → zGo l X d mt tgt L S n M out) (kf : ¬ w32 a ≤ w32 b → zGo l X d mt (pc + 3) L S n M out) : zGo l X d mt pc L (zi b :: zi a :: S) n M out := by
  intro p e s m args below meth c B n0 H locs ls h1 h2 hR hS hL
  exact lv_icmp_le B.1 B.2.1 hd ht (fun h => kt ((pz_le2 a b).mp h) p e s m args below meth c B n0 H locs ls h1 h2 hR hS hL) (fun h => kf (fun h9 => h ((pz_le2 a b).mpr h9)) p e s m args below meth c B n0 H locs ls h1 h2 hR hS hL)
theorem go_goto {off : Int} {tgt : Nat} (hd : decode mt.2.1 pc = .ok (.goto off, 3)) (ht : (pc : Int) + off = (tgt : Int)) (kk : zGo l X d mt tgt L S n M out) : zGo l X d mt pc L S n M out := by
  intro p e s m args below meth c B n0 H locs ls h1 h2 hR hS hL
  exact lv_goto B.1 B.2.1 hd ht (kk p e s m args below meth c B n0 H locs ls h1 h2 hR hS hL)
theorem go_tableOut {a dflt lo hi : Int} {offs : Array Int} {len tgt : Nat} (hd : decode mt.2.1 pc = .ok (.tableswitch dflt lo hi offs, len)) (h : w32 a < lo ∨ hi < w32 a) (ht : (pc : Int) + dflt = (tgt : Int)) (kk : zGo l X d mt tgt L S n M out) : zGo l X d mt pc L (zi a :: S) n M out := by
  intro p e s m args below meth c B n0 H locs ls h1 h2 hR hS hL
  exact lv_tableOut B.1 B.2.1 hd h ht (kk p e s m args below meth c B n0 H locs ls h1 h2 hR hS hL)
theorem go_tableIn {a dflt lo hi off : Int} {offs : Array Int} {len tgt : Nat} (hd : decode mt.2.1 pc = .ok (.tableswitch dflt lo hi offs, len)) (hl : ¬ w32 a < lo) (hh : ¬ hi < w32 a) (ho : offs[(w32 a - lo).toNat]? = some off) (ht : (pc : Int) + off = (tgt : Int)) (kk : zGo l X d mt tgt L S n M out) : zGo l X d mt pc L (zi a :: S) n M out := by
  intro p e s m args below meth c B n0 H locs ls h1 h2 hR hS hL
  exact lv_tableIn B.1 B.2.1 hd hl hh ho ht (kk p e s m args below meth c B n0 H locs ls h1 h2 hR hS hL)
theorem go_lookup {a dflt off : Int} {ps : Array (Int × Int)} {len tgt : Nat} (hd : decode mt.2.1 pc = .ok (.lookupswitch dflt ps, len)) (hp : (ps.toList.zip (ps.toList.drop 1)).all (fun (a, next) => a.1 < next.1) = true) (ho : Op.lookupswitch.offset ps.toList dflt (w32 a) = off) (ht : (pc : Int) + off = (tgt : Int)) (kk : zGo l X d mt tgt L S n M out) : zGo l X d mt pc L (zi a :: S) n M out := by
  intro p e s m args below meth c B n0 H locs ls h1 h2 hR hS hL
  exact lv_lookup B.1 B.2.1 hd hp ho ht (kk p e s m args below meth c B n0 H locs ls h1 h2 hR hS hL)
theorem go_iret {a : Int} (hd : decode mt.2.1 pc = .ok (.ireturn, 1)) (hr : mt.2.2.2.1 = some .int) : zGo l X d mt pc L [zi a] n M (some (zi a), n, M) := by
  intro p e s m args below meth c B n0 H locs ls h1 h2 hR hS hL
  refine pz_sz (fun hsz => ?_)
  have hR := pz_relOf h1 h2.2 hR B.2.2.2.2.2.2.2.1.2.1 hS hsz
  exact W.iret B.1 B.2.1 (B.2.2.1.trans hr) (fun t ht hW => ⟨⟨_, (), rfl, rfl, by subst ht; exact hR⟩, hS.F ht⟩) (fun q hq => hS.2.2 q hq) hd B.2.2.2.1
theorem go_zret {a : Int} (hd : decode mt.2.1 pc = .ok (.ireturn, 1)) (hr : mt.2.2.2.1 = some .boolean) (ha : a = 0 ∨ a = 1) : zGo l X d mt pc L [zi a] n M (some (zi a), n, M) := by
  intro p e s m args below meth c B n0 H locs ls h1 h2 hR hS hL
  refine pz_sz (fun hsz => ?_)
  have hR := pz_relOf h1 h2.2 hR B.2.2.2.2.2.2.2.1.2.1 hS hsz
  exact W.zret B.1 B.2.1 (B.2.2.1.trans hr) (by rcases ha with rfl | rfl <;> rfl) (fun t ht hW => ⟨⟨_, (), rfl, rfl, by subst ht; exact hR⟩, hS.F ht⟩) (fun q hq => hS.2.2 q hq) hd B.2.2.2.1
theorem go_lret {a : Int} (hd : decode mt.2.1 pc = .ok (.lreturn, 1)) (hr : mt.2.2.2.1 = some .long) : zGo l X d mt pc L [zl a] n M (some (zl a), n, M) := by
  intro p e s m args below meth c B n0 H locs ls h1 h2 hR hS hL
  refine pz_sz (fun hsz => ?_)
  have hR := pz_relOf h1 h2.2 hR B.2.2.2.2.2.2.2.1.2.1 hS hsz
  exact W.lret B.1 B.2.1 (B.2.2.1.trans hr) (fun t ht hW => ⟨⟨_, (), rfl, rfl, by subst ht; exact hR⟩, hS.F ht⟩) (fun q hq => hS.2.2 q hq) hd B.2.2.2.1
theorem go_vret (hd : decode mt.2.1 pc = .ok (.return_, 1)) (hr : mt.2.2.2.1 = none) : zGo l X d mt pc L [] n M (none, n, M) := by
  intro p e s m args below meth c B n0 H locs ls h1 h2 hR hS hL
  refine pz_sz (fun hsz => ?_)
  have hR := pz_relOf h1 h2.2 hR B.2.2.2.2.2.2.2.1.2.1 hS hsz
  exact W.vret B.1 B.2.1 (B.2.2.1.trans hr) (fun t ht hW => ⟨⟨(), rfl, trivial, by subst ht; exact hR⟩, hS.F ht⟩) (fun q hq => hS.2.2 q hq) hd B.2.2.2.1
end ZA
