/-! POINTS OF A BODY WITH ANY END (all cells made): the same rules once more -/
def zX (l : Launch) (X : ZX) (mt : ZT) (p : Program) (e : Env) (R : Room) (s : State) (m : MethodId) (args : Array Value) (below : List Frame) (meth : Method) (c0 : Code) (Q : State → Prop) (k1 k2 : Nat) (pc : Nat) (L : List (Option ZV)) (S : List ZV) (M : ZM) : Prop :=
  ∀ (H : Heap) (locs : List Loc) (ls : Array Slot), va_P X.2.1 vwCl (pz_ws X 139 M) H → va_S (pz_A X) s.heap H locs → pz_L X ls mt.2.2.1 L → W p l e R s m args below meth c0 H locs k1 k2 Q (F0 m pc ls (S.map (pz_val X)))
section XR
variable {l : Launch} {X : ZX} {mt : ZT} {p : Program} {e : Env} {R : Room} {s : State} {m : MethodId} {args : Array Value} {below : List Frame} {meth : Method} {c0 : Code} {Q : State → Prop} {k1 k2 : Nat} {pc : Nat} {L : List (Option ZV)} {S : List ZV} {M : ZM}
theorem xg_iconst (B : pz_bd X mt p s m args meth c0) {v : Int} (hd : decode mt.2.1 pc = .ok (.iconst v, 1)) (kk : zX l X mt p e R s m args below meth c0 Q k1 k2 (pc + 1) L (zi v :: S) M) : zX l X mt p e R s m args below meth c0 Q k1 k2 pc L S M := by
  intro H locs ls hR hS hL
  exact lv_iconst B.1 B.2.1 hd rfl (kk H locs ls hR hS hL)
theorem xg_bipush (B : pz_bd X mt p s m args meth c0) {v : Int} (hd : decode mt.2.1 pc = .ok (.bipush v, 2)) (hv : (Int8.ofInt v).toInt32 = Int32.ofInt v) (kk : zX l X mt p e R s m args below meth c0 Q k1 k2 (pc + 2) L (zi v :: S) M) : zX l X mt p e R s m args below meth c0 Q k1 k2 pc L S M := by
  intro H locs ls hR hS hL
  exact lv_bipush B.1 B.2.1 hd hv (kk H locs ls hR hS hL)
theorem xg_sipush (B : pz_bd X mt p s m args meth c0) {v : Int} (hd : decode mt.2.1 pc = .ok (.sipush v, 3)) (hv : (Int16.ofInt v).toInt32 = Int32.ofInt v) (kk : zX l X mt p e R s m args below meth c0 Q k1 k2 (pc + 3) L (zi v :: S) M) : zX l X mt p e R s m args below meth c0 Q k1 k2 pc L S M := by
  intro H locs ls hR hS hL
  exact lv_sipush B.1 B.2.1 hd hv (kk H locs ls hR hS hL)
theorem xg_iload_n (B : pz_bd X mt p s m args meth c0) {k : Fin 4} {i : Nat} {a : Int} (hd : decode mt.2.1 pc = .ok (.iload_n k, 1)) (hi : (k : Nat) = i) (hl : L[i]? = some (some (zi a))) (kk : zX l X mt p e R s m args below meth c0 Q k1 k2 (pc + 1) L (zi a :: S) M) : zX l X mt p e R s m args below meth c0 Q k1 k2 pc L S M := by
  intro H locs ls hR hS hL
  exact lv_iload_n B.1 B.2.1 hd hi (hL.2.2.2 _ _ hl) (kk H locs ls hR hS hL)
theorem xg_iload (B : pz_bd X mt p s m args meth c0) {i : Nat} {a : Int} (hd : decode mt.2.1 pc = .ok (.iload i, 2)) (hl : L[i]? = some (some (zi a))) (kk : zX l X mt p e R s m args below meth c0 Q k1 k2 (pc + 2) L (zi a :: S) M) : zX l X mt p e R s m args below meth c0 Q k1 k2 pc L S M := by
  intro H locs ls hR hS hL
  exact lv_iload B.1 B.2.1 hd (hL.2.2.2 _ _ hl) (kk H locs ls hR hS hL)
theorem xg_aload_n (B : pz_bd X mt p s m args meth c0) {k : Fin 4} {i : Nat} {a : Int} (hd : decode mt.2.1 pc = .ok (.aload_n k, 1)) (hi : (k : Nat) = i) (hl : L[i]? = some (some (zr a))) (h0 : 0 ≤ a) (kk : zX l X mt p e R s m args below meth c0 Q k1 k2 (pc + 1) L (zr a :: S) M) : zX l X mt p e R s m args below meth c0 Q k1 k2 pc L S M := by
  intro H locs ls hR hS hL
  have hv := hL.2.2.2 _ _ hl
  rw [pz_val_r X h0] at hv
  refine lv_aload_n B.1 B.2.1 hd hi hv ?_
  have := kk H locs ls hR hS hL
  rw [List.map_cons, pz_val_r X h0] at this
  exact this
theorem xg_aload (B : pz_bd X mt p s m args meth c0) {i : Nat} {a : Int} (hd : decode mt.2.1 pc = .ok (.aload i, 2)) (hl : L[i]? = some (some (zr a))) (h0 : 0 ≤ a) (kk : zX l X mt p e R s m args below meth c0 Q k1 k2 (pc + 2) L (zr a :: S) M) : zX l X mt p e R s m args below meth c0 Q k1 k2 pc L S M := by
  intro H locs ls hR hS hL
  have hv := hL.2.2.2 _ _ hl
  rw [pz_val_r X h0] at hv
  refine lv_aload B.1 B.2.1 hd hv ?_
  have := kk H locs ls hR hS hL
  rw [List.map_cons, pz_val_r X h0] at this
  exact this
theorem xg_istore_n (B : pz_bd X mt p s m args meth c0) {k : Fin 4} {i : Nat} {a : Int} (hd : decode mt.2.1 pc = .ok (.istore_n k, 1)) (hi : (k : Nat) = i) (hlt : i < L.length) (hok : pz_okb L i = true) (kk : zX l X mt p e R s m args below meth c0 Q k1 k2 (pc + 1) (L.set i (some (zi a))) S M) : zX l X mt p e R s m args below meth c0 Q k1 k2 pc L (zi a :: S) M := by
  intro H locs ls hR hS hL
  exact lv_istore_n B.1 B.2.1 hd hi hL.has (pz_lt hL hlt) rfl (fun ls' hl' => kk H locs ls' hR hS (hL.set1 (v := zi a) hok hl'))
theorem xg_istore (B : pz_bd X mt p s m args meth c0) {i : Nat} {a : Int} (hd : decode mt.2.1 pc = .ok (.istore i, 2)) (hlt : i < L.length) (hok : pz_okb L i = true) (kk : zX l X mt p e R s m args below meth c0 Q k1 k2 (pc + 2) (L.set i (some (zi a))) S M) : zX l X mt p e R s m args below meth c0 Q k1 k2 pc L (zi a :: S) M := by
  intro H locs ls hR hS hL
  exact lv_istore B.1 B.2.1 hd hL.has (pz_lt hL hlt) rfl (fun ls' hl' => kk H locs ls' hR hS (hL.set1 (v := zi a) hok hl'))
theorem xg_astore_n (B : pz_bd X mt p s m args meth c0) {k : Fin 4} {i : Nat} {a : Int} (hd : decode mt.2.1 pc = .ok (.astore_n k, 1)) (hi : (k : Nat) = i) (hlt : i < L.length) (hok : pz_okb L i = true) (h0 : 0 ≤ a) (kk : zX l X mt p e R s m args below meth c0 Q k1 k2 (pc + 1) (L.set i (some (zr a))) S M) : zX l X mt p e R s m args below meth c0 Q k1 k2 pc L (zr a :: S) M := by
  intro H locs ls hR hS hL
  rw [List.map_cons, pz_val_r X h0]
  refine lv_astore_n B.1 B.2.1 hd hi hL.has (pz_lt hL hlt) rfl (fun ls' hl' => kk H locs ls' hR hS (hL.set1 (v := zr a) hok ?_))
  rw [pz_val_r X h0]
  exact hl'
theorem xg_iinc (B : pz_bd X mt p s m args meth c0) {i : Nat} {v a : Int} (hd : decode mt.2.1 pc = .ok (.iinc i v, 3)) (hl : L[i]? = some (some (zi a))) (hok : pz_okb L i = true) (kk : zX l X mt p e R s m args below meth c0 Q k1 k2 (pc + 3) (L.set i (some (zi (a + v)))) S M) : zX l X mt p e R s m args below meth c0 Q k1 k2 pc L S M := by
  intro H locs ls hR hS hL
  have hm : (i, pz_val X (zi a)) ∈ pz_prs X L := pz_prs_mem.mpr ⟨zi a, hl, rfl⟩
  obtain ⟨k, hk⟩ := List.getElem?_of_mem hm
  exact lv_iinc (v := Int32.ofInt (a + v)) B.1 B.2.1 hd hL.has hk (Int32.ofInt_add a v).symm (pz_lt hL (List.getElem?_eq_some_iff.mp hl).1) rfl (fun ls' hl' => kk H locs ls' hR hS (hL.set1 (v := zi (a + v)) hok hl'))
theorem xg_iadd (B : pz_bd X mt p s m args meth c0) {a b : Int} (hd : decode mt.2.1 pc = .ok (.iadd, 1)) (kk : zX l X mt p e R s m args below meth c0 Q k1 k2 (pc + 1) L (zi (a + b) :: S) M) : zX l X mt p e R s m args below meth c0 Q k1 k2 pc L (zi b :: zi a :: S) M := by
  intro H locs ls hR hS hL
  refine lv_iadd B.1 B.2.1 hd ?_
  have h := kk H locs ls hR hS hL
  rw [List.map_cons, show pz_val X (zi (a + b)) = .int _ from congrArg Value.int (Int32.ofInt_add a b)] at h
  exact h
theorem xg_isub (B : pz_bd X mt p s m args meth c0) {a b : Int} (hd : decode mt.2.1 pc = .ok (.isub, 1)) (kk : zX l X mt p e R s m args below meth c0 Q k1 k2 (pc + 1) L (zi (a - b) :: S) M) : zX l X mt p e R s m args below meth c0 Q k1 k2 pc L (zi b :: zi a :: S) M := by
  intro H locs ls hR hS hL
  refine lv_isub B.1 B.2.1 hd ?_
  have h := kk H locs ls hR hS hL
  rw [List.map_cons, show pz_val X (zi (a - b)) = .int _ from congrArg Value.int (Int32.ofInt_sub a b)] at h
  exact h
theorem xg_iand (B : pz_bd X mt p s m args meth c0) {a b : Int} (hd : decode mt.2.1 pc = .ok (.iand, 1)) (kk : zX l X mt p e R s m args below meth c0 Q k1 k2 (pc + 1) L (zi (z_iand a b) :: S) M) : zX l X mt p e R s m args below meth c0 Q k1 k2 pc L (zi b :: zi a :: S) M := by
  intro H locs ls hR hS hL
  refine lv_iand B.1 B.2.1 hd ?_
  have h := kk H locs ls hR hS hL
  rw [List.map_cons, show pz_val X (zi (z_iand a b)) = .int _ from congrArg Value.int (Int32.ofInt_toInt _)] at h
  exact h
theorem xg_lcmp (B : pz_bd X mt p s m args meth c0) {a b : Int} (hd : decode mt.2.1 pc = .ok (.lcmp, 1)) (kk : zX l X mt p e R s m args below meth c0 Q k1 k2 (pc + 1) L (zi (z_lcmp a b) :: S) M) : zX l X mt p e R s m args below meth c0 Q k1 k2 pc L (zl b :: zl a :: S) M := by
  intro H locs ls hR hS hL
  refine W.lcmp B.1 B.2.1 hd ?_
  have h := kk H locs ls hR hS hL
  rw [List.map_cons, show pz_val X (zi (z_lcmp a b)) = .int _ from congrArg Value.int (pz_lcmp a b)] at h
  exact h
theorem xg_i2l (B : pz_bd X mt p s m args meth c0) {a : Int} (hd : decode mt.2.1 pc = .ok (.i2l, 1)) (kk : zX l X mt p e R s m args below meth c0 Q k1 k2 (pc + 1) L (zl (w32 a) :: S) M) : zX l X mt p e R s m args below meth c0 Q k1 k2 pc L (zi a :: S) M := by
  intro H locs ls hR hS hL
  exact lv_i2l B.1 B.2.1 hd (pz_i2l a) (kk H locs ls hR hS hL)
theorem xg_if_eq (B : pz_bd X mt p s m args meth c0) {a off : Int} {tgt : Nat} (hd : decode mt.2.1 pc = .ok (.ifCond .eq off, 3)) (ht : (pc : Int) + off = (tgt : Int)) (kt : w32 a = 0 → zX l X mt p e R s m args below meth c0 Q k1 k2 tgt L S M) (kf : ¬ w32 a = 0 → zX l X mt p e R s m args below meth c0 Q k1 k2 (pc + 3) L S M) : zX l X mt p e R s m args below meth c0 Q k1 k2 pc L (zi a :: S) M := by
  intro H locs ls hR hS hL
  exact lv_if_eq B.1 B.2.1 hd ht (fun h => kt ((pz_eq0 a).mp h) H locs ls hR hS hL) (fun h => kf (fun h9 => h ((pz_eq0 a).mpr h9)) H locs ls hR hS hL)
theorem xg_if_ne (B : pz_bd X mt p s m args meth c0) {a off : Int} {tgt : Nat} (hd : decode mt.2.1 pc = .ok (.ifCond .ne off, 3)) (ht : (pc : Int) + off = (tgt : Int)) (kt : ¬ w32 a = 0 → zX l X mt p e R s m args below meth c0 Q k1 k2 tgt L S M) (kf : w32 a = 0 → zX l X mt p e R s m args below meth c0 Q k1 k2 (pc + 3) L S M) : zX l X mt p e R s m args below meth c0 Q k1 k2 pc L (zi a :: S) M := by
  intro H locs ls hR hS hL
  exact lv_if_ne B.1 B.2.1 hd ht (fun h => kt (fun h9 => h ((pz_eq0 a).mpr h9)) H locs ls hR hS hL) (fun h => kf ((pz_eq0 a).mp h) H locs ls hR hS hL)
theorem xg_if_lt (B : pz_bd X mt p s m args meth c0) {a off : Int} {tgt : Nat} (hd : decode mt.2.1 pc = .ok (.ifCond .lt off, 3)) (ht : (pc : Int) + off = (tgt : Int)) (kt : w32 a < 0 → zX l X mt p e R s m args below meth c0 Q k1 k2 tgt L S M) (kf : ¬ w32 a < 0 → zX l X mt p e R s m args below meth c0 Q k1 k2 (pc + 3) L S M) : zX l X mt p e R s m args below meth c0 Q k1 k2 pc L (zi a :: S) M := by
  intro H locs ls hR hS hL
  exact lv_if_lt B.1 B.2.1 hd ht (fun h => kt ((pz_lt0 a).mp h) H locs ls hR hS hL) (fun h => kf (fun h9 => h ((pz_lt0 a).mpr h9)) H locs ls hR hS hL)
theorem xg_if_ge (B : pz_bd X mt p s m args meth c0) {a off : Int} {tgt : Nat} (hd : decode mt.2.1 pc = .ok (.ifCond .ge off, 3)) (ht : (pc : Int) + off = (tgt : Int)) (kt : 0 ≤ w32 a → zX l X mt p e R s m args below meth c0 Q k1 k2 tgt L S M) (kf : ¬ 0 ≤ w32 a → zX l X mt p e R s m args below meth c0 Q k1 k2 (pc + 3) L S M) : zX l X mt p e R s m args below meth c0 Q k1 k2 pc L (zi a :: S) M := by
  intro H locs ls hR hS hL
  exact lv_if_ge B.1 B.2.1 hd ht (fun h => kt ((pz_ge0 a).mp h) H locs ls hR hS hL) (fun h => kf (fun h9 => h ((pz_ge0 a).mpr h9)) H locs ls hR hS hL)
theorem xg_if_gt (B : pz_bd X mt p s m args meth c0) {a off : Int} {tgt : Nat} (hd : decode mt.2.1 pc = .ok (.ifCond .gt off, 3)) (ht : (pc : Int) + off = (tgt : Int)) (kt : 0 < w32 a → zX l X mt p e R s m args below meth c0 Q k1 k2 tgt L S M) (kf : ¬ 0 < w32 a → zX l X mt p e R s m args below meth c0 Q k1 k2 (pc + 3) L S M) : zX l X mt p e R s m args below meth c0 Q k1 k2 pc L (zi a :: S) M := by
  intro H locs ls hR hS hL
  exact lv_if_gt B.1 B.2.1 hd ht (fun h => kt ((pz_gt0 a).mp h) H locs ls hR hS hL) (fun h => kf (fun h9 => h ((pz_gt0 a).mpr h9)) H locs ls hR hS hL)
theorem xg_if_le (B : pz_bd X mt p s m args meth c0) {a off : Int} {tgt : Nat} (hd : decode mt.2.1 pc = .ok (.ifCond .le off, 3)) (ht : (pc : Int) + off = (tgt : Int)) (kt : w32 a ≤ 0 → zX l X mt p e R s m args below meth c0 Q k1 k2 tgt L S M) (kf : ¬ w32 a ≤ 0 → zX l X mt p e R s m args below meth c0 Q k1 k2 (pc + 3) L S M) : zX l X mt p e R s m args below meth c0 Q k1 k2 pc L (zi a :: S) M := by
  intro H locs ls hR hS hL
  exact lv_if_le B.1 B.2.1 hd ht (fun h => kt ((pz_le0 a).mp h) H locs ls hR hS hL) (fun h => kf (fun h9 => h ((pz_le0 a).mpr h9)) H locs ls hR hS hL)
theorem xg_icmp_eq (B : pz_bd X mt p s m args meth c0) {a b off : Int} {tgt : Nat} (hd : decode mt.2.1 pc = .ok (.if_icmp .eq off, 3)) (ht : (pc : Int) + off = (tgt : Int)) (kt : w32 a = w32 b → zX l X mt p e R s m args below meth c0 Q k1 k2 tgt L S M) (kf : ¬ w32 a = w32 b → zX l X mt p e R s m args below meth c0 Q k1 k2 (pc + 3) L S M) : zX l X mt p e R s m args below meth c0 Q k1 k2 pc L (zi b :: zi a :: S) M := by
  intro H locs ls hR hS hL
  exact lv_icmp_eq B.1 B.2.1 hd ht (fun h => kt ((pz_eq2 a b).mp h) H locs ls hR hS hL) (fun h => kf (fun h9 => h ((pz_eq2 a b).mpr h9)) H locs ls hR hS hL)
theorem xg_icmp_ne (B : pz_bd X mt p s m args meth c0) {a b off : Int} {tgt : Nat} (hd : decode mt.2.1 pc = .ok (.if_icmp .ne off, 3)) (ht : (pc : Int) + off = (tgt : Int)) (kt : ¬ w32 a = w32 b → zX l X mt p e R s m args below meth c0 Q k1 k2 tgt L S M) (kf : w32 a = w32 b → zX l X mt p e R s m args below meth c0 Q k1 k2 (pc + 3) L S M) : zX l X mt p e R s m args below meth c0 Q k1 k2 pc L (zi b :: zi a :: S) M := by
  intro H locs ls hR hS hL
  exact lv_icmp_ne B.1 B.2.1 hd ht (fun h => kt (fun h9 => h ((pz_eq2 a b).mpr h9)) H locs ls hR hS hL) (fun h => kf ((pz_eq2 a b).mp h) H locs ls hR hS hL)
theorem xg_icmp_lt (B : pz_bd X mt p s m args meth c0) {a b off : Int} {tgt : Nat} (hd : decode mt.2.1 pc = .ok (.if_icmp .lt off, 3)) (ht : (pc : Int) + off = (tgt : Int)) (kt : w32 a < w32 b → zX l X mt p e R s m args below meth c0 Q k1 k2 tgt L S M) (kf : ¬ w32 a < w32 b → zX l X mt p e R s m args below meth c0 Q k1 k2 (pc + 3) L S M) : zX l X mt p e R s m args below meth c0 Q k1 k2 pc L (zi b :: zi a :: S) M := by
  intro H locs ls hR hS hL
  exact lv_icmp_lt B.1 B.2.1 hd ht (fun h => kt ((pz_lt2 a b).mp h) H locs ls hR hS hL) (fun h => kf (fun h9 => h ((pz_lt2 a b).mpr h9)) H locs ls hR hS hL)
theorem xg_icmp_ge (B : pz_bd X mt p s m args meth c0) {a b off : Int} {tgt : Nat} (hd : decode mt.2.1 pc = .ok (.if_icmp .ge off, 3)) (ht : (pc : Int) + off = (tgt : Int)) (kt : w32 b ≤ w32 a → zX l X mt p e R s m args below meth c0 Q k1 k2 tgt L S M) (kf : ¬ w32 b ≤ w32 a → zX l X mt p e R s m args below meth c0 Q k1 k2 (pc + 3) L S M) : zX l X mt p e R s m args below meth c0 Q k1 k2 pc L (zi b :: zi a :: S) M := by
  intro H locs ls hR hS hL
  exact lv_icmp_ge B.1 B.2.1 hd ht (fun h => kt ((pz_le2 b a).mp h) H locs ls hR hS hL) (fun h => kf (fun h9 => h ((pz_le2 b a).mpr h9)) H locs ls hR hS hL)
theorem xg_icmp_gt (B : pz_bd X mt p s m args meth c0) {a b off : Int} {tgt : Nat} (hd : decode mt.2.1 pc = .ok (.if_icmp .gt off, 3)) (ht : (pc : Int) + off = (tgt : Int)) (kt : w32 b < w32 a → zX l X mt p e R s m args below meth c0 Q k1 k2 tgt L S M) (kf : ¬ w32 b < w32 a → zX l X mt p e R s m args below meth c0 Q k1 k2 (pc + 3) L S M) : zX l X mt p e R s m args below meth c0 Q k1 k2 pc L (zi b :: zi a :: S) M := by
  intro H locs ls hR hS hL
  exact lv_icmp_gt B.1 B.2.1 hd ht (fun h => kt ((pz_lt2 b a).mp h) H locs ls hR hS hL) (fun h => kf (fun h9 => h ((pz_lt2 b a).mpr h9)) H locs ls hR hS hL)
theorem xg_icmp_le (B : pz_bd X mt p s m args meth c0) {a b off : Int} {tgt : Nat} (hd : decode mt.2.1 pc = .ok (.if_icmp .le off, 3)) (ht : (pc : Int) + off = (tgt : Int)) (kt : w32 a ≤ w32 b → zX l X mt p e R s m args below meth c0 Q k1 k2 tgt L S M) (kf : ¬ w32 a ≤ w32 b → zX l X mt p e R s m args below meth c0 Q k1 k2 (pc + 3) L S M) : zX l X mt p e R s m args below meth c0 Q k1 k2 pc L (zi b :: zi a :: S) M := by
  intro H locs ls hR hS hL
  exact lv_icmp_le B.1 B.2.1 hd ht (fun h => kt ((pz_le2 a b).mp h) H locs ls hR hS hL) (fun h => kf (fun h9 => h ((pz_le2 a b).mpr h9)) H locs ls hR hS hL)
theorem xg_goto (B : pz_bd X mt p s m args meth c0) {off : Int} {tgt : Nat} (hd : decode mt.2.1 pc = .ok (.goto off, 3)) (ht : (pc : Int) + off = (tgt : Int)) (kk : zX l X mt p e R s m args below meth c0 Q k1 k2 tgt L S M) : zX l X mt p e R s m args below meth c0 Q k1 k2 pc L S M := by
  intro H locs ls hR hS hL
  exact lv_goto B.1 B.2.1 hd ht (kk H locs ls hR hS hL)
theorem xg_tableOut (B : pz_bd X mt p s m args meth c0) {a dflt lo hi : Int} {offs : Array Int} {len tgt : Nat} (hd : decode mt.2.1 pc = .ok (.tableswitch dflt lo hi offs, len)) (h : w32 a < lo ∨ hi < w32 a) (ht : (pc : Int) + dflt = (tgt : Int)) (kk : zX l X mt p e R s m args below meth c0 Q k1 k2 tgt L S M) : zX l X mt p e R s m args below meth c0 Q k1 k2 pc L (zi a :: S) M := by
  intro H locs ls hR hS hL
  exact lv_tableOut B.1 B.2.1 hd h ht (kk H locs ls hR hS hL)
theorem xg_tableIn (B : pz_bd X mt p s m args meth c0) {a dflt lo hi off : Int} {offs : Array Int} {len tgt : Nat} (hd : decode mt.2.1 pc = .ok (.tableswitch dflt lo hi offs, len)) (hl : ¬ w32 a < lo) (hh : ¬ hi < w32 a) (ho : offs[(w32 a - lo).toNat]? = some off) (ht : (pc : Int) + off = (tgt : Int)) (kk : zX l X mt p e R s m args below meth c0 Q k1 k2 tgt L S M) : zX l X mt p e R s m args below meth c0 Q k1 k2 pc L (zi a :: S) M := by
  intro H locs ls hR hS hL
  exact lv_tableIn B.1 B.2.1 hd hl hh ho ht (kk H locs ls hR hS hL)
theorem xg_dup (B : pz_bd X mt p s m args meth c0) {v : ZV} (hd : decode mt.2.1 pc = .ok (.dup, 1)) (hv : ∀ z, v ≠ zl z) (kk : zX l X mt p e R s m args below meth c0 Q k1 k2 (pc + 1) L (v :: v :: S) M) : zX l X mt p e R s m args below meth c0 Q k1 k2 pc L (v :: S) M := by
  intro H locs ls hR hS hL
  exact lv_dup B.1 B.2.1 hd (pz_cat1 X v hv) (kk H locs ls hR hS hL)
theorem xg_get (B : pz_bd X mt p s m args meth c0) {z : Int} {ci k t N idx : Nat} {C : String} {T : u_T} (c : Nat) (hz : z = (c : Int)) (hd : decode mt.2.1 pc = .ok (.getfield idx, 3)) (hc : zTT[c]? = some (.inl ci)) (hn : c < 139) (hcl : vwCl[ci]? = some (C, T, N)) (hin : ∀ w ∈ u_ws C T N, w ∈ lwg) (hk : k < N) (hlk : Cond.fieldLink mt.1 idx C (T k).2.1 (T k).2.2.1 ∈ lwg) (hT : (T k).1 = C) (ht : (zft.getD ci [])[k]? = some t) (kk : zX l X mt p e R s m args below meth c0 Q k1 k2 (pc + 3) L (pz_tag t (M c k) :: S) M) : zX l X mt p e R s m args below meth c0 Q k1 k2 pc L (zr z :: S) M := by
  intro H locs ls hR hS hL
  subst hz
  rw [List.map_cons, pz_val_c X hc]
  have he := pz_ws_get X M hn
  rw [pz_cell_o X M hc] at he
  have hv : (pz_fvs X (zft.getD ci []) 0 (M c))[k]? = some (pz_val X (pz_tag t (M c k))) := by rw [pz_fvs_get, ht, Option.map_some, Nat.zero_add]
  exact va_get B.1 B.2.1 B.2.2.2.2.2.2.1 hin B.2.2.2.2.2.1 B.2.2.2.2.2.2.2.1.1 hR c he hcl k hk (B.2.2.2.2.2.2.1 _ hlk) (by rw [hT]; exact fun _ h => h) hv hd (kk H locs ls hR hS hL)
theorem xg_lald (B : pz_bd X mt p s m args meth c0) {z i : Int} {len : Nat} (c : Nat) (hz : z = (c : Int)) (hd : decode mt.2.1 pc = .ok (.laload, 1)) (hc : zTT[c]? = some (.inr (2, len))) (hn : c < 139) (hi0 : 0 ≤ i) (hi1 : i < (len : Int)) (kk : zX l X mt p e R s m args below meth c0 Q k1 k2 (pc + 1) L (zl (M c i.toNat) :: S) M) : zX l X mt p e R s m args below meth c0 Q k1 k2 pc L (zi i :: zr z :: S) M := by
  intro H locs ls hR hS hL
  subst hz
  rw [List.map_cons, List.map_cons, pz_val_c X hc]
  have he := pz_ws_get X M hn
  rw [pz_cell_a X M hc] at he
  have hl := pz_TTlen hc
  refine va_lald B.1 B.2.1 B.2.2.2.2.2.2.2.1.1 hR c 2 he rfl (pz_in hi0 hi1 hl) hd ?_
  rw [pz_clamp hi0 (by omega)]
  exact kk H locs ls hR hS hL
theorem xg_last (B : pz_bd X mt p s m args meth c0) {z i v : Int} {len : Nat} (c : Nat) (hz : z = (c : Int)) (hd : decode mt.2.1 pc = .ok (.lastore, 1)) (hc : zTT[c]? = some (.inr (2, len))) (hn : c < 139) (hi0 : 0 ≤ i) (hi1 : i < (len : Int)) (kk : zX l X mt p e R s m args below meth c0 Q k1 k2 (pc + 1) L S (zset M c i.toNat v)) : zX l X mt p e R s m args below meth c0 Q k1 k2 pc L (zl v :: zi i :: zr z :: S) M := by
  intro H locs ls hR hS hL
  subst hz
  rw [List.map_cons, List.map_cons, List.map_cons, pz_val_c X hc]
  have he := pz_ws_get X M hn
  rw [pz_cell_a X M hc] at he
  have hl := pz_TTlen hc
  refine va_last B.1 B.2.1 B.2.2.2.2.2.2.2.1.1 hR (pz_D X 139 M) hS c 2 he rfl (pz_in hi0 hi1 hl) hd (fun H1 locs1 hP1 hD1 hS1 => ?_)
  rw [pz_clamp hi0 (by omega), pz_ws_set X hn (M' := zset M c i.toNat v) (fun a ha => zset_ne M ha) (by
    rw [pz_cell_a X _ hc, zset_row]
    show _ = Sum.inl (X.2.2.1 2, len, Sum.inr (Sum.inl (fun k => Int64.ofInt (if k = i.toNat then v else M c k))))
    congr 5
    funext k
    unfold vp_updL
    split <;> rfl)] at hP1
  exact kk H1 locs1 ls hP1 hS1 hL
theorem x_iconst (B : pz_bd X mt p s m args meth c0) {v : Int} (q : Nat) (hd : decode mt.2.1 pc = .ok (.iconst v, 1)) (kk : zX l X mt p e R s m args below meth c0 Q k1 k2 q L (zi v :: S) M) (hq : pc + 1 = q := by rfl) : zX l X mt p e R s m args below meth c0 Q k1 k2 pc L S M := by
  subst hq
  have g := kk
  exact xg_iconst B hd g
theorem x_bipush (B : pz_bd X mt p s m args meth c0) {v : Int} (q : Nat) (hd : decode mt.2.1 pc = .ok (.bipush v, 2)) (hv : (Int8.ofInt v).toInt32 = Int32.ofInt v) (kk : zX l X mt p e R s m args below meth c0 Q k1 k2 q L (zi v :: S) M) (hq : pc + 2 = q := by rfl) : zX l X mt p e R s m args below meth c0 Q k1 k2 pc L S M := by
  subst hq
  have g := kk
  exact xg_bipush B hd hv g
theorem x_sipush (B : pz_bd X mt p s m args meth c0) {v : Int} (q : Nat) (hd : decode mt.2.1 pc = .ok (.sipush v, 3)) (hv : (Int16.ofInt v).toInt32 = Int32.ofInt v) (kk : zX l X mt p e R s m args below meth c0 Q k1 k2 q L (zi v :: S) M) (hq : pc + 3 = q := by rfl) : zX l X mt p e R s m args below meth c0 Q k1 k2 pc L S M := by
  subst hq
  have g := kk
  exact xg_sipush B hd hv g
theorem x_iload_n (B : pz_bd X mt p s m args meth c0) {k : Fin 4} {i : Nat} {a : Int} (q : Nat) (hd : decode mt.2.1 pc = .ok (.iload_n k, 1)) (hi : (k : Nat) = i) (hl : L[i]? = some (some (zi a))) (kk : zX l X mt p e R s m args below meth c0 Q k1 k2 q L (zi a :: S) M) (hq : pc + 1 = q := by rfl) : zX l X mt p e R s m args below meth c0 Q k1 k2 pc L S M := by
  subst hq
  have g := kk
  exact xg_iload_n B hd hi hl g
theorem x_iload (B : pz_bd X mt p s m args meth c0) {i : Nat} {a : Int} (q : Nat) (hd : decode mt.2.1 pc = .ok (.iload i, 2)) (hl : L[i]? = some (some (zi a))) (kk : zX l X mt p e R s m args below meth c0 Q k1 k2 q L (zi a :: S) M) (hq : pc + 2 = q := by rfl) : zX l X mt p e R s m args below meth c0 Q k1 k2 pc L S M := by
  subst hq
  have g := kk
  exact xg_iload B hd hl g
theorem x_aload_n (B : pz_bd X mt p s m args meth c0) {k : Fin 4} {i : Nat} {a : Int} (q : Nat) (hd : decode mt.2.1 pc = .ok (.aload_n k, 1)) (hi : (k : Nat) = i) (hl : L[i]? = some (some (zr a))) (h0 : 0 ≤ a) (kk : zX l X mt p e R s m args below meth c0 Q k1 k2 q L (zr a :: S) M) (hq : pc + 1 = q := by rfl) : zX l X mt p e R s m args below meth c0 Q k1 k2 pc L S M := by
  subst hq
  have g := kk
  exact xg_aload_n B hd hi hl h0 g
theorem x_aload (B : pz_bd X mt p s m args meth c0) {i : Nat} {a : Int} (q : Nat) (hd : decode mt.2.1 pc = .ok (.aload i, 2)) (hl : L[i]? = some (some (zr a))) (h0 : 0 ≤ a) (kk : zX l X mt p e R s m args below meth c0 Q k1 k2 q L (zr a :: S) M) (hq : pc + 2 = q := by rfl) : zX l X mt p e R s m args below meth c0 Q k1 k2 pc L S M := by
  subst hq
  have g := kk
  exact xg_aload B hd hl h0 g
theorem x_istore_n (B : pz_bd X mt p s m args meth c0) {k : Fin 4} {i : Nat} {a : Int} {L' : List (Option ZV)} (q : Nat) (hd : decode mt.2.1 pc = .ok (.istore_n k, 1)) (hi : (k : Nat) = i) (hlt : i < L.length) (hok : pz_okb L i = true) (hL : L.set i (some (zi a)) = L') (kk : zX l X mt p e R s m args below meth c0 Q k1 k2 q L' S M) (hq : pc + 1 = q := by rfl) : zX l X mt p e R s m args below meth c0 Q k1 k2 pc L (zi a :: S) M := by
  subst hq
  have g := kk
  exact xg_istore_n B hd hi hlt hok (by rw [hL]; exact g)
theorem x_istore (B : pz_bd X mt p s m args meth c0) {i : Nat} {a : Int} {L' : List (Option ZV)} (q : Nat) (hd : decode mt.2.1 pc = .ok (.istore i, 2)) (hlt : i < L.length) (hok : pz_okb L i = true) (hL : L.set i (some (zi a)) = L') (kk : zX l X mt p e R s m args below meth c0 Q k1 k2 q L' S M) (hq : pc + 2 = q := by rfl) : zX l X mt p e R s m args below meth c0 Q k1 k2 pc L (zi a :: S) M := by
  subst hq
  have g := kk
  exact xg_istore B hd hlt hok (by rw [hL]; exact g)
theorem x_astore_n (B : pz_bd X mt p s m args meth c0) {k : Fin 4} {i : Nat} {a : Int} {L' : List (Option ZV)} (q : Nat) (hd : decode mt.2.1 pc = .ok (.astore_n k, 1)) (hi : (k : Nat) = i) (hlt : i < L.length) (hok : pz_okb L i = true) (h0 : 0 ≤ a) (hL : L.set i (some (zr a)) = L') (kk : zX l X mt p e R s m args below meth c0 Q k1 k2 q L' S M) (hq : pc + 1 = q := by rfl) : zX l X mt p e R s m args below meth c0 Q k1 k2 pc L (zr a :: S) M := by
  subst hq
  have g := kk
  exact xg_astore_n B hd hi hlt hok h0 (by rw [hL]; exact g)
theorem x_iinc (B : pz_bd X mt p s m args meth c0) {i : Nat} {v a : Int} {L' : List (Option ZV)} (q : Nat) (hd : decode mt.2.1 pc = .ok (.iinc i v, 3)) (hl : L[i]? = some (some (zi a))) (hok : pz_okb L i = true) (hL : L.set i (some (zi (a + v))) = L') (kk : zX l X mt p e R s m args below meth c0 Q k1 k2 q L' S M) (hq : pc + 3 = q := by rfl) : zX l X mt p e R s m args below meth c0 Q k1 k2 pc L S M := by
  subst hq
  have g := kk
  exact xg_iinc B hd hl hok (by rw [hL]; exact g)
theorem x_iadd (B : pz_bd X mt p s m args meth c0) {a b : Int} (q : Nat) (hd : decode mt.2.1 pc = .ok (.iadd, 1)) (kk : zX l X mt p e R s m args below meth c0 Q k1 k2 q L (zi (a + b) :: S) M) (hq : pc + 1 = q := by rfl) : zX l X mt p e R s m args below meth c0 Q k1 k2 pc L (zi b :: zi a :: S) M := by
  subst hq
  have g := kk
  exact xg_iadd B hd g
theorem x_isub (B : pz_bd X mt p s m args meth c0) {a b : Int} (q : Nat) (hd : decode mt.2.1 pc = .ok (.isub, 1)) (kk : zX l X mt p e R s m args below meth c0 Q k1 k2 q L (zi (a - b) :: S) M) (hq : pc + 1 = q := by rfl) : zX l X mt p e R s m args below meth c0 Q k1 k2 pc L (zi b :: zi a :: S) M := by
  subst hq
  have g := kk
  exact xg_isub B hd g
theorem x_iand (B : pz_bd X mt p s m args meth c0) {a b : Int} (q : Nat) (hd : decode mt.2.1 pc = .ok (.iand, 1)) (kk : zX l X mt p e R s m args below meth c0 Q k1 k2 q L (zi (z_iand a b) :: S) M) (hq : pc + 1 = q := by rfl) : zX l X mt p e R s m args below meth c0 Q k1 k2 pc L (zi b :: zi a :: S) M := by
  subst hq
  have g := kk
  exact xg_iand B hd g
theorem x_lcmp (B : pz_bd X mt p s m args meth c0) {a b : Int} (q : Nat) (hd : decode mt.2.1 pc = .ok (.lcmp, 1)) (kk : zX l X mt p e R s m args below meth c0 Q k1 k2 q L (zi (z_lcmp a b) :: S) M) (hq : pc + 1 = q := by rfl) : zX l X mt p e R s m args below meth c0 Q k1 k2 pc L (zl b :: zl a :: S) M := by
  subst hq
  have g := kk
  exact xg_lcmp B hd g
theorem x_i2l (B : pz_bd X mt p s m args meth c0) {a : Int} (q : Nat) (hd : decode mt.2.1 pc = .ok (.i2l, 1)) (kk : zX l X mt p e R s m args below meth c0 Q k1 k2 q L (zl (w32 a) :: S) M) (hq : pc + 1 = q := by rfl) : zX l X mt p e R s m args below meth c0 Q k1 k2 pc L (zi a :: S) M := by
  subst hq
  have g := kk
  exact xg_i2l B hd g
theorem x_dupR (B : pz_bd X mt p s m args meth c0) {a : Int} (q : Nat) (hd : decode mt.2.1 pc = .ok (.dup, 1)) (kk : zX l X mt p e R s m args below meth c0 Q k1 k2 q L (zr a :: zr a :: S) M) (hq : pc + 1 = q := by rfl) : zX l X mt p e R s m args below meth c0 Q k1 k2 pc L (zr a :: S) M := by
  subst hq
  have g := kk
  exact xg_dup B hd (fun z => by intro h9; cases h9) g
theorem x_if_eq (B : pz_bd X mt p s m args meth c0) {a off : Int} (tgt q : Nat) (hd : decode mt.2.1 pc = .ok (.ifCond .eq off, 3)) (ha1 : -2147483648 ≤ a) (ha2 : a < 2147483648) (kt : a = 0 → zX l X mt p e R s m args below meth c0 Q k1 k2 tgt L S M) (kf : ¬ a = 0 → zX l X mt p e R s m args below meth c0 Q k1 k2 q L S M) (ht : (pc : Int) + off = (tgt : Int) := by rfl) (hq : pc + 3 = q := by rfl) : zX l X mt p e R s m args below meth c0 Q k1 k2 pc L (zi a :: S) M := by
  subst hq
  have e : w32 a = a := w32_id ha1 ha2
  by_cases hc : a = 0
  · have g := kt hc
    exact xg_if_eq B hd ht (fun _ => g) (fun h9 => absurd (by rw [e] at h9; omega) (fun h8 : False => h8))
  · have g := kf hc
    exact xg_if_eq B hd ht (fun h9 => absurd (by rw [e] at h9; omega) (fun h8 : False => h8)) (fun _ => g)
theorem x_if_ne (B : pz_bd X mt p s m args meth c0) {a off : Int} (tgt q : Nat) (hd : decode mt.2.1 pc = .ok (.ifCond .ne off, 3)) (ha1 : -2147483648 ≤ a) (ha2 : a < 2147483648) (kt : a ≠ 0 → zX l X mt p e R s m args below meth c0 Q k1 k2 tgt L S M) (kf : ¬ a ≠ 0 → zX l X mt p e R s m args below meth c0 Q k1 k2 q L S M) (ht : (pc : Int) + off = (tgt : Int) := by rfl) (hq : pc + 3 = q := by rfl) : zX l X mt p e R s m args below meth c0 Q k1 k2 pc L (zi a :: S) M := by
  subst hq
  have e : w32 a = a := w32_id ha1 ha2
  by_cases hc : a ≠ 0
  · have g := kt hc
    exact xg_if_ne B hd ht (fun _ => g) (fun h9 => absurd (by rw [e] at h9; omega) (fun h8 : False => h8))
  · have g := kf hc
    exact xg_if_ne B hd ht (fun h9 => absurd (by rw [e] at h9; omega) (fun h8 : False => h8)) (fun _ => g)
theorem x_if_lt (B : pz_bd X mt p s m args meth c0) {a off : Int} (tgt q : Nat) (hd : decode mt.2.1 pc = .ok (.ifCond .lt off, 3)) (ha1 : -2147483648 ≤ a) (ha2 : a < 2147483648) (kt : a < 0 → zX l X mt p e R s m args below meth c0 Q k1 k2 tgt L S M) (kf : ¬ a < 0 → zX l X mt p e R s m args below meth c0 Q k1 k2 q L S M) (ht : (pc : Int) + off = (tgt : Int) := by rfl) (hq : pc + 3 = q := by rfl) : zX l X mt p e R s m args below meth c0 Q k1 k2 pc L (zi a :: S) M := by
  subst hq
  have e : w32 a = a := w32_id ha1 ha2
  by_cases hc : a < 0
  · have g := kt hc
    exact xg_if_lt B hd ht (fun _ => g) (fun h9 => absurd (by rw [e] at h9; omega) (fun h8 : False => h8))
  · have g := kf hc
    exact xg_if_lt B hd ht (fun h9 => absurd (by rw [e] at h9; omega) (fun h8 : False => h8)) (fun _ => g)
theorem x_if_ge (B : pz_bd X mt p s m args meth c0) {a off : Int} (tgt q : Nat) (hd : decode mt.2.1 pc = .ok (.ifCond .ge off, 3)) (ha1 : -2147483648 ≤ a) (ha2 : a < 2147483648) (kt : 0 ≤ a → zX l X mt p e R s m args below meth c0 Q k1 k2 tgt L S M) (kf : ¬ 0 ≤ a → zX l X mt p e R s m args below meth c0 Q k1 k2 q L S M) (ht : (pc : Int) + off = (tgt : Int) := by rfl) (hq : pc + 3 = q := by rfl) : zX l X mt p e R s m args below meth c0 Q k1 k2 pc L (zi a :: S) M := by
  subst hq
  have e : w32 a = a := w32_id ha1 ha2
  by_cases hc : 0 ≤ a
  · have g := kt hc
    exact xg_if_ge B hd ht (fun _ => g) (fun h9 => absurd (by rw [e] at h9; omega) (fun h8 : False => h8))
  · have g := kf hc
    exact xg_if_ge B hd ht (fun h9 => absurd (by rw [e] at h9; omega) (fun h8 : False => h8)) (fun _ => g)
theorem x_if_gt (B : pz_bd X mt p s m args meth c0) {a off : Int} (tgt q : Nat) (hd : decode mt.2.1 pc = .ok (.ifCond .gt off, 3)) (ha1 : -2147483648 ≤ a) (ha2 : a < 2147483648) (kt : 0 < a → zX l X mt p e R s m args below meth c0 Q k1 k2 tgt L S M) (kf : ¬ 0 < a → zX l X mt p e R s m args below meth c0 Q k1 k2 q L S M) (ht : (pc : Int) + off = (tgt : Int) := by rfl) (hq : pc + 3 = q := by rfl) : zX l X mt p e R s m args below meth c0 Q k1 k2 pc L (zi a :: S) M := by
  subst hq
  have e : w32 a = a := w32_id ha1 ha2
  by_cases hc : 0 < a
  · have g := kt hc
    exact xg_if_gt B hd ht (fun _ => g) (fun h9 => absurd (by rw [e] at h9; omega) (fun h8 : False => h8))
  · have g := kf hc
    exact xg_if_gt B hd ht (fun h9 => absurd (by rw [e] at h9; omega) (fun h8 : False => h8)) (fun _ => g)
theorem x_if_le (B : pz_bd X mt p s m args meth c0) {a off : Int} (tgt q : Nat) (hd : decode mt.2.1 pc = .ok (.ifCond .le off, 3)) (ha1 : -2147483648 ≤ a) (ha2 : a < 2147483648) (kt : a ≤ 0 → zX l X mt p e R s m args below meth c0 Q k1 k2 tgt L S M) (kf : ¬ a ≤ 0 → zX l X mt p e R s m args below meth c0 Q k1 k2 q L S M) (ht : (pc : Int) + off = (tgt : Int) := by rfl) (hq : pc + 3 = q := by rfl) : zX l X mt p e R s m args below meth c0 Q k1 k2 pc L (zi a :: S) M := by
  subst hq
  have e : w32 a = a := w32_id ha1 ha2
  by_cases hc : a ≤ 0
  · have g := kt hc
    exact xg_if_le B hd ht (fun _ => g) (fun h9 => absurd (by rw [e] at h9; omega) (fun h8 : False => h8))
  · have g := kf hc
    exact xg_if_le B hd ht (fun h9 => absurd (by rw [e] at h9; omega) (fun h8 : False => h8)) (fun _ => g)
theorem x_icmp_eq (B : pz_bd X mt p s m args meth c0) {a b off : Int} (tgt q : Nat) (hd : decode mt.2.1 pc = .ok (.if_icmp .eq off, 3)) (ha1 : -2147483648 ≤ a) (ha2 : a < 2147483648) (hb1 : -2147483648 ≤ b) (hb2 : b < 2147483648) (kt : a = b → zX l X mt p e R s m args below meth c0 Q k1 k2 tgt L S M) (kf : ¬ a = b → zX l X mt p e R s m args below meth c0 Q k1 k2 q L S M) (ht : (pc : Int) + off = (tgt : Int) := by rfl) (hq : pc + 3 = q := by rfl) : zX l X mt p e R s m args below meth c0 Q k1 k2 pc L (zi b :: zi a :: S) M := by
  subst hq
  have e : w32 a = a := w32_id ha1 ha2
  have e2 : w32 b = b := w32_id hb1 hb2
  by_cases hc : a = b
  · have g := kt hc
    exact xg_icmp_eq B hd ht (fun _ => g) (fun h9 => absurd (by rw [e, e2] at h9; omega) (fun h8 : False => h8))
  · have g := kf hc
    exact xg_icmp_eq B hd ht (fun h9 => absurd (by rw [e, e2] at h9; omega) (fun h8 : False => h8)) (fun _ => g)
theorem x_icmp_ne (B : pz_bd X mt p s m args meth c0) {a b off : Int} (tgt q : Nat) (hd : decode mt.2.1 pc = .ok (.if_icmp .ne off, 3)) (ha1 : -2147483648 ≤ a) (ha2 : a < 2147483648) (hb1 : -2147483648 ≤ b) (hb2 : b < 2147483648) (kt : a ≠ b → zX l X mt p e R s m args below meth c0 Q k1 k2 tgt L S M) (kf : ¬ a ≠ b → zX l X mt p e R s m args below meth c0 Q k1 k2 q L S M) (ht : (pc : Int) + off = (tgt : Int) := by rfl) (hq : pc + 3 = q := by rfl) : zX l X mt p e R s m args below meth c0 Q k1 k2 pc L (zi b :: zi a :: S) M := by
  subst hq
  have e : w32 a = a := w32_id ha1 ha2
  have e2 : w32 b = b := w32_id hb1 hb2
  by_cases hc : a ≠ b
  · have g := kt hc
    exact xg_icmp_ne B hd ht (fun _ => g) (fun h9 => absurd (by rw [e, e2] at h9; omega) (fun h8 : False => h8))
  · have g := kf hc
    exact xg_icmp_ne B hd ht (fun h9 => absurd (by rw [e, e2] at h9; omega) (fun h8 : False => h8)) (fun _ => g)
theorem x_icmp_lt (B : pz_bd X mt p s m args meth c0) {a b off : Int} (tgt q : Nat) (hd : decode mt.2.1 pc = .ok (.if_icmp .lt off, 3)) (ha1 : -2147483648 ≤ a) (ha2 : a < 2147483648) (hb1 : -2147483648 ≤ b) (hb2 : b < 2147483648) (kt : a < b → zX l X mt p e R s m args below meth c0 Q k1 k2 tgt L S M) (kf : ¬ a < b → zX l X mt p e R s m args below meth c0 Q k1 k2 q L S M) (ht : (pc : Int) + off = (tgt : Int) := by rfl) (hq : pc + 3 = q := by rfl) : zX l X mt p e R s m args below meth c0 Q k1 k2 pc L (zi b :: zi a :: S) M := by
  subst hq
  have e : w32 a = a := w32_id ha1 ha2
  have e2 : w32 b = b := w32_id hb1 hb2
  by_cases hc : a < b
  · have g := kt hc
    exact xg_icmp_lt B hd ht (fun _ => g) (fun h9 => absurd (by rw [e, e2] at h9; omega) (fun h8 : False => h8))
  · have g := kf hc
    exact xg_icmp_lt B hd ht (fun h9 => absurd (by rw [e, e2] at h9; omega) (fun h8 : False => h8)) (fun _ => g)
theorem x_icmp_ge (B : pz_bd X mt p s m args meth c0) {a b off : Int} (tgt q : Nat) (hd : decode mt.2.1 pc = .ok (.if_icmp .ge off, 3)) (ha1 : -2147483648 ≤ a) (ha2 : a < 2147483648) (hb1 : -2147483648 ≤ b) (hb2 : b < 2147483648) (kt : b ≤ a → zX l X mt p e R s m args below meth c0 Q k1 k2 tgt L S M) (kf : ¬ b ≤ a → zX l X mt p e R s m args below meth c0 Q k1 k2 q L S M) (ht : (pc : Int) + off = (tgt : Int) := by rfl) (hq : pc + 3 = q := by rfl) : zX l X mt p e R s m args below meth c0 Q k1 k2 pc L (zi b :: zi a :: S) M := by
  subst hq
  have e : w32 a = a := w32_id ha1 ha2
  have e2 : w32 b = b := w32_id hb1 hb2
  by_cases hc : b ≤ a
  · have g := kt hc
    exact xg_icmp_ge B hd ht (fun _ => g) (fun h9 => absurd (by rw [e, e2] at h9; omega) (fun h8 : False => h8))
  · have g := kf hc
    exact xg_icmp_ge B hd ht (fun h9 => absurd (by rw [e, e2] at h9; omega) (fun h8 : False => h8)) (fun _ => g)
theorem x_icmp_gt (B : pz_bd X mt p s m args meth c0) {a b off : Int} (tgt q : Nat) (hd : decode mt.2.1 pc = .ok (.if_icmp .gt off, 3)) (ha1 : -2147483648 ≤ a) (ha2 : a < 2147483648) (hb1 : -2147483648 ≤ b) (hb2 : b < 2147483648) (kt : b < a → zX l X mt p e R s m args below meth c0 Q k1 k2 tgt L S M) (kf : ¬ b < a → zX l X mt p e R s m args below meth c0 Q k1 k2 q L S M) (ht : (pc : Int) + off = (tgt : Int) := by rfl) (hq : pc + 3 = q := by rfl) : zX l X mt p e R s m args below meth c0 Q k1 k2 pc L (zi b :: zi a :: S) M := by
  subst hq
  have e : w32 a = a := w32_id ha1 ha2
  have e2 : w32 b = b := w32_id hb1 hb2
  by_cases hc : b < a
  · have g := kt hc
    exact xg_icmp_gt B hd ht (fun _ => g) (fun h9 => absurd (by rw [e, e2] at h9; omega) (fun h8 : False => h8))
  · have g := kf hc
    exact xg_icmp_gt B hd ht (fun h9 => absurd (by rw [e, e2] at h9; omega) (fun h8 : False => h8)) (fun _ => g)
theorem x_icmp_le (B : pz_bd X mt p s m args meth c0) {a b off : Int} (tgt q : Nat) (hd : decode mt.2.1 pc = .ok (.if_icmp .le off, 3)) (ha1 : -2147483648 ≤ a) (ha2 : a < 2147483648) (hb1 : -2147483648 ≤ b) (hb2 : b < 2147483648) (kt : a ≤ b → zX l X mt p e R s m args below meth c0 Q k1 k2 tgt L S M) (kf : ¬ a ≤ b → zX l X mt p e R s m args below meth c0 Q k1 k2 q L S M) (ht : (pc : Int) + off = (tgt : Int) := by rfl) (hq : pc + 3 = q := by rfl) : zX l X mt p e R s m args below meth c0 Q k1 k2 pc L (zi b :: zi a :: S) M := by
  subst hq
  have e : w32 a = a := w32_id ha1 ha2
  have e2 : w32 b = b := w32_id hb1 hb2
  by_cases hc : a ≤ b
  · have g := kt hc
    exact xg_icmp_le B hd ht (fun _ => g) (fun h9 => absurd (by rw [e, e2] at h9; omega) (fun h8 : False => h8))
  · have g := kf hc
    exact xg_icmp_le B hd ht (fun h9 => absurd (by rw [e, e2] at h9; omega) (fun h8 : False => h8)) (fun _ => g)
theorem x_goto (B : pz_bd X mt p s m args meth c0) {off : Int} (tgt : Nat) (hd : decode mt.2.1 pc = .ok (.goto off, 3)) (kk : zX l X mt p e R s m args below meth c0 Q k1 k2 tgt L S M) (ht : (pc : Int) + off = (tgt : Int) := by rfl) : zX l X mt p e R s m args below meth c0 Q k1 k2 pc L S M := by
  have g := kk
  exact xg_goto B hd ht g
theorem x_tabD (B : pz_bd X mt p s m args meth c0) {a dflt lo hi : Int} {offs : Array Int} {len : Nat} (tgt : Nat) (hd : decode mt.2.1 pc = .ok (.tableswitch dflt lo hi offs, len)) (ha1 : -2147483648 ≤ a) (ha2 : a < 2147483648) (h : a < lo ∨ hi < a) (kk : zX l X mt p e R s m args below meth c0 Q k1 k2 tgt L S M) (ht : (pc : Int) + dflt = (tgt : Int) := by rfl) : zX l X mt p e R s m args below meth c0 Q k1 k2 pc L (zi a :: S) M := by
  have g := kk
  exact xg_tableOut B hd (by rw [w32_id ha1 ha2]; exact h) ht g
theorem x_tabJ (B : pz_bd X mt p s m args meth c0) {a dflt lo hi off : Int} {offs : Array Int} {len : Nat} (j : Int) (tgt : Nat) (hd : decode mt.2.1 pc = .ok (.tableswitch dflt lo hi offs, len)) (hj : a = j) (hl : ¬ w32 j < lo) (hh : ¬ hi < w32 j) (ho : offs[(w32 j - lo).toNat]? = some off) (kk : zX l X mt p e R s m args below meth c0 Q k1 k2 tgt L S M) (ht : (pc : Int) + off = (tgt : Int) := by rfl) : zX l X mt p e R s m args below meth c0 Q k1 k2 pc L (zi a :: S) M := by
  subst hj
  have g := kk
  exact xg_tableIn B hd hl hh ho ht g
theorem x_lald (B : pz_bd X mt p s m args meth c0) {z i : Int} {len : Nat} (c q : Nat) (hd : decode mt.2.1 pc = .ok (.laload, 1)) (hc : zTT[c]? = some (.inr (2, len))) (hi0 : 0 ≤ i) (hi1 : i < (len : Int)) (kk : zX l X mt p e R s m args below meth c0 Q k1 k2 q L (zl (M c i.toNat) :: S) M) (hz : z = (c : Int) := by rfl) (hq : pc + 1 = q := by rfl) : zX l X mt p e R s m args below meth c0 Q k1 k2 pc L (zi i :: zr z :: S) M := by
  subst hq
  have g := kk
  exact xg_lald B c hz hd hc (pz_lt139 hc) hi0 hi1 g
theorem x_laldn (B : pz_bd X mt p s m args meth c0) {z i : Int} {len : Nat} (c q k : Nat) (hd : decode mt.2.1 pc = .ok (.laload, 1)) (hc : zTT[c]? = some (.inr (2, len))) (hi : i = (k : Int)) (hk : k < len) (kk : zX l X mt p e R s m args below meth c0 Q k1 k2 q L (zl (M c k) :: S) M) (hz : z = (c : Int) := by rfl) (hq : pc + 1 = q := by rfl) : zX l X mt p e R s m args below meth c0 Q k1 k2 pc L (zi i :: zr z :: S) M := by
  subst hi
  exact x_lald B c q hd hc (by omega) (by omega) (by rw [Int.toNat_natCast]; exact kk) hz hq
theorem x_last (B : pz_bd X mt p s m args meth c0) {z i v : Int} {len : Nat} (c q : Nat) (hd : decode mt.2.1 pc = .ok (.lastore, 1)) (hc : zTT[c]? = some (.inr (2, len))) (hi0 : 0 ≤ i) (hi1 : i < (len : Int)) (kk : zX l X mt p e R s m args below meth c0 Q k1 k2 q L S (zset M c i.toNat v)) (hz : z = (c : Int) := by rfl) (hq : pc + 1 = q := by rfl) : zX l X mt p e R s m args below meth c0 Q k1 k2 pc L (zl v :: zi i :: zr z :: S) M := by
  subst hq
  have g := kk
  exact xg_last B c hz hd hc (pz_lt139 hc) hi0 hi1 g
theorem x_lastn (B : pz_bd X mt p s m args meth c0) {z i v : Int} {len : Nat} (c q k : Nat) (hd : decode mt.2.1 pc = .ok (.lastore, 1)) (hc : zTT[c]? = some (.inr (2, len))) (hi : i = (k : Int)) (hk : k < len) (kk : zX l X mt p e R s m args below meth c0 Q k1 k2 q L S (zset M c k v)) (hz : z = (c : Int) := by rfl) (hq : pc + 1 = q := by rfl) : zX l X mt p e R s m args below meth c0 Q k1 k2 pc L (zl v :: zi i :: zr z :: S) M := by
  subst hi
  exact x_last B c q hd hc (by omega) (by omega) (by rw [Int.toNat_natCast]; exact kk) hz hq
theorem x_getI (B : pz_bd X mt p s m args meth c0) {z : Int} {ci k idx : Nat} (c q : Nat) (hd : decode mt.2.1 pc = .ok (.getfield idx, 3)) (hf : zF mt.1 idx ci k 0) (hc : zTT[c]? = some (.inl ci)) (kk : zX l X mt p e R s m args below meth c0 Q k1 k2 q L (zi (M c k) :: S) M) (hz : z = (c : Int) := by rfl) (hq : pc + 3 = q := by rfl) : zX l X mt p e R s m args below meth c0 Q k1 k2 pc L (zr z :: S) M := by
  subst hq
  have g := kk
  obtain ⟨C, T, N, f1, f2, f3, f4, f5, f6⟩ := hf
  exact xg_get B c hz hd hc (pz_lt139 hc) f1 f2 f3 f4 f5 f6 g
theorem x_getR (B : pz_bd X mt p s m args meth c0) {z : Int} {ci k idx : Nat} (c q : Nat) (hd : decode mt.2.1 pc = .ok (.getfield idx, 3)) (hf : zF mt.1 idx ci k 2) (hc : zTT[c]? = some (.inl ci)) {v : Int} (hv : M c k = v) (kk : zX l X mt p e R s m args below meth c0 Q k1 k2 q L (zr v :: S) M) (hz : z = (c : Int) := by rfl) (hq : pc + 3 = q := by rfl) : zX l X mt p e R s m args below meth c0 Q k1 k2 pc L (zr z :: S) M := by
  subst hq
  have g := kk
  obtain ⟨C, T, N, f1, f2, f3, f4, f5, f6⟩ := hf
  exact xg_get B c hz hd hc (pz_lt139 hc) f1 f2 f3 f4 f5 f6 (by rw [hv]; exact g)
theorem xg_callV (B : pz_bd X mt p s m args meth c0) {r : Option ZV} {d' ci N idx : Nat} {M1 : ZM} {y : MethodName} {mt' : ZT} {T : u_T} {C : String} (As rest : List ZV) (c : Nat) (hS0 : S = As.reverse ++ zr (c : Int) :: rest) (hd : decode mt.2.1 pc = .ok (.invokevirtual idx, 3)) (hM : zMet l X d' y mt' (zr (c : Int) :: As) 139 M (r, 139, M1)) (hlk : Cond.methodLink mt.1 idx y ∈ lwg) (hmv : zMV y mt' As.length) (hc : zTT[c]? = some (.inl ci)) (hcl : vwCl[ci]? = some (C, T, N)) (hC : C = y.cls) (hk : k1 ≤ R.cells ∧ k2 ≤ R.slots) (hdd : d' + 1 ≤ R.frames ∧ 60 * (d' + 1) ≤ R.locals) (hrs : pz_cats rest ≤ 8) (kk : zX l X mt p e R s m args below meth c0 Q k1 k2 (pc + 3) L (r.toList ++ rest) M1) : zX l X mt p e R s m args below meth c0 Q k1 k2 pc L S M := by
  intro H locs ls hR hS hL
  subst hS0
  subst hC
  obtain ⟨hnn, hMet⟩ := hM
  obtain ⟨m1, m2, m3, m4, m5, m6⟩ := hmv
  have hE := B.2.2.2.2.2.2.2.1
  have hRel : pz_rel X 139 M H := ⟨hR, fun h => absurd h (by rw [pz_139]; decide)⟩
  have hts := B.2.2.2.2.2.2.1
  refine pz_after (r := r) (n1 := 139) (M1 := M1) (rest := rest.map (pz_val X)) (va_runV (As := As.map (pz_val X)) (b := X.1 + c) (n := As.length) ⟨B.1, B.2.1, B.2.2.2.2.1, B.2.2.2.2.2.1, hts⟩ hMet (cwV As.length hts (pz_goodV hlk m1 m2 m3 m4) rfl rfl rfl ⟨rfl, m5⟩ ⟨hdd.1, by show 8 + (mt'.2.2.1 + 11) + 60 * d' ≤ R.locals; omega⟩) ⟨pz_blind X _ 139 M, va_recv hE.1 hR hcl (by rw [pz_ws_get X M (pz_lt139 hc), pz_cell_o X M hc]), fun U hU hW => ⟨by rw [List.map_cons, pz_val_c X hc], hE.move hW (by rw [hU]; exact hS.1) (by rw [hU]; exact hS.2.1), by rw [hU]; exact hRel⟩⟩ rfl (List.length_map ..) (hL.1) (by
      show List.map (pz_val X) (As.reverse ++ zr (c : Int) :: rest) = _
      rw [List.map_append, List.map_reverse, List.map_cons, pz_val_c X hc]) (lv_room (by rw [pz_cats_ok]; exact hrs)) hd (by show k1 + (139 - 139) ≤ R.cells ∧ k2 + (pz_ss 139 - pz_ss 139) ≤ R.slots; rw [Nat.sub_self, Nat.sub_self]; exact hk)) hS (fun H1 locs1 hR1 hS1 => ?_)
  have h := kk H1 locs1 ls hR1.1 hS1 hL
  rw [List.map_append] at h
  show W p l e _ s m args below meth c0 H1 locs1 (k1 + (139 - 139)) (k2 + (pz_ss 139 - pz_ss 139)) _ _
  rw [Nat.sub_self, Nat.sub_self]
  exact h
theorem xg_callS (B : pz_bd X mt p s m args meth c0) {r : Option ZV} {d' idx : Nat} {M1 : ZM} {y : MethodName} {mt' : ZT} (As rest : List ZV) (hS0 : S = As.reverse ++ rest) (hd : decode mt.2.1 pc = .ok (.invokestatic idx, 3)) (hM : zMet l X d' y mt' As 139 M (r, 139, M1)) (hlk : Cond.methodLink mt.1 idx y ∈ lwg) (hmv : zMS y mt' As.length) (hk : k1 ≤ R.cells ∧ k2 ≤ R.slots) (hdd : d' + 1 ≤ R.frames ∧ 60 * (d' + 1) ≤ R.locals) (hrs : pz_cats rest ≤ 8) (kk : zX l X mt p e R s m args below meth c0 Q k1 k2 (pc + 3) L (r.toList ++ rest) M1) : zX l X mt p e R s m args below meth c0 Q k1 k2 pc L S M := by
  intro H locs ls hR hS hL
  subst hS0
  obtain ⟨hnn, hMet⟩ := hM
  obtain ⟨m1, m3, m4, m5, m6⟩ := hmv
  have hE := B.2.2.2.2.2.2.2.1
  have hRel : pz_rel X 139 M H := ⟨hR, fun h => absurd h (by rw [pz_139]; decide)⟩
  have hts := B.2.2.2.2.2.2.1
  refine pz_after (r := r) (n1 := 139) (M1 := M1) (rest := rest.map (pz_val X)) (va_runS (As := As.map (pz_val X)) (n := As.length) ⟨B.1, B.2.1, B.2.2.2.2.1, B.2.2.2.2.2.1, hts⟩ hMet ⟨callB_of As.length hts (pz_goodC m4) rfl rfl rfl (hts _ m3) (hts _ hlk) m5 ⟨hdd.1, by show 8 + (mt'.2.2.1 + 11) + 60 * d' ≤ R.locals; omega⟩, hts _ m1⟩ ⟨pz_blind X _ 139 M, fun U hU hW => ⟨rfl, hE.move hW (by rw [hU]; exact hS.1) (by rw [hU]; exact hS.2.1), by rw [hU]; exact hRel⟩⟩ rfl (List.length_map ..) (hL.1) (by
      show List.map (pz_val X) (As.reverse ++ rest) = _
      rw [List.map_append, List.map_reverse]) (lv_room (by rw [pz_cats_ok]; exact hrs)) hd (by show k1 + (139 - 139) ≤ R.cells ∧ k2 + (pz_ss 139 - pz_ss 139) ≤ R.slots; rw [Nat.sub_self, Nat.sub_self]; exact hk)) hS (fun H1 locs1 hR1 hS1 => ?_)
  have h := kk H1 locs1 ls hR1.1 hS1 hL
  rw [List.map_append] at h
  show W p l e _ s m args below meth c0 H1 locs1 (k1 + (139 - 139)) (k2 + (pz_ss 139 - pz_ss 139)) _ _
  rw [Nat.sub_self, Nat.sub_self]
  exact h
theorem x_callV0i (B : pz_bd X mt p s m args meth c0) {z : Int} {ci idx d' : Nat} {y : MethodName} {mt' : ZT} {Qc : Int → ZM → Prop} (c q : Nat) (hd : decode mt.2.1 pc = .ok (.invokevirtual idx, 3)) (hM : zCi l X d' y mt' (zr (c : Int) :: []) M Qc) (hlk : Cond.methodLink mt.1 idx y ∈ lwg) (hmv : zMV y mt' 0) (hc : zTT[c]? = some (.inl ci)) (hcl : (vwCl[ci]?).map (fun r => r.1) = some y.cls) (hk : k1 ≤ R.cells ∧ k2 ≤ R.slots) (hdd : d' + 1 ≤ R.frames ∧ 60 * (d' + 1) ≤ R.locals) (hrs : pz_cats S ≤ 8) (kk : ∀ a M', Qc a M' → zX l X mt p e R s m args below meth c0 Q k1 k2 q L (zi a :: S) M') (hz : z = (c : Int) := by rfl) (hq : pc + 3 = q := by rfl) : zX l X mt p e R s m args below meth c0 Q k1 k2 pc L (zr z :: S) M := by
  subst hq
  subst hz
  obtain ⟨r1, M1, ⟨a, rfl, hQ1⟩, hM1⟩ := hM
  obtain ⟨⟨C, T, N⟩, f1, f2⟩ := Option.map_eq_some_iff.mp hcl
  exact xg_callV B [] S c rfl hd hM1 hlk hmv hc f1 f2 hk hdd hrs (kk a M1 hQ1)
theorem x_callV0l (B : pz_bd X mt p s m args meth c0) {z : Int} {ci idx d' : Nat} {y : MethodName} {mt' : ZT} {Qc : Int → ZM → Prop} (c q : Nat) (hd : decode mt.2.1 pc = .ok (.invokevirtual idx, 3)) (hM : zCl l X d' y mt' (zr (c : Int) :: []) M Qc) (hlk : Cond.methodLink mt.1 idx y ∈ lwg) (hmv : zMV y mt' 0) (hc : zTT[c]? = some (.inl ci)) (hcl : (vwCl[ci]?).map (fun r => r.1) = some y.cls) (hk : k1 ≤ R.cells ∧ k2 ≤ R.slots) (hdd : d' + 1 ≤ R.frames ∧ 60 * (d' + 1) ≤ R.locals) (hrs : pz_cats S ≤ 8) (kk : ∀ a M', Qc a M' → zX l X mt p e R s m args below meth c0 Q k1 k2 q L (zl a :: S) M') (hz : z = (c : Int) := by rfl) (hq : pc + 3 = q := by rfl) : zX l X mt p e R s m args below meth c0 Q k1 k2 pc L (zr z :: S) M := by
  subst hq
  subst hz
  obtain ⟨r1, M1, ⟨a, rfl, hQ1⟩, hM1⟩ := hM
  obtain ⟨⟨C, T, N⟩, f1, f2⟩ := Option.map_eq_some_iff.mp hcl
  exact xg_callV B [] S c rfl hd hM1 hlk hmv hc f1 f2 hk hdd hrs (kk a M1 hQ1)
theorem x_callV1i (B : pz_bd X mt p s m args meth c0) {z : Int} {ci idx d' : Nat} {y : MethodName} {mt' : ZT} {v1 : ZV} {Qc : Int → ZM → Prop} (c q : Nat) (hd : decode mt.2.1 pc = .ok (.invokevirtual idx, 3)) (hM : zCi l X d' y mt' (zr (c : Int) :: [v1]) M Qc) (hlk : Cond.methodLink mt.1 idx y ∈ lwg) (hmv : zMV y mt' 1) (hc : zTT[c]? = some (.inl ci)) (hcl : (vwCl[ci]?).map (fun r => r.1) = some y.cls) (hk : k1 ≤ R.cells ∧ k2 ≤ R.slots) (hdd : d' + 1 ≤ R.frames ∧ 60 * (d' + 1) ≤ R.locals) (hrs : pz_cats S ≤ 8) (kk : ∀ a M', Qc a M' → zX l X mt p e R s m args below meth c0 Q k1 k2 q L (zi a :: S) M') (hz : z = (c : Int) := by rfl) (hq : pc + 3 = q := by rfl) : zX l X mt p e R s m args below meth c0 Q k1 k2 pc L (v1 :: zr z :: S) M := by
  subst hq
  subst hz
  obtain ⟨r1, M1, ⟨a, rfl, hQ1⟩, hM1⟩ := hM
  obtain ⟨⟨C, T, N⟩, f1, f2⟩ := Option.map_eq_some_iff.mp hcl
  exact xg_callV B [v1] S c rfl hd hM1 hlk hmv hc f1 f2 hk hdd hrs (kk a M1 hQ1)
theorem x_callV1l (B : pz_bd X mt p s m args meth c0) {z : Int} {ci idx d' : Nat} {y : MethodName} {mt' : ZT} {v1 : ZV} {Qc : Int → ZM → Prop} (c q : Nat) (hd : decode mt.2.1 pc = .ok (.invokevirtual idx, 3)) (hM : zCl l X d' y mt' (zr (c : Int) :: [v1]) M Qc) (hlk : Cond.methodLink mt.1 idx y ∈ lwg) (hmv : zMV y mt' 1) (hc : zTT[c]? = some (.inl ci)) (hcl : (vwCl[ci]?).map (fun r => r.1) = some y.cls) (hk : k1 ≤ R.cells ∧ k2 ≤ R.slots) (hdd : d' + 1 ≤ R.frames ∧ 60 * (d' + 1) ≤ R.locals) (hrs : pz_cats S ≤ 8) (kk : ∀ a M', Qc a M' → zX l X mt p e R s m args below meth c0 Q k1 k2 q L (zl a :: S) M') (hz : z = (c : Int) := by rfl) (hq : pc + 3 = q := by rfl) : zX l X mt p e R s m args below meth c0 Q k1 k2 pc L (v1 :: zr z :: S) M := by
  subst hq
  subst hz
  obtain ⟨r1, M1, ⟨a, rfl, hQ1⟩, hM1⟩ := hM
  obtain ⟨⟨C, T, N⟩, f1, f2⟩ := Option.map_eq_some_iff.mp hcl
  exact xg_callV B [v1] S c rfl hd hM1 hlk hmv hc f1 f2 hk hdd hrs (kk a M1 hQ1)
theorem x_callV2i (B : pz_bd X mt p s m args meth c0) {z : Int} {ci idx d' : Nat} {y : MethodName} {mt' : ZT} {v1 v2 : ZV} {Qc : Int → ZM → Prop} (c q : Nat) (hd : decode mt.2.1 pc = .ok (.invokevirtual idx, 3)) (hM : zCi l X d' y mt' (zr (c : Int) :: [v1, v2]) M Qc) (hlk : Cond.methodLink mt.1 idx y ∈ lwg) (hmv : zMV y mt' 2) (hc : zTT[c]? = some (.inl ci)) (hcl : (vwCl[ci]?).map (fun r => r.1) = some y.cls) (hk : k1 ≤ R.cells ∧ k2 ≤ R.slots) (hdd : d' + 1 ≤ R.frames ∧ 60 * (d' + 1) ≤ R.locals) (hrs : pz_cats S ≤ 8) (kk : ∀ a M', Qc a M' → zX l X mt p e R s m args below meth c0 Q k1 k2 q L (zi a :: S) M') (hz : z = (c : Int) := by rfl) (hq : pc + 3 = q := by rfl) : zX l X mt p e R s m args below meth c0 Q k1 k2 pc L (v2 :: v1 :: zr z :: S) M := by
  subst hq
  subst hz
  obtain ⟨r1, M1, ⟨a, rfl, hQ1⟩, hM1⟩ := hM
  obtain ⟨⟨C, T, N⟩, f1, f2⟩ := Option.map_eq_some_iff.mp hcl
  exact xg_callV B [v1, v2] S c rfl hd hM1 hlk hmv hc f1 f2 hk hdd hrs (kk a M1 hQ1)
theorem x_callV2l (B : pz_bd X mt p s m args meth c0) {z : Int} {ci idx d' : Nat} {y : MethodName} {mt' : ZT} {v1 v2 : ZV} {Qc : Int → ZM → Prop} (c q : Nat) (hd : decode mt.2.1 pc = .ok (.invokevirtual idx, 3)) (hM : zCl l X d' y mt' (zr (c : Int) :: [v1, v2]) M Qc) (hlk : Cond.methodLink mt.1 idx y ∈ lwg) (hmv : zMV y mt' 2) (hc : zTT[c]? = some (.inl ci)) (hcl : (vwCl[ci]?).map (fun r => r.1) = some y.cls) (hk : k1 ≤ R.cells ∧ k2 ≤ R.slots) (hdd : d' + 1 ≤ R.frames ∧ 60 * (d' + 1) ≤ R.locals) (hrs : pz_cats S ≤ 8) (kk : ∀ a M', Qc a M' → zX l X mt p e R s m args below meth c0 Q k1 k2 q L (zl a :: S) M') (hz : z = (c : Int) := by rfl) (hq : pc + 3 = q := by rfl) : zX l X mt p e R s m args below meth c0 Q k1 k2 pc L (v2 :: v1 :: zr z :: S) M := by
  subst hq
  subst hz
  obtain ⟨r1, M1, ⟨a, rfl, hQ1⟩, hM1⟩ := hM
  obtain ⟨⟨C, T, N⟩, f1, f2⟩ := Option.map_eq_some_iff.mp hcl
  exact xg_callV B [v1, v2] S c rfl hd hM1 hlk hmv hc f1 f2 hk hdd hrs (kk a M1 hQ1)
theorem x_callV3i (B : pz_bd X mt p s m args meth c0) {z : Int} {ci idx d' : Nat} {y : MethodName} {mt' : ZT} {v1 v2 v3 : ZV} {Qc : Int → ZM → Prop} (c q : Nat) (hd : decode mt.2.1 pc = .ok (.invokevirtual idx, 3)) (hM : zCi l X d' y mt' (zr (c : Int) :: [v1, v2, v3]) M Qc) (hlk : Cond.methodLink mt.1 idx y ∈ lwg) (hmv : zMV y mt' 3) (hc : zTT[c]? = some (.inl ci)) (hcl : (vwCl[ci]?).map (fun r => r.1) = some y.cls) (hk : k1 ≤ R.cells ∧ k2 ≤ R.slots) (hdd : d' + 1 ≤ R.frames ∧ 60 * (d' + 1) ≤ R.locals) (hrs : pz_cats S ≤ 8) (kk : ∀ a M', Qc a M' → zX l X mt p e R s m args below meth c0 Q k1 k2 q L (zi a :: S) M') (hz : z = (c : Int) := by rfl) (hq : pc + 3 = q := by rfl) : zX l X mt p e R s m args below meth c0 Q k1 k2 pc L (v3 :: v2 :: v1 :: zr z :: S) M := by
  subst hq
  subst hz
  obtain ⟨r1, M1, ⟨a, rfl, hQ1⟩, hM1⟩ := hM
  obtain ⟨⟨C, T, N⟩, f1, f2⟩ := Option.map_eq_some_iff.mp hcl
  exact xg_callV B [v1, v2, v3] S c rfl hd hM1 hlk hmv hc f1 f2 hk hdd hrs (kk a M1 hQ1)
theorem x_callV3l (B : pz_bd X mt p s m args meth c0) {z : Int} {ci idx d' : Nat} {y : MethodName} {mt' : ZT} {v1 v2 v3 : ZV} {Qc : Int → ZM → Prop} (c q : Nat) (hd : decode mt.2.1 pc = .ok (.invokevirtual idx, 3)) (hM : zCl l X d' y mt' (zr (c : Int) :: [v1, v2, v3]) M Qc) (hlk : Cond.methodLink mt.1 idx y ∈ lwg) (hmv : zMV y mt' 3) (hc : zTT[c]? = some (.inl ci)) (hcl : (vwCl[ci]?).map (fun r => r.1) = some y.cls) (hk : k1 ≤ R.cells ∧ k2 ≤ R.slots) (hdd : d' + 1 ≤ R.frames ∧ 60 * (d' + 1) ≤ R.locals) (hrs : pz_cats S ≤ 8) (kk : ∀ a M', Qc a M' → zX l X mt p e R s m args below meth c0 Q k1 k2 q L (zl a :: S) M') (hz : z = (c : Int) := by rfl) (hq : pc + 3 = q := by rfl) : zX l X mt p e R s m args below meth c0 Q k1 k2 pc L (v3 :: v2 :: v1 :: zr z :: S) M := by
  subst hq
  subst hz
  obtain ⟨r1, M1, ⟨a, rfl, hQ1⟩, hM1⟩ := hM
  obtain ⟨⟨C, T, N⟩, f1, f2⟩ := Option.map_eq_some_iff.mp hcl
  exact xg_callV B [v1, v2, v3] S c rfl hd hM1 hlk hmv hc f1 f2 hk hdd hrs (kk a M1 hQ1)
theorem x_callV4i (B : pz_bd X mt p s m args meth c0) {z : Int} {ci idx d' : Nat} {y : MethodName} {mt' : ZT} {v1 v2 v3 v4 : ZV} {Qc : Int → ZM → Prop} (c q : Nat) (hd : decode mt.2.1 pc = .ok (.invokevirtual idx, 3)) (hM : zCi l X d' y mt' (zr (c : Int) :: [v1, v2, v3, v4]) M Qc) (hlk : Cond.methodLink mt.1 idx y ∈ lwg) (hmv : zMV y mt' 4) (hc : zTT[c]? = some (.inl ci)) (hcl : (vwCl[ci]?).map (fun r => r.1) = some y.cls) (hk : k1 ≤ R.cells ∧ k2 ≤ R.slots) (hdd : d' + 1 ≤ R.frames ∧ 60 * (d' + 1) ≤ R.locals) (hrs : pz_cats S ≤ 8) (kk : ∀ a M', Qc a M' → zX l X mt p e R s m args below meth c0 Q k1 k2 q L (zi a :: S) M') (hz : z = (c : Int) := by rfl) (hq : pc + 3 = q := by rfl) : zX l X mt p e R s m args below meth c0 Q k1 k2 pc L (v4 :: v3 :: v2 :: v1 :: zr z :: S) M := by
  subst hq
  subst hz
  obtain ⟨r1, M1, ⟨a, rfl, hQ1⟩, hM1⟩ := hM
  obtain ⟨⟨C, T, N⟩, f1, f2⟩ := Option.map_eq_some_iff.mp hcl
  exact xg_callV B [v1, v2, v3, v4] S c rfl hd hM1 hlk hmv hc f1 f2 hk hdd hrs (kk a M1 hQ1)
theorem x_callV4l (B : pz_bd X mt p s m args meth c0) {z : Int} {ci idx d' : Nat} {y : MethodName} {mt' : ZT} {v1 v2 v3 v4 : ZV} {Qc : Int → ZM → Prop} (c q : Nat) (hd : decode mt.2.1 pc = .ok (.invokevirtual idx, 3)) (hM : zCl l X d' y mt' (zr (c : Int) :: [v1, v2, v3, v4]) M Qc) (hlk : Cond.methodLink mt.1 idx y ∈ lwg) (hmv : zMV y mt' 4) (hc : zTT[c]? = some (.inl ci)) (hcl : (vwCl[ci]?).map (fun r => r.1) = some y.cls) (hk : k1 ≤ R.cells ∧ k2 ≤ R.slots) (hdd : d' + 1 ≤ R.frames ∧ 60 * (d' + 1) ≤ R.locals) (hrs : pz_cats S ≤ 8) (kk : ∀ a M', Qc a M' → zX l X mt p e R s m args below meth c0 Q k1 k2 q L (zl a :: S) M') (hz : z = (c : Int) := by rfl) (hq : pc + 3 = q := by rfl) : zX l X mt p e R s m args below meth c0 Q k1 k2 pc L (v4 :: v3 :: v2 :: v1 :: zr z :: S) M := by
  subst hq
  subst hz
  obtain ⟨r1, M1, ⟨a, rfl, hQ1⟩, hM1⟩ := hM
  obtain ⟨⟨C, T, N⟩, f1, f2⟩ := Option.map_eq_some_iff.mp hcl
  exact xg_callV B [v1, v2, v3, v4] S c rfl hd hM1 hlk hmv hc f1 f2 hk hdd hrs (kk a M1 hQ1)
theorem x_callV5i (B : pz_bd X mt p s m args meth c0) {z : Int} {ci idx d' : Nat} {y : MethodName} {mt' : ZT} {v1 v2 v3 v4 v5 : ZV} {Qc : Int → ZM → Prop} (c q : Nat) (hd : decode mt.2.1 pc = .ok (.invokevirtual idx, 3)) (hM : zCi l X d' y mt' (zr (c : Int) :: [v1, v2, v3, v4, v5]) M Qc) (hlk : Cond.methodLink mt.1 idx y ∈ lwg) (hmv : zMV y mt' 5) (hc : zTT[c]? = some (.inl ci)) (hcl : (vwCl[ci]?).map (fun r => r.1) = some y.cls) (hk : k1 ≤ R.cells ∧ k2 ≤ R.slots) (hdd : d' + 1 ≤ R.frames ∧ 60 * (d' + 1) ≤ R.locals) (hrs : pz_cats S ≤ 8) (kk : ∀ a M', Qc a M' → zX l X mt p e R s m args below meth c0 Q k1 k2 q L (zi a :: S) M') (hz : z = (c : Int) := by rfl) (hq : pc + 3 = q := by rfl) : zX l X mt p e R s m args below meth c0 Q k1 k2 pc L (v5 :: v4 :: v3 :: v2 :: v1 :: zr z :: S) M := by
  subst hq
  subst hz
  obtain ⟨r1, M1, ⟨a, rfl, hQ1⟩, hM1⟩ := hM
  obtain ⟨⟨C, T, N⟩, f1, f2⟩ := Option.map_eq_some_iff.mp hcl
  exact xg_callV B [v1, v2, v3, v4, v5] S c rfl hd hM1 hlk hmv hc f1 f2 hk hdd hrs (kk a M1 hQ1)
theorem x_callV5l (B : pz_bd X mt p s m args meth c0) {z : Int} {ci idx d' : Nat} {y : MethodName} {mt' : ZT} {v1 v2 v3 v4 v5 : ZV} {Qc : Int → ZM → Prop} (c q : Nat) (hd : decode mt.2.1 pc = .ok (.invokevirtual idx, 3)) (hM : zCl l X d' y mt' (zr (c : Int) :: [v1, v2, v3, v4, v5]) M Qc) (hlk : Cond.methodLink mt.1 idx y ∈ lwg) (hmv : zMV y mt' 5) (hc : zTT[c]? = some (.inl ci)) (hcl : (vwCl[ci]?).map (fun r => r.1) = some y.cls) (hk : k1 ≤ R.cells ∧ k2 ≤ R.slots) (hdd : d' + 1 ≤ R.frames ∧ 60 * (d' + 1) ≤ R.locals) (hrs : pz_cats S ≤ 8) (kk : ∀ a M', Qc a M' → zX l X mt p e R s m args below meth c0 Q k1 k2 q L (zl a :: S) M') (hz : z = (c : Int) := by rfl) (hq : pc + 3 = q := by rfl) : zX l X mt p e R s m args below meth c0 Q k1 k2 pc L (v5 :: v4 :: v3 :: v2 :: v1 :: zr z :: S) M := by
  subst hq
  subst hz
  obtain ⟨r1, M1, ⟨a, rfl, hQ1⟩, hM1⟩ := hM
  obtain ⟨⟨C, T, N⟩, f1, f2⟩ := Option.map_eq_some_iff.mp hcl
  exact xg_callV B [v1, v2, v3, v4, v5] S c rfl hd hM1 hlk hmv hc f1 f2 hk hdd hrs (kk a M1 hQ1)
theorem x_callS1i (B : pz_bd X mt p s m args meth c0) {idx d' : Nat} {y : MethodName} {mt' : ZT} {v1 : ZV} {Qc : Int → ZM → Prop} (q : Nat) (hd : decode mt.2.1 pc = .ok (.invokestatic idx, 3)) (hM : zCi l X d' y mt' [v1] M Qc) (hlk : Cond.methodLink mt.1 idx y ∈ lwg) (hmv : zMS y mt' 1) (hk : k1 ≤ R.cells ∧ k2 ≤ R.slots) (hdd : d' + 1 ≤ R.frames ∧ 60 * (d' + 1) ≤ R.locals) (hrs : pz_cats S ≤ 8) (kk : ∀ a M', Qc a M' → zX l X mt p e R s m args below meth c0 Q k1 k2 q L (zi a :: S) M') (hq : pc + 3 = q := by rfl) : zX l X mt p e R s m args below meth c0 Q k1 k2 pc L (v1 :: S) M := by
  subst hq
  obtain ⟨r1, M1, ⟨a, rfl, hQ1⟩, hM1⟩ := hM
  exact xg_callS B [v1] S rfl hd hM1 hlk hmv hk hdd hrs (kk a M1 hQ1)
end XR
