/-! THE RULES WITH A POSTCONDITION, once all cells are made -/
def zP (l : Launch) (X : ZX) (d : Nat) (mt : ZT) (pc : Nat) (L : List (Option ZV)) (S : List ZV) (M : ZM) (Q : Option ZV → ZM → Prop) : Prop := ∃ (r : Option ZV) (M' : ZM), Q r M' ∧ zGo l X d mt pc L S 139 M (r, 139, M')
def zC (l : Launch) (X : ZX) (d : Nat) (y : MethodName) (mt : ZT) (av : List ZV) (M : ZM) (Q : Option ZV → ZM → Prop) : Prop := ∃ (r : Option ZV) (M' : ZM), Q r M' ∧ zMet l X d y mt av 139 M (r, 139, M')
theorem pz_139 : zTT.length = 139 := by decide +kernel
theorem pz_lt139 {c : Nat} {q : Nat ⊕ (Nat × Nat)} (h : zTT[c]? = some q) : c < 139 := by
  have := (List.getElem?_eq_some_iff.mp h).1
  rw [pz_139] at this
  exact this
/-- a field that may be read: class, entry; class's number, place, kind -/
def zF (own : String) (idx ci k t : Nat) : Prop := ∃ (C : String) (T : u_T) (N : Nat), vwCl[ci]? = some (C, T, N) ∧ (∀ w ∈ u_ws C T N, w ∈ lwg) ∧ k < N ∧ Cond.fieldLink own idx C (T k).2.1 (T k).2.2.1 ∈ lwg ∧ (T k).1 = C ∧ (zft.getD ci [])[k]? = some t
/-- ... and written -/
def zFP (own : String) (idx ci k t : Nat) (ty : FieldType) : Prop := ∃ (C : String) (T : u_T) (N : Nat) (ty0 : Nat → FieldType), vwCl[ci]? = some (C, T, N) ∧ (∀ w ∈ u_ws C T N, w ∈ lwg) ∧ (∀ k, k < N → parseFieldDescriptor (T k).2.2.1 = some (ty0 k)) ∧ (∀ a, a < N → ∀ b, b < N → a ≠ b → (T a).2.1 ≠ (T b).2.1) ∧ k < N ∧ Cond.fieldLink own idx C (T k).2.1 (T k).2.2.1 ∈ lwg ∧ (T k).1 = C ∧ (T k).2.2.2 = false ∧ (zft.getD ci [])[k]? = some t ∧ ty0 k = ty
theorem zC.of {l : Launch} {X : ZX} {d : Nat} {y : MethodName} {mt : ZT} {av : List ZV} {M : ZM} {Q : Option ZV → ZM → Prop} (L : List (Option ZV)) (hy : plainName y.cls = true) (h1 : mt.1 = y.cls) (h2 : mt.2.2.2.2 = y.name) (hlen : (pz_argL av).length ≤ mt.2.2.1) (hL : pz_entL av mt.2.2.1 = L) (kk : zP l X d mt 0 L [] M Q) : zC l X d y mt av M Q := by
  obtain ⟨r, M', h, g⟩ := kk
  exact ⟨r, M', h, zMet.of L hy h1 h2 (Nat.le_refl _) hlen hL g⟩
theorem zC.mono {l : Launch} {X : ZX} {d : Nat} {y : MethodName} {mt : ZT} {av : List ZV} {M : ZM} {Q Q' : Option ZV → ZM → Prop} (h : zC l X d y mt av M Q) (hq : ∀ r M', Q r M' → Q' r M') : zC l X d y mt av M Q' := by
  obtain ⟨r, M', a, b⟩ := h
  exact ⟨r, M', hq r M' a, b⟩
theorem zP.mono {l : Launch} {X : ZX} {d : Nat} {mt : ZT} {pc : Nat} {L : List (Option ZV)} {S : List ZV} {M : ZM} {Q Q' : Option ZV → ZM → Prop} (h : zP l X d mt pc L S M Q) (hq : ∀ r M', Q r M' → Q' r M') : zP l X d mt pc L S M Q' := by
  obtain ⟨r, M', a, b⟩ := h
  exact ⟨r, M', hq r M' a, b⟩
/-- a method that answers an int, a long, nothing -/
def zCi (l : Launch) (X : ZX) (d : Nat) (y : MethodName) (mt : ZT) (av : List ZV) (M : ZM) (Q : Int → ZM → Prop) : Prop := zC l X d y mt av M (fun r M' => ∃ a, r = some (zi a) ∧ Q a M')
def zCl (l : Launch) (X : ZX) (d : Nat) (y : MethodName) (mt : ZT) (av : List ZV) (M : ZM) (Q : Int → ZM → Prop) : Prop := zC l X d y mt av M (fun r M' => ∃ a, r = some (zl a) ∧ Q a M')
def zCv (l : Launch) (X : ZX) (d : Nat) (y : MethodName) (mt : ZT) (av : List ZV) (M : ZM) (Q : ZM → Prop) : Prop := zC l X d y mt av M (fun r M' => r = none ∧ Q M')
theorem zCi.mono {l : Launch} {X : ZX} {d : Nat} {y : MethodName} {mt : ZT} {av : List ZV} {M : ZM} {Q Q' : Int → ZM → Prop} (h : zCi l X d y mt av M Q) (hq : ∀ r M', Q r M' → Q' r M') : zCi l X d y mt av M Q' := zC.mono h (fun _ M' ⟨a, e, b⟩ => ⟨a, e, hq a M' b⟩)
theorem zCl.mono {l : Launch} {X : ZX} {d : Nat} {y : MethodName} {mt : ZT} {av : List ZV} {M : ZM} {Q Q' : Int → ZM → Prop} (h : zCl l X d y mt av M Q) (hq : ∀ r M', Q r M' → Q' r M') : zCl l X d y mt av M Q' := zC.mono h (fun _ M' ⟨a, e, b⟩ => ⟨a, e, hq a M' b⟩)
theorem zCv.mono {l : Launch} {X : ZX} {d : Nat} {y : MethodName} {mt : ZT} {av : List ZV} {M : ZM} {Q Q' : ZM → Prop} (h : zCv l X d y mt av M Q) (hq : ∀ M', Q M' → Q' M') : zCv l X d y mt av M Q' := zC.mono h (fun _ M' ⟨e, b⟩ => ⟨e, hq M' b⟩)
section ZPR
variable {l : Launch} {X : ZX} {d : Nat} {mt : ZT} {pc : Nat} {L : List (Option ZV)} {S : List ZV} {M : ZM} {Q : Option ZV → ZM → Prop}
theorem p_iconst {v : Int} (q : Nat) (hd : decode mt.2.1 pc = .ok (.iconst v, 1)) (kk : zP l X d mt q L (zi v :: S) M Q) (hq : pc + 1 = q := by rfl) : zP l X d mt pc L S M Q := by
  subst hq
  obtain ⟨r, M9, h, g⟩ := kk
  exact ⟨r, M9, h, go_iconst hd g⟩
theorem p_bipush {v : Int} (q : Nat) (hd : decode mt.2.1 pc = .ok (.bipush v, 2)) (hv : (Int8.ofInt v).toInt32 = Int32.ofInt v) (kk : zP l X d mt q L (zi v :: S) M Q) (hq : pc + 2 = q := by rfl) : zP l X d mt pc L S M Q := by
  subst hq
  obtain ⟨r, M9, h, g⟩ := kk
  exact ⟨r, M9, h, go_bipush hd hv g⟩
theorem p_sipush {v : Int} (q : Nat) (hd : decode mt.2.1 pc = .ok (.sipush v, 3)) (hv : (Int16.ofInt v).toInt32 = Int32.ofInt v) (kk : zP l X d mt q L (zi v :: S) M Q) (hq : pc + 3 = q := by rfl) : zP l X d mt pc L S M Q := by
  subst hq
  obtain ⟨r, M9, h, g⟩ := kk
  exact ⟨r, M9, h, go_sipush hd hv g⟩
theorem p_lconst {v : Fin 2} {z : Int} (q : Nat) (hd : decode mt.2.1 pc = .ok (.lconst v, 1)) (hv : Int64.ofNat (v : Nat) = Int64.ofInt z) (kk : zP l X d mt q L (zl z :: S) M Q) (hq : pc + 1 = q := by rfl) : zP l X d mt pc L S M Q := by
  subst hq
  obtain ⟨r, M9, h, g⟩ := kk
  exact ⟨r, M9, h, go_lconst hd hv g⟩
theorem p_ldc {idx : Nat} {v : Int32} {z : Int} (q : Nat) (hd : decode mt.2.1 pc = .ok (.ldc idx, 2)) (hk : Cond.constant mt.1 idx v ∈ lwg) (hv : v = Int32.ofInt z) (kk : zP l X d mt q L (zi z :: S) M Q) (hq : pc + 2 = q := by rfl) : zP l X d mt pc L S M Q := by
  subst hq
  obtain ⟨r, M9, h, g⟩ := kk
  exact ⟨r, M9, h, go_ldc hd hk hv g⟩
theorem p_ldcw {idx : Nat} {v : Int32} {z : Int} (q : Nat) (hd : decode mt.2.1 pc = .ok (.ldc_w idx, 3)) (hk : Cond.constant mt.1 idx v ∈ lwg) (hv : v = Int32.ofInt z) (kk : zP l X d mt q L (zi z :: S) M Q) (hq : pc + 3 = q := by rfl) : zP l X d mt pc L S M Q := by
  subst hq
  obtain ⟨r, M9, h, g⟩ := kk
  exact ⟨r, M9, h, go_ldcw hd hk hv g⟩
theorem p_ldcS {idx : Nat} {tx : String} (i : Nat) (q : Nat) (hd : decode mt.2.1 pc = .ok (.ldc idx, 2)) (hk : zstr[i]? = some (mt.1, idx, tx)) (kk : zP l X d mt q L (zr (1000 + (i : Int)) :: S) M Q) (hq : pc + 2 = q := by rfl) : zP l X d mt pc L S M Q := by
  subst hq
  obtain ⟨r, M9, h, g⟩ := kk
  exact ⟨r, M9, h, go_ldcS hd hk g⟩
theorem p_iload_n {k : Fin 4} {i : Nat} {a : Int} (q : Nat) (hd : decode mt.2.1 pc = .ok (.iload_n k, 1)) (hi : (k : Nat) = i) (hl : L[i]? = some (some (zi a))) (kk : zP l X d mt q L (zi a :: S) M Q) (hq : pc + 1 = q := by rfl) : zP l X d mt pc L S M Q := by
  subst hq
  obtain ⟨r, M9, h, g⟩ := kk
  exact ⟨r, M9, h, go_iload_n hd hi hl g⟩
theorem p_iload {i : Nat} {a : Int} (q : Nat) (hd : decode mt.2.1 pc = .ok (.iload i, 2)) (hl : L[i]? = some (some (zi a))) (kk : zP l X d mt q L (zi a :: S) M Q) (hq : pc + 2 = q := by rfl) : zP l X d mt pc L S M Q := by
  subst hq
  obtain ⟨r, M9, h, g⟩ := kk
  exact ⟨r, M9, h, go_iload hd hl g⟩
theorem p_lload_n {k : Fin 4} {i : Nat} {a : Int} (q : Nat) (hd : decode mt.2.1 pc = .ok (.lload_n k, 1)) (hi : (k : Nat) = i) (hl : L[i]? = some (some (zl a))) (kk : zP l X d mt q L (zl a :: S) M Q) (hq : pc + 1 = q := by rfl) : zP l X d mt pc L S M Q := by
  subst hq
  obtain ⟨r, M9, h, g⟩ := kk
  exact ⟨r, M9, h, go_lload_n hd hi hl g⟩
theorem p_lload {i : Nat} {a : Int} (q : Nat) (hd : decode mt.2.1 pc = .ok (.lload i, 2)) (hl : L[i]? = some (some (zl a))) (kk : zP l X d mt q L (zl a :: S) M Q) (hq : pc + 2 = q := by rfl) : zP l X d mt pc L S M Q := by
  subst hq
  obtain ⟨r, M9, h, g⟩ := kk
  exact ⟨r, M9, h, go_lload hd hl g⟩
theorem p_aload_n {k : Fin 4} {i : Nat} {a : Int} (q : Nat) (hd : decode mt.2.1 pc = .ok (.aload_n k, 1)) (hi : (k : Nat) = i) (hl : L[i]? = some (some (zr a))) (h0 : 0 ≤ a) (kk : zP l X d mt q L (zr a :: S) M Q) (hq : pc + 1 = q := by rfl) : zP l X d mt pc L S M Q := by
  subst hq
  obtain ⟨r, M9, h, g⟩ := kk
  exact ⟨r, M9, h, go_aload_n hd hi hl h0 g⟩
theorem p_aload {i : Nat} {a : Int} (q : Nat) (hd : decode mt.2.1 pc = .ok (.aload i, 2)) (hl : L[i]? = some (some (zr a))) (h0 : 0 ≤ a) (kk : zP l X d mt q L (zr a :: S) M Q) (hq : pc + 2 = q := by rfl) : zP l X d mt pc L S M Q := by
  subst hq
  obtain ⟨r, M9, h, g⟩ := kk
  exact ⟨r, M9, h, go_aload hd hl h0 g⟩
theorem p_istore_n {k : Fin 4} {i : Nat} {a : Int} {L' : List (Option ZV)} (q : Nat) (hd : decode mt.2.1 pc = .ok (.istore_n k, 1)) (hi : (k : Nat) = i) (hlt : i < L.length) (hok : pz_okb L i = true) (hL : L.set i (some (zi a)) = L') (kk : zP l X d mt q L' S M Q) (hq : pc + 1 = q := by rfl) : zP l X d mt pc L (zi a :: S) M Q := by
  subst hq
  obtain ⟨r, M9, h, g⟩ := kk
  exact ⟨r, M9, h, go_istore_n hd hi hlt hok (by rw [hL]; exact g)⟩
theorem p_istore {i : Nat} {a : Int} {L' : List (Option ZV)} (q : Nat) (hd : decode mt.2.1 pc = .ok (.istore i, 2)) (hlt : i < L.length) (hok : pz_okb L i = true) (hL : L.set i (some (zi a)) = L') (kk : zP l X d mt q L' S M Q) (hq : pc + 2 = q := by rfl) : zP l X d mt pc L (zi a :: S) M Q := by
  subst hq
  obtain ⟨r, M9, h, g⟩ := kk
  exact ⟨r, M9, h, go_istore hd hlt hok (by rw [hL]; exact g)⟩
theorem p_lstore_n {k : Fin 4} {i : Nat} {a : Int} {L' : List (Option ZV)} (q : Nat) (hd : decode mt.2.1 pc = .ok (.lstore_n k, 1)) (hi : (k : Nat) = i) (hlt : i + 1 < L.length) (hok : pz_okb L i = true) (hL : (L.set i (some (zl a))).set (i + 1) none = L') (kk : zP l X d mt q L' S M Q) (hq : pc + 1 = q := by rfl) : zP l X d mt pc L (zl a :: S) M Q := by
  subst hq
  obtain ⟨r, M9, h, g⟩ := kk
  exact ⟨r, M9, h, go_lstore_n hd hi hlt hok (by rw [hL]; exact g)⟩
theorem p_lstore {i : Nat} {a : Int} {L' : List (Option ZV)} (q : Nat) (hd : decode mt.2.1 pc = .ok (.lstore i, 2)) (hlt : i + 1 < L.length) (hok : pz_okb L i = true) (hL : (L.set i (some (zl a))).set (i + 1) none = L') (kk : zP l X d mt q L' S M Q) (hq : pc + 2 = q := by rfl) : zP l X d mt pc L (zl a :: S) M Q := by
  subst hq
  obtain ⟨r, M9, h, g⟩ := kk
  exact ⟨r, M9, h, go_lstore hd hlt hok (by rw [hL]; exact g)⟩
theorem p_astore_n {k : Fin 4} {i : Nat} {a : Int} {L' : List (Option ZV)} (q : Nat) (hd : decode mt.2.1 pc = .ok (.astore_n k, 1)) (hi : (k : Nat) = i) (hlt : i < L.length) (hok : pz_okb L i = true) (h0 : 0 ≤ a) (hL : L.set i (some (zr a)) = L') (kk : zP l X d mt q L' S M Q) (hq : pc + 1 = q := by rfl) : zP l X d mt pc L (zr a :: S) M Q := by
  subst hq
  obtain ⟨r, M9, h, g⟩ := kk
  exact ⟨r, M9, h, go_astore_n hd hi hlt hok h0 (by rw [hL]; exact g)⟩
theorem p_iinc {i : Nat} {v a : Int} {L' : List (Option ZV)} (q : Nat) (hd : decode mt.2.1 pc = .ok (.iinc i v, 3)) (hl : L[i]? = some (some (zi a))) (hok : pz_okb L i = true) (hL : L.set i (some (zi (a + v))) = L') (kk : zP l X d mt q L' S M Q) (hq : pc + 3 = q := by rfl) : zP l X d mt pc L S M Q := by
  subst hq
  obtain ⟨r, M9, h, g⟩ := kk
  exact ⟨r, M9, h, go_iinc hd hl hok (by rw [hL]; exact g)⟩
theorem p_iadd {a b : Int} (q : Nat) (hd : decode mt.2.1 pc = .ok (.iadd, 1)) (kk : zP l X d mt q L (zi (a + b) :: S) M Q) (hq : pc + 1 = q := by rfl) : zP l X d mt pc L (zi b :: zi a :: S) M Q := by
  subst hq
  obtain ⟨r, M9, h, g⟩ := kk
  exact ⟨r, M9, h, go_iadd hd g⟩
theorem p_isub {a b : Int} (q : Nat) (hd : decode mt.2.1 pc = .ok (.isub, 1)) (kk : zP l X d mt q L (zi (a - b) :: S) M Q) (hq : pc + 1 = q := by rfl) : zP l X d mt pc L (zi b :: zi a :: S) M Q := by
  subst hq
  obtain ⟨r, M9, h, g⟩ := kk
  exact ⟨r, M9, h, go_isub hd g⟩
theorem p_imul {a b : Int} (q : Nat) (hd : decode mt.2.1 pc = .ok (.imul, 1)) (kk : zP l X d mt q L (zi (a * b) :: S) M Q) (hq : pc + 1 = q := by rfl) : zP l X d mt pc L (zi b :: zi a :: S) M Q := by
  subst hq
  obtain ⟨r, M9, h, g⟩ := kk
  exact ⟨r, M9, h, go_imul hd g⟩
theorem p_iand {a b : Int} (q : Nat) (hd : decode mt.2.1 pc = .ok (.iand, 1)) (kk : zP l X d mt q L (zi (z_iand a b) :: S) M Q) (hq : pc + 1 = q := by rfl) : zP l X d mt pc L (zi b :: zi a :: S) M Q := by
  subst hq
  obtain ⟨r, M9, h, g⟩ := kk
  exact ⟨r, M9, h, go_iand hd g⟩
theorem p_ior {a b : Int} (q : Nat) (hd : decode mt.2.1 pc = .ok (.ior, 1)) (kk : zP l X d mt q L (zi (z_ior a b) :: S) M Q) (hq : pc + 1 = q := by rfl) : zP l X d mt pc L (zi b :: zi a :: S) M Q := by
  subst hq
  obtain ⟨r, M9, h, g⟩ := kk
  exact ⟨r, M9, h, go_ior hd g⟩
theorem p_ixor {a b : Int} (q : Nat) (hd : decode mt.2.1 pc = .ok (.ixor, 1)) (kk : zP l X d mt q L (zi (z_ixor a b) :: S) M Q) (hq : pc + 1 = q := by rfl) : zP l X d mt pc L (zi b :: zi a :: S) M Q := by
  subst hq
  obtain ⟨r, M9, h, g⟩ := kk
  exact ⟨r, M9, h, go_ixor hd g⟩
theorem p_ishl {a b : Int} (q : Nat) (hd : decode mt.2.1 pc = .ok (.ishl, 1)) (kk : zP l X d mt q L (zi (z_ishl a b) :: S) M Q) (hq : pc + 1 = q := by rfl) : zP l X d mt pc L (zi b :: zi a :: S) M Q := by
  subst hq
  obtain ⟨r, M9, h, g⟩ := kk
  exact ⟨r, M9, h, go_ishl hd g⟩
theorem p_ishr {a b : Int} (q : Nat) (hd : decode mt.2.1 pc = .ok (.ishr, 1)) (kk : zP l X d mt q L (zi (z_ishr a b) :: S) M Q) (hq : pc + 1 = q := by rfl) : zP l X d mt pc L (zi b :: zi a :: S) M Q := by
  subst hq
  obtain ⟨r, M9, h, g⟩ := kk
  exact ⟨r, M9, h, go_ishr hd g⟩
theorem p_iushr {a b : Int} (q : Nat) (hd : decode mt.2.1 pc = .ok (.iushr, 1)) (kk : zP l X d mt q L (zi (z_iushr a b) :: S) M Q) (hq : pc + 1 = q := by rfl) : zP l X d mt pc L (zi b :: zi a :: S) M Q := by
  subst hq
  obtain ⟨r, M9, h, g⟩ := kk
  exact ⟨r, M9, h, go_iushr hd g⟩
theorem p_ineg {a : Int} (q : Nat) (hd : decode mt.2.1 pc = .ok (.ineg, 1)) (kk : zP l X d mt q L (zi (-a) :: S) M Q) (hq : pc + 1 = q := by rfl) : zP l X d mt pc L (zi a :: S) M Q := by
  subst hq
  obtain ⟨r, M9, h, g⟩ := kk
  exact ⟨r, M9, h, go_ineg hd g⟩
theorem p_idiv {a b : Int} (q : Nat) (hd : decode mt.2.1 pc = .ok (.idiv, 1)) (hb : w32 b ≠ 0) (kk : zP l X d mt q L (zi (z_idiv a b) :: S) M Q) (hq : pc + 1 = q := by rfl) : zP l X d mt pc L (zi b :: zi a :: S) M Q := by
  subst hq
  obtain ⟨r, M9, h, g⟩ := kk
  exact ⟨r, M9, h, go_idiv hd hb g⟩
theorem p_irem {a b : Int} (q : Nat) (hd : decode mt.2.1 pc = .ok (.irem, 1)) (hb : w32 b ≠ 0) (kk : zP l X d mt q L (zi (z_irem a b) :: S) M Q) (hq : pc + 1 = q := by rfl) : zP l X d mt pc L (zi b :: zi a :: S) M Q := by
  subst hq
  obtain ⟨r, M9, h, g⟩ := kk
  exact ⟨r, M9, h, go_irem hd hb g⟩
theorem p_ldiv {a b : Int} (q : Nat) (hd : decode mt.2.1 pc = .ok (.ldiv, 1)) (hb : w64 b ≠ 0) (kk : zP l X d mt q L (zl (z_ldiv a b) :: S) M Q) (hq : pc + 1 = q := by rfl) : zP l X d mt pc L (zl b :: zl a :: S) M Q := by
  subst hq
  obtain ⟨r, M9, h, g⟩ := kk
  exact ⟨r, M9, h, go_ldiv hd hb g⟩
theorem p_lrem {a b : Int} (q : Nat) (hd : decode mt.2.1 pc = .ok (.lrem, 1)) (hb : w64 b ≠ 0) (kk : zP l X d mt q L (zl (z_lrem a b) :: S) M Q) (hq : pc + 1 = q := by rfl) : zP l X d mt pc L (zl b :: zl a :: S) M Q := by
  subst hq
  obtain ⟨r, M9, h, g⟩ := kk
  exact ⟨r, M9, h, go_lrem hd hb g⟩
theorem p_lor {a b : Int} (q : Nat) (hd : decode mt.2.1 pc = .ok (.lor, 1)) (kk : zP l X d mt q L (zl (z_lor a b) :: S) M Q) (hq : pc + 1 = q := by rfl) : zP l X d mt pc L (zl b :: zl a :: S) M Q := by
  subst hq
  obtain ⟨r, M9, h, g⟩ := kk
  exact ⟨r, M9, h, go_lor hd g⟩
theorem p_lshl {a b : Int} (q : Nat) (hd : decode mt.2.1 pc = .ok (.lshl, 1)) (kk : zP l X d mt q L (zl (z_lshl a b) :: S) M Q) (hq : pc + 1 = q := by rfl) : zP l X d mt pc L (zi b :: zl a :: S) M Q := by
  subst hq
  obtain ⟨r, M9, h, g⟩ := kk
  exact ⟨r, M9, h, go_lshl hd g⟩
theorem p_i2l {a : Int} (q : Nat) (hd : decode mt.2.1 pc = .ok (.i2l, 1)) (kk : zP l X d mt q L (zl (w32 a) :: S) M Q) (hq : pc + 1 = q := by rfl) : zP l X d mt pc L (zi a :: S) M Q := by
  subst hq
  obtain ⟨r, M9, h, g⟩ := kk
  exact ⟨r, M9, h, go_i2l hd g⟩
theorem p_i2b {a : Int} (q : Nat) (hd : decode mt.2.1 pc = .ok (.i2b, 1)) (kk : zP l X d mt q L (zi (z_i2b a) :: S) M Q) (hq : pc + 1 = q := by rfl) : zP l X d mt pc L (zi a :: S) M Q := by
  subst hq
  obtain ⟨r, M9, h, g⟩ := kk
  exact ⟨r, M9, h, go_i2b hd g⟩
theorem p_lcmp {a b : Int} (q : Nat) (hd : decode mt.2.1 pc = .ok (.lcmp, 1)) (kk : zP l X d mt q L (zi (z_lcmp a b) :: S) M Q) (hq : pc + 1 = q := by rfl) : zP l X d mt pc L (zl b :: zl a :: S) M Q := by
  subst hq
  obtain ⟨r, M9, h, g⟩ := kk
  exact ⟨r, M9, h, go_lcmp hd g⟩
theorem p_dupI {a : Int} (q : Nat) (hd : decode mt.2.1 pc = .ok (.dup, 1)) (kk : zP l X d mt q L (zi a :: zi a :: S) M Q) (hq : pc + 1 = q := by rfl) : zP l X d mt pc L (zi a :: S) M Q := by
  subst hq
  obtain ⟨r, M9, h, g⟩ := kk
  exact ⟨r, M9, h, go_dup hd (fun z => by intro h9; cases h9) g⟩
theorem p_popI {a : Int} (q : Nat) (hd : decode mt.2.1 pc = .ok (.pop, 1)) (kk : zP l X d mt q L S M Q) (hq : pc + 1 = q := by rfl) : zP l X d mt pc L (zi a :: S) M Q := by
  subst hq
  obtain ⟨r, M9, h, g⟩ := kk
  exact ⟨r, M9, h, go_pop hd (fun z => by intro h9; cases h9) g⟩
theorem p_dupR {a : Int} (q : Nat) (hd : decode mt.2.1 pc = .ok (.dup, 1)) (kk : zP l X d mt q L (zr a :: zr a :: S) M Q) (hq : pc + 1 = q := by rfl) : zP l X d mt pc L (zr a :: S) M Q := by
  subst hq
  obtain ⟨r, M9, h, g⟩ := kk
  exact ⟨r, M9, h, go_dup hd (fun z => by intro h9; cases h9) g⟩
theorem p_popR {a : Int} (q : Nat) (hd : decode mt.2.1 pc = .ok (.pop, 1)) (kk : zP l X d mt q L S M Q) (hq : pc + 1 = q := by rfl) : zP l X d mt pc L (zr a :: S) M Q := by
  subst hq
  obtain ⟨r, M9, h, g⟩ := kk
  exact ⟨r, M9, h, go_pop hd (fun z => by intro h9; cases h9) g⟩
theorem p_dup2 {a b : Int} (q : Nat) (hd : decode mt.2.1 pc = .ok (.dup2, 1)) (kk : zP l X d mt q L (zi b :: zr a :: zi b :: zr a :: S) M Q) (hq : pc + 1 = q := by rfl) : zP l X d mt pc L (zi b :: zr a :: S) M Q := by
  subst hq
  obtain ⟨r, M9, h, g⟩ := kk
  exact ⟨r, M9, h, go_dup2 hd (fun z => by intro h9; cases h9) (fun z => by intro h9; cases h9) g⟩
theorem p_if_eq {a off : Int} (tgt q : Nat) (hd : decode mt.2.1 pc = .ok (.ifCond .eq off, 3)) (ha1 : -2147483648 ≤ a) (ha2 : a < 2147483648) (kt : a = 0 → zP l X d mt tgt L S M Q) (kf : ¬ a = 0 → zP l X d mt q L S M Q) (ht : (pc : Int) + off = (tgt : Int) := by rfl) (hq : pc + 3 = q := by rfl) : zP l X d mt pc L (zi a :: S) M Q := by
  subst hq
  have e : w32 a = a := w32_id ha1 ha2
  by_cases hc : a = 0
  · obtain ⟨r, M9, h, g⟩ := kt hc
    exact ⟨r, M9, h, go_if_eq hd ht (fun _ => g) (fun h9 => absurd (by rw [e] at h9; omega) (fun h8 : False => h8))⟩
  · obtain ⟨r, M9, h, g⟩ := kf hc
    exact ⟨r, M9, h, go_if_eq hd ht (fun h9 => absurd (by rw [e] at h9; omega) (fun h8 : False => h8)) (fun _ => g)⟩
theorem p_if_ne {a off : Int} (tgt q : Nat) (hd : decode mt.2.1 pc = .ok (.ifCond .ne off, 3)) (ha1 : -2147483648 ≤ a) (ha2 : a < 2147483648) (kt : a ≠ 0 → zP l X d mt tgt L S M Q) (kf : ¬ a ≠ 0 → zP l X d mt q L S M Q) (ht : (pc : Int) + off = (tgt : Int) := by rfl) (hq : pc + 3 = q := by rfl) : zP l X d mt pc L (zi a :: S) M Q := by
  subst hq
  have e : w32 a = a := w32_id ha1 ha2
  by_cases hc : a ≠ 0
  · obtain ⟨r, M9, h, g⟩ := kt hc
    exact ⟨r, M9, h, go_if_ne hd ht (fun _ => g) (fun h9 => absurd (by rw [e] at h9; omega) (fun h8 : False => h8))⟩
  · obtain ⟨r, M9, h, g⟩ := kf hc
    exact ⟨r, M9, h, go_if_ne hd ht (fun h9 => absurd (by rw [e] at h9; omega) (fun h8 : False => h8)) (fun _ => g)⟩
theorem p_if_lt {a off : Int} (tgt q : Nat) (hd : decode mt.2.1 pc = .ok (.ifCond .lt off, 3)) (ha1 : -2147483648 ≤ a) (ha2 : a < 2147483648) (kt : a < 0 → zP l X d mt tgt L S M Q) (kf : ¬ a < 0 → zP l X d mt q L S M Q) (ht : (pc : Int) + off = (tgt : Int) := by rfl) (hq : pc + 3 = q := by rfl) : zP l X d mt pc L (zi a :: S) M Q := by
  subst hq
  have e : w32 a = a := w32_id ha1 ha2
  by_cases hc : a < 0
  · obtain ⟨r, M9, h, g⟩ := kt hc
    exact ⟨r, M9, h, go_if_lt hd ht (fun _ => g) (fun h9 => absurd (by rw [e] at h9; omega) (fun h8 : False => h8))⟩
  · obtain ⟨r, M9, h, g⟩ := kf hc
    exact ⟨r, M9, h, go_if_lt hd ht (fun h9 => absurd (by rw [e] at h9; omega) (fun h8 : False => h8)) (fun _ => g)⟩
theorem p_if_ge {a off : Int} (tgt q : Nat) (hd : decode mt.2.1 pc = .ok (.ifCond .ge off, 3)) (ha1 : -2147483648 ≤ a) (ha2 : a < 2147483648) (kt : 0 ≤ a → zP l X d mt tgt L S M Q) (kf : ¬ 0 ≤ a → zP l X d mt q L S M Q) (ht : (pc : Int) + off = (tgt : Int) := by rfl) (hq : pc + 3 = q := by rfl) : zP l X d mt pc L (zi a :: S) M Q := by
  subst hq
  have e : w32 a = a := w32_id ha1 ha2
  by_cases hc : 0 ≤ a
  · obtain ⟨r, M9, h, g⟩ := kt hc
    exact ⟨r, M9, h, go_if_ge hd ht (fun _ => g) (fun h9 => absurd (by rw [e] at h9; omega) (fun h8 : False => h8))⟩
  · obtain ⟨r, M9, h, g⟩ := kf hc
    exact ⟨r, M9, h, go_if_ge hd ht (fun h9 => absurd (by rw [e] at h9; omega) (fun h8 : False => h8)) (fun _ => g)⟩
theorem p_if_gt {a off : Int} (tgt q : Nat) (hd : decode mt.2.1 pc = .ok (.ifCond .gt off, 3)) (ha1 : -2147483648 ≤ a) (ha2 : a < 2147483648) (kt : 0 < a → zP l X d mt tgt L S M Q) (kf : ¬ 0 < a → zP l X d mt q L S M Q) (ht : (pc : Int) + off = (tgt : Int) := by rfl) (hq : pc + 3 = q := by rfl) : zP l X d mt pc L (zi a :: S) M Q := by
  subst hq
  have e : w32 a = a := w32_id ha1 ha2
  by_cases hc : 0 < a
  · obtain ⟨r, M9, h, g⟩ := kt hc
    exact ⟨r, M9, h, go_if_gt hd ht (fun _ => g) (fun h9 => absurd (by rw [e] at h9; omega) (fun h8 : False => h8))⟩
  · obtain ⟨r, M9, h, g⟩ := kf hc
    exact ⟨r, M9, h, go_if_gt hd ht (fun h9 => absurd (by rw [e] at h9; omega) (fun h8 : False => h8)) (fun _ => g)⟩
theorem p_if_le {a off : Int} (tgt q : Nat) (hd : decode mt.2.1 pc = .ok (.ifCond .le off, 3)) (ha1 : -2147483648 ≤ a) (ha2 : a < 2147483648) (kt : a ≤ 0 → zP l X d mt tgt L S M Q) (kf : ¬ a ≤ 0 → zP l X d mt q L S M Q) (ht : (pc : Int) + off = (tgt : Int) := by rfl) (hq : pc + 3 = q := by rfl) : zP l X d mt pc L (zi a :: S) M Q := by
  subst hq
  have e : w32 a = a := w32_id ha1 ha2
  by_cases hc : a ≤ 0
  · obtain ⟨r, M9, h, g⟩ := kt hc
    exact ⟨r, M9, h, go_if_le hd ht (fun _ => g) (fun h9 => absurd (by rw [e] at h9; omega) (fun h8 : False => h8))⟩
  · obtain ⟨r, M9, h, g⟩ := kf hc
    exact ⟨r, M9, h, go_if_le hd ht (fun h9 => absurd (by rw [e] at h9; omega) (fun h8 : False => h8)) (fun _ => g)⟩
theorem p_icmp_eq {a b off : Int} (tgt q : Nat) (hd : decode mt.2.1 pc = .ok (.if_icmp .eq off, 3)) (ha1 : -2147483648 ≤ a) (ha2 : a < 2147483648) (hb1 : -2147483648 ≤ b) (hb2 : b < 2147483648) (kt : a = b → zP l X d mt tgt L S M Q) (kf : ¬ a = b → zP l X d mt q L S M Q) (ht : (pc : Int) + off = (tgt : Int) := by rfl) (hq : pc + 3 = q := by rfl) : zP l X d mt pc L (zi b :: zi a :: S) M Q := by
  subst hq
  have e : w32 a = a := w32_id ha1 ha2
  have e2 : w32 b = b := w32_id hb1 hb2
  by_cases hc : a = b
  · obtain ⟨r, M9, h, g⟩ := kt hc
    exact ⟨r, M9, h, go_icmp_eq hd ht (fun _ => g) (fun h9 => absurd (by rw [e, e2] at h9; omega) (fun h8 : False => h8))⟩
  · obtain ⟨r, M9, h, g⟩ := kf hc
    exact ⟨r, M9, h, go_icmp_eq hd ht (fun h9 => absurd (by rw [e, e2] at h9; omega) (fun h8 : False => h8)) (fun _ => g)⟩
theorem p_icmp_ne {a b off : Int} (tgt q : Nat) (hd : decode mt.2.1 pc = .ok (.if_icmp .ne off, 3)) (ha1 : -2147483648 ≤ a) (ha2 : a < 2147483648) (hb1 : -2147483648 ≤ b) (hb2 : b < 2147483648) (kt : a ≠ b → zP l X d mt tgt L S M Q) (kf : ¬ a ≠ b → zP l X d mt q L S M Q) (ht : (pc : Int) + off = (tgt : Int) := by rfl) (hq : pc + 3 = q := by rfl) : zP l X d mt pc L (zi b :: zi a :: S) M Q := by
  subst hq
  have e : w32 a = a := w32_id ha1 ha2
  have e2 : w32 b = b := w32_id hb1 hb2
  by_cases hc : a ≠ b
  · obtain ⟨r, M9, h, g⟩ := kt hc
    exact ⟨r, M9, h, go_icmp_ne hd ht (fun _ => g) (fun h9 => absurd (by rw [e, e2] at h9; omega) (fun h8 : False => h8))⟩
  · obtain ⟨r, M9, h, g⟩ := kf hc
    exact ⟨r, M9, h, go_icmp_ne hd ht (fun h9 => absurd (by rw [e, e2] at h9; omega) (fun h8 : False => h8)) (fun _ => g)⟩
theorem p_icmp_lt {a b off : Int} (tgt q : Nat) (hd : decode mt.2.1 pc = .ok (.if_icmp .lt off, 3)) (ha1 : -2147483648 ≤ a) (ha2 : a < 2147483648) (hb1 : -2147483648 ≤ b) (hb2 : b < 2147483648) (kt : a < b → zP l X d mt tgt L S M Q) (kf : ¬ a < b → zP l X d mt q L S M Q) (ht : (pc : Int) + off = (tgt : Int) := by rfl) (hq : pc + 3 = q := by rfl) : zP l X d mt pc L (zi b :: zi a :: S) M Q := by
  subst hq
  have e : w32 a = a := w32_id ha1 ha2
  have e2 : w32 b = b := w32_id hb1 hb2
  by_cases hc : a < b
  · obtain ⟨r, M9, h, g⟩ := kt hc
    exact ⟨r, M9, h, go_icmp_lt hd ht (fun _ => g) (fun h9 => absurd (by rw [e, e2] at h9; omega) (fun h8 : False => h8))⟩
  · obtain ⟨r, M9, h, g⟩ := kf hc
    exact ⟨r, M9, h, go_icmp_lt hd ht (fun h9 => absurd (by rw [e, e2] at h9; omega) (fun h8 : False => h8)) (fun _ => g)⟩
theorem p_icmp_ge {a b off : Int} (tgt q : Nat) (hd : decode mt.2.1 pc = .ok (.if_icmp .ge off, 3)) (ha1 : -2147483648 ≤ a) (ha2 : a < 2147483648) (hb1 : -2147483648 ≤ b) (hb2 : b < 2147483648) (kt : b ≤ a → zP l X d mt tgt L S M Q) (kf : ¬ b ≤ a → zP l X d mt q L S M Q) (ht : (pc : Int) + off = (tgt : Int) := by rfl) (hq : pc + 3 = q := by rfl) : zP l X d mt pc L (zi b :: zi a :: S) M Q := by
  subst hq
  have e : w32 a = a := w32_id ha1 ha2
  have e2 : w32 b = b := w32_id hb1 hb2
  by_cases hc : b ≤ a
  · obtain ⟨r, M9, h, g⟩ := kt hc
    exact ⟨r, M9, h, go_icmp_ge hd ht (fun _ => g) (fun h9 => absurd (by rw [e, e2] at h9; omega) (fun h8 : False => h8))⟩
  · obtain ⟨r, M9, h, g⟩ := kf hc
    exact ⟨r, M9, h, go_icmp_ge hd ht (fun h9 => absurd (by rw [e, e2] at h9; omega) (fun h8 : False => h8)) (fun _ => g)⟩
theorem p_icmp_gt {a b off : Int} (tgt q : Nat) (hd : decode mt.2.1 pc = .ok (.if_icmp .gt off, 3)) (ha1 : -2147483648 ≤ a) (ha2 : a < 2147483648) (hb1 : -2147483648 ≤ b) (hb2 : b < 2147483648) (kt : b < a → zP l X d mt tgt L S M Q) (kf : ¬ b < a → zP l X d mt q L S M Q) (ht : (pc : Int) + off = (tgt : Int) := by rfl) (hq : pc + 3 = q := by rfl) : zP l X d mt pc L (zi b :: zi a :: S) M Q := by
  subst hq
  have e : w32 a = a := w32_id ha1 ha2
  have e2 : w32 b = b := w32_id hb1 hb2
  by_cases hc : b < a
  · obtain ⟨r, M9, h, g⟩ := kt hc
    exact ⟨r, M9, h, go_icmp_gt hd ht (fun _ => g) (fun h9 => absurd (by rw [e, e2] at h9; omega) (fun h8 : False => h8))⟩
  · obtain ⟨r, M9, h, g⟩ := kf hc
    exact ⟨r, M9, h, go_icmp_gt hd ht (fun h9 => absurd (by rw [e, e2] at h9; omega) (fun h8 : False => h8)) (fun _ => g)⟩
theorem p_icmp_le {a b off : Int} (tgt q : Nat) (hd : decode mt.2.1 pc = .ok (.if_icmp .le off, 3)) (ha1 : -2147483648 ≤ a) (ha2 : a < 2147483648) (hb1 : -2147483648 ≤ b) (hb2 : b < 2147483648) (kt : a ≤ b → zP l X d mt tgt L S M Q) (kf : ¬ a ≤ b → zP l X d mt q L S M Q) (ht : (pc : Int) + off = (tgt : Int) := by rfl) (hq : pc + 3 = q := by rfl) : zP l X d mt pc L (zi b :: zi a :: S) M Q := by
  subst hq
  have e : w32 a = a := w32_id ha1 ha2
  have e2 : w32 b = b := w32_id hb1 hb2
  by_cases hc : a ≤ b
  · obtain ⟨r, M9, h, g⟩ := kt hc
    exact ⟨r, M9, h, go_icmp_le hd ht (fun _ => g) (fun h9 => absurd (by rw [e, e2] at h9; omega) (fun h8 : False => h8))⟩
  · obtain ⟨r, M9, h, g⟩ := kf hc
    exact ⟨r, M9, h, go_icmp_le hd ht (fun h9 => absurd (by rw [e, e2] at h9; omega) (fun h8 : False => h8)) (fun _ => g)⟩
theorem p_goto {off : Int} (tgt : Nat) (hd : decode mt.2.1 pc = .ok (.goto off, 3)) (kk : zP l X d mt tgt L S M Q) (ht : (pc : Int) + off = (tgt : Int) := by rfl) : zP l X d mt pc L S M Q := by
  obtain ⟨r, M9, h, g⟩ := kk
  exact ⟨r, M9, h, go_goto hd ht g⟩
theorem p_tabD {a dflt lo hi : Int} {offs : Array Int} {len : Nat} (tgt : Nat) (hd : decode mt.2.1 pc = .ok (.tableswitch dflt lo hi offs, len)) (ha1 : -2147483648 ≤ a) (ha2 : a < 2147483648) (h : a < lo ∨ hi < a) (kk : zP l X d mt tgt L S M Q) (ht : (pc : Int) + dflt = (tgt : Int) := by rfl) : zP l X d mt pc L (zi a :: S) M Q := by
  obtain ⟨r, M9, h9, g⟩ := kk
  exact ⟨r, M9, h9, go_tableOut hd (by rw [w32_id ha1 ha2]; exact h) ht g⟩
theorem p_tabJ {a dflt lo hi off : Int} {offs : Array Int} {len : Nat} (j : Int) (tgt : Nat) (hd : decode mt.2.1 pc = .ok (.tableswitch dflt lo hi offs, len)) (hj : a = j) (hl : ¬ w32 j < lo) (hh : ¬ hi < w32 j) (ho : offs[(w32 j - lo).toNat]? = some off) (kk : zP l X d mt tgt L S M Q) (ht : (pc : Int) + off = (tgt : Int) := by rfl) : zP l X d mt pc L (zi a :: S) M Q := by
  subst hj
  obtain ⟨r, M9, h9, g⟩ := kk
  exact ⟨r, M9, h9, go_tableIn hd hl hh ho ht g⟩
theorem p_lookJ {a dflt off : Int} {ps : Array (Int × Int)} {len : Nat} (j : Int) (tgt : Nat) (hd : decode mt.2.1 pc = .ok (.lookupswitch dflt ps, len)) (hj : a = j) (hp : (ps.toList.zip (ps.toList.drop 1)).all (fun (a, next) => a.1 < next.1) = true) (ho : Op.lookupswitch.offset ps.toList dflt (w32 j) = off) (kk : zP l X d mt tgt L S M Q) (ht : (pc : Int) + off = (tgt : Int) := by rfl) : zP l X d mt pc L (zi a :: S) M Q := by
  subst hj
  obtain ⟨r, M9, h9, g⟩ := kk
  exact ⟨r, M9, h9, go_lookup hd hp ho ht g⟩
theorem p_getI {z : Int} {ci k idx : Nat} (c q : Nat) (hd : decode mt.2.1 pc = .ok (.getfield idx, 3)) (hf : zF mt.1 idx ci k 0) (hc : zTT[c]? = some (.inl ci)) (kk : zP l X d mt q L (zi (M c k) :: S) M Q) (hz : z = (c : Int) := by rfl) (hq : pc + 3 = q := by rfl) : zP l X d mt pc L (zr z :: S) M Q := by
  subst hq
  obtain ⟨r, M9, h, g⟩ := kk
  obtain ⟨C, T, N, f1, f2, f3, f4, f5, f6⟩ := hf
  exact ⟨r, M9, h, go_get c hz hd hc (pz_lt139 hc) f1 f2 f3 f4 f5 f6 g⟩
theorem p_getJ {z : Int} {ci k idx : Nat} (c q : Nat) (hd : decode mt.2.1 pc = .ok (.getfield idx, 3)) (hf : zF mt.1 idx ci k 1) (hc : zTT[c]? = some (.inl ci)) (kk : zP l X d mt q L (zl (M c k) :: S) M Q) (hz : z = (c : Int) := by rfl) (hq : pc + 3 = q := by rfl) : zP l X d mt pc L (zr z :: S) M Q := by
  subst hq
  obtain ⟨r, M9, h, g⟩ := kk
  obtain ⟨C, T, N, f1, f2, f3, f4, f5, f6⟩ := hf
  exact ⟨r, M9, h, go_get c hz hd hc (pz_lt139 hc) f1 f2 f3 f4 f5 f6 g⟩
theorem p_getR {z : Int} {ci k idx : Nat} (c q : Nat) (hd : decode mt.2.1 pc = .ok (.getfield idx, 3)) (hf : zF mt.1 idx ci k 2) (hc : zTT[c]? = some (.inl ci)) {v : Int} (hv : M c k = v) (kk : zP l X d mt q L (zr v :: S) M Q) (hz : z = (c : Int) := by rfl) (hq : pc + 3 = q := by rfl) : zP l X d mt pc L (zr z :: S) M Q := by
  subst hq
  obtain ⟨r, M9, h, g⟩ := kk
  obtain ⟨C, T, N, f1, f2, f3, f4, f5, f6⟩ := hf
  exact ⟨r, M9, h, go_get c hz hd hc (pz_lt139 hc) f1 f2 f3 f4 f5 f6 (by rw [hv]; exact g)⟩
theorem p_putI {z v : Int} {ci k idx : Nat} (c q : Nat) (hd : decode mt.2.1 pc = .ok (.putfield idx, 3)) (hf : zFP mt.1 idx ci k 0 .int) (hc : zTT[c]? = some (.inl ci)) (kk : zP l X d mt q L S (zset M c k v) Q) (hz : z = (c : Int) := by rfl) (hq : pc + 3 = q := by rfl) : zP l X d mt pc L (zi v :: zr z :: S) M Q := by
  subst hq
  obtain ⟨r, M9, h, g⟩ := kk
  obtain ⟨C, T, N, ty0, f1, f2, f3, f4, f5, f6, f7, f8, f9, f10⟩ := hf
  exact ⟨r, M9, h, go_put c hz hd hc (pz_lt139 hc) f1 f2 f3 f4 f5 f6 f7 f8 f9 (by rw [f10]; exact trivial) g⟩
theorem p_putZ {z v : Int} {ci k idx : Nat} (c q : Nat) (hd : decode mt.2.1 pc = .ok (.putfield idx, 3)) (hf : zFP mt.1 idx ci k 0 .boolean) (hc : zTT[c]? = some (.inl ci)) (hv : v = 0 ∨ v = 1) (kk : zP l X d mt q L S (zset M c k v) Q) (hz : z = (c : Int) := by rfl) (hq : pc + 3 = q := by rfl) : zP l X d mt pc L (zi v :: zr z :: S) M Q := by
  subst hq
  obtain ⟨r, M9, h, g⟩ := kk
  obtain ⟨C, T, N, ty0, f1, f2, f3, f4, f5, f6, f7, f8, f9, f10⟩ := hf
  exact ⟨r, M9, h, go_put c hz hd hc (pz_lt139 hc) f1 f2 f3 f4 f5 f6 f7 f8 f9 (by rw [f10]; exact hv) g⟩
theorem p_putJ {z v : Int} {ci k idx : Nat} (c q : Nat) (hd : decode mt.2.1 pc = .ok (.putfield idx, 3)) (hf : zFP mt.1 idx ci k 1 .long) (hc : zTT[c]? = some (.inl ci)) (kk : zP l X d mt q L S (zset M c k v) Q) (hz : z = (c : Int) := by rfl) (hq : pc + 3 = q := by rfl) : zP l X d mt pc L (zl v :: zr z :: S) M Q := by
  subst hq
  obtain ⟨r, M9, h, g⟩ := kk
  obtain ⟨C, T, N, ty0, f1, f2, f3, f4, f5, f6, f7, f8, f9, f10⟩ := hf
  exact ⟨r, M9, h, go_put c hz hd hc (pz_lt139 hc) f1 f2 f3 f4 f5 f6 f7 f8 f9 (by rw [f10]; exact trivial) g⟩
theorem p_putR {z v : Int} {ci k idx : Nat} {ty : FieldType} (c q : Nat) (hd : decode mt.2.1 pc = .ok (.putfield idx, 3)) (hf : zFP mt.1 idx ci k 2 ty) (hc : zTT[c]? = some (.inl ci)) (hv : pz_fit ty (zr v)) (kk : zP l X d mt q L S (zset M c k v) Q) (hz : z = (c : Int) := by rfl) (hq : pc + 3 = q := by rfl) : zP l X d mt pc L (zr v :: zr z :: S) M Q := by
  subst hq
  obtain ⟨r, M9, h, g⟩ := kk
  obtain ⟨C, T, N, ty0, f1, f2, f3, f4, f5, f6, f7, f8, f9, f10⟩ := hf
  exact ⟨r, M9, h, go_put c hz hd hc (pz_lt139 hc) f1 f2 f3 f4 f5 f6 f7 f8 f9 (by rw [f10]; exact hv) g⟩
theorem p_iald {z i : Int} {len : Nat} (c q : Nat) (hd : decode mt.2.1 pc = .ok (.iaload, 1)) (hc : zTT[c]? = some (.inr (0, len))) (hi0 : 0 ≤ i) (hi1 : i < (len : Int)) (kk : zP l X d mt q L (zi (M c i.toNat) :: S) M Q) (hz : z = (c : Int) := by rfl) (hq : pc + 1 = q := by rfl) : zP l X d mt pc L (zi i :: zr z :: S) M Q := by
  subst hq
  obtain ⟨r, M9, h, g⟩ := kk
  exact ⟨r, M9, h, go_iald c hz hd hc (pz_lt139 hc) hi0 hi1 g⟩
theorem p_bald {z i : Int} {len : Nat} (c q : Nat) (hd : decode mt.2.1 pc = .ok (.baload, 1)) (hc : zTT[c]? = some (.inr (1, len))) (hi0 : 0 ≤ i) (hi1 : i < (len : Int)) (kk : zP l X d mt q L (zi (M c i.toNat) :: S) M Q) (hz : z = (c : Int) := by rfl) (hq : pc + 1 = q := by rfl) : zP l X d mt pc L (zi i :: zr z :: S) M Q := by
  subst hq
  obtain ⟨r, M9, h, g⟩ := kk
  exact ⟨r, M9, h, go_bald c hz hd hc (pz_lt139 hc) hi0 hi1 g⟩
theorem p_zald {z i : Int} {len : Nat} (c q : Nat) (hd : decode mt.2.1 pc = .ok (.baload, 1)) (hc : zTT[c]? = some (.inr (4, len))) (hi0 : 0 ≤ i) (hi1 : i < (len : Int)) (kk : zP l X d mt q L (zi (M c i.toNat) :: S) M Q) (hz : z = (c : Int) := by rfl) (hq : pc + 1 = q := by rfl) : zP l X d mt pc L (zi i :: zr z :: S) M Q := by
  subst hq
  obtain ⟨r, M9, h, g⟩ := kk
  exact ⟨r, M9, h, go_zald c hz hd hc (pz_lt139 hc) hi0 hi1 g⟩
theorem p_lald {z i : Int} {len : Nat} (c q : Nat) (hd : decode mt.2.1 pc = .ok (.laload, 1)) (hc : zTT[c]? = some (.inr (2, len))) (hi0 : 0 ≤ i) (hi1 : i < (len : Int)) (kk : zP l X d mt q L (zl (M c i.toNat) :: S) M Q) (hz : z = (c : Int) := by rfl) (hq : pc + 1 = q := by rfl) : zP l X d mt pc L (zi i :: zr z :: S) M Q := by
  subst hq
  obtain ⟨r, M9, h, g⟩ := kk
  exact ⟨r, M9, h, go_lald c hz hd hc (pz_lt139 hc) hi0 hi1 g⟩
theorem p_aald {z i : Int} {len : Nat} (c q : Nat) (hd : decode mt.2.1 pc = .ok (.aaload, 1)) (hc : zTT[c]? = some (.inr (3, len))) (hi0 : 0 ≤ i) (hi1 : i < (len : Int)) (kk : zP l X d mt q L (zr (M c i.toNat) :: S) M Q) (hz : z = (c : Int) := by rfl) (hq : pc + 1 = q := by rfl) : zP l X d mt pc L (zi i :: zr z :: S) M Q := by
  subst hq
  obtain ⟨r, M9, h, g⟩ := kk
  exact ⟨r, M9, h, go_aald c hz hd hc (pz_lt139 hc) hi0 hi1 g⟩
theorem p_iast {z i v : Int} {len : Nat} (c q : Nat) (hd : decode mt.2.1 pc = .ok (.iastore, 1)) (hc : zTT[c]? = some (.inr (0, len))) (hi0 : 0 ≤ i) (hi1 : i < (len : Int)) (kk : zP l X d mt q L S (zset M c i.toNat v) Q) (hz : z = (c : Int) := by rfl) (hq : pc + 1 = q := by rfl) : zP l X d mt pc L (zi v :: zi i :: zr z :: S) M Q := by
  subst hq
  obtain ⟨r, M9, h, g⟩ := kk
  exact ⟨r, M9, h, go_iast c hz hd hc (pz_lt139 hc) hi0 hi1 g⟩
theorem p_bast {z i v : Int} {len : Nat} (c q : Nat) (hd : decode mt.2.1 pc = .ok (.bastore, 1)) (hc : zTT[c]? = some (.inr (1, len))) (hi0 : 0 ≤ i) (hi1 : i < (len : Int)) (kk : zP l X d mt q L S (zset M c i.toNat (z_byte v)) Q) (hz : z = (c : Int) := by rfl) (hq : pc + 1 = q := by rfl) : zP l X d mt pc L (zi v :: zi i :: zr z :: S) M Q := by
  subst hq
  obtain ⟨r, M9, h, g⟩ := kk
  exact ⟨r, M9, h, go_bast c hz hd hc (pz_lt139 hc) hi0 hi1 g⟩
theorem p_zast {z i v : Int} {len : Nat} (c q : Nat) (hd : decode mt.2.1 pc = .ok (.bastore, 1)) (hc : zTT[c]? = some (.inr (4, len))) (hi0 : 0 ≤ i) (hi1 : i < (len : Int)) (hv : v = 0 ∨ v = 1) (kk : zP l X d mt q L S (zset M c i.toNat v) Q) (hz : z = (c : Int) := by rfl) (hq : pc + 1 = q := by rfl) : zP l X d mt pc L (zi v :: zi i :: zr z :: S) M Q := by
  subst hq
  obtain ⟨r, M9, h, g⟩ := kk
  exact ⟨r, M9, h, go_zast c hz hd hc (pz_lt139 hc) hi0 hi1 hv g⟩
theorem p_last {z i v : Int} {len : Nat} (c q : Nat) (hd : decode mt.2.1 pc = .ok (.lastore, 1)) (hc : zTT[c]? = some (.inr (2, len))) (hi0 : 0 ≤ i) (hi1 : i < (len : Int)) (kk : zP l X d mt q L S (zset M c i.toNat v) Q) (hz : z = (c : Int) := by rfl) (hq : pc + 1 = q := by rfl) : zP l X d mt pc L (zl v :: zi i :: zr z :: S) M Q := by
  subst hq
  obtain ⟨r, M9, h, g⟩ := kk
  exact ⟨r, M9, h, go_last c hz hd hc (pz_lt139 hc) hi0 hi1 g⟩
theorem p_ialdn {z i : Int} {len : Nat} (c q k : Nat) (hd : decode mt.2.1 pc = .ok (.iaload, 1)) (hc : zTT[c]? = some (.inr (0, len))) (hi : i = (k : Int)) (hk : k < len) (kk : zP l X d mt q L (zi (M c k) :: S) M Q) (hz : z = (c : Int) := by rfl) (hq : pc + 1 = q := by rfl) : zP l X d mt pc L (zi i :: zr z :: S) M Q := by
  subst hi
  exact p_iald c q hd hc (by omega) (by omega) (by rw [Int.toNat_natCast]; exact kk) hz hq
theorem p_baldn {z i : Int} {len : Nat} (c q k : Nat) (hd : decode mt.2.1 pc = .ok (.baload, 1)) (hc : zTT[c]? = some (.inr (1, len))) (hi : i = (k : Int)) (hk : k < len) (kk : zP l X d mt q L (zi (M c k) :: S) M Q) (hz : z = (c : Int) := by rfl) (hq : pc + 1 = q := by rfl) : zP l X d mt pc L (zi i :: zr z :: S) M Q := by
  subst hi
  exact p_bald c q hd hc (by omega) (by omega) (by rw [Int.toNat_natCast]; exact kk) hz hq
theorem p_zaldn {z i : Int} {len : Nat} (c q k : Nat) (hd : decode mt.2.1 pc = .ok (.baload, 1)) (hc : zTT[c]? = some (.inr (4, len))) (hi : i = (k : Int)) (hk : k < len) (kk : zP l X d mt q L (zi (M c k) :: S) M Q) (hz : z = (c : Int) := by rfl) (hq : pc + 1 = q := by rfl) : zP l X d mt pc L (zi i :: zr z :: S) M Q := by
  subst hi
  exact p_zald c q hd hc (by omega) (by omega) (by rw [Int.toNat_natCast]; exact kk) hz hq
theorem p_laldn {z i : Int} {len : Nat} (c q k : Nat) (hd : decode mt.2.1 pc = .ok (.laload, 1)) (hc : zTT[c]? = some (.inr (2, len))) (hi : i = (k : Int)) (hk : k < len) (kk : zP l X d mt q L (zl (M c k) :: S) M Q) (hz : z = (c : Int) := by rfl) (hq : pc + 1 = q := by rfl) : zP l X d mt pc L (zi i :: zr z :: S) M Q := by
  subst hi
  exact p_lald c q hd hc (by omega) (by omega) (by rw [Int.toNat_natCast]; exact kk) hz hq
theorem p_aaldn {z i : Int} {len : Nat} (c q k : Nat) (hd : decode mt.2.1 pc = .ok (.aaload, 1)) (hc : zTT[c]? = some (.inr (3, len))) (hi : i = (k : Int)) (hk : k < len) (kk : zP l X d mt q L (zr (M c k) :: S) M Q) (hz : z = (c : Int) := by rfl) (hq : pc + 1 = q := by rfl) : zP l X d mt pc L (zi i :: zr z :: S) M Q := by
  subst hi
  exact p_aald c q hd hc (by omega) (by omega) (by rw [Int.toNat_natCast]; exact kk) hz hq
theorem p_iastn {z i v : Int} {len : Nat} (c q k : Nat) (hd : decode mt.2.1 pc = .ok (.iastore, 1)) (hc : zTT[c]? = some (.inr (0, len))) (hi : i = (k : Int)) (hk : k < len) (kk : zP l X d mt q L S (zset M c k v) Q) (hz : z = (c : Int) := by rfl) (hq : pc + 1 = q := by rfl) : zP l X d mt pc L (zi v :: zi i :: zr z :: S) M Q := by
  subst hi
  exact p_iast c q hd hc (by omega) (by omega) (by rw [Int.toNat_natCast]; exact kk) hz hq
theorem p_bastn {z i v : Int} {len : Nat} (c q k : Nat) (hd : decode mt.2.1 pc = .ok (.bastore, 1)) (hc : zTT[c]? = some (.inr (1, len))) (hi : i = (k : Int)) (hk : k < len) (kk : zP l X d mt q L S (zset M c k (z_byte v)) Q) (hz : z = (c : Int) := by rfl) (hq : pc + 1 = q := by rfl) : zP l X d mt pc L (zi v :: zi i :: zr z :: S) M Q := by
  subst hi
  exact p_bast c q hd hc (by omega) (by omega) (by rw [Int.toNat_natCast]; exact kk) hz hq
theorem p_zastn {z i v : Int} {len : Nat} (c q k : Nat) (hd : decode mt.2.1 pc = .ok (.bastore, 1)) (hc : zTT[c]? = some (.inr (4, len))) (hi : i = (k : Int)) (hk : k < len) (hv : v = 0 ∨ v = 1) (kk : zP l X d mt q L S (zset M c k v) Q) (hz : z = (c : Int) := by rfl) (hq : pc + 1 = q := by rfl) : zP l X d mt pc L (zi v :: zi i :: zr z :: S) M Q := by
  subst hi
  exact p_zast c q hd hc (by omega) (by omega) hv (by rw [Int.toNat_natCast]; exact kk) hz hq
theorem p_lastn {z i v : Int} {len : Nat} (c q k : Nat) (hd : decode mt.2.1 pc = .ok (.lastore, 1)) (hc : zTT[c]? = some (.inr (2, len))) (hi : i = (k : Int)) (hk : k < len) (kk : zP l X d mt q L S (zset M c k v) Q) (hz : z = (c : Int) := by rfl) (hq : pc + 1 = q := by rfl) : zP l X d mt pc L (zl v :: zi i :: zr z :: S) M Q := by
  subst hi
  exact p_last c q hd hc (by omega) (by omega) (by rw [Int.toNat_natCast]; exact kk) hz hq
theorem p_callV0i {z : Int} {ci idx d' : Nat} {y : MethodName} {mt' : ZT} {Qc : Int → ZM → Prop} (c q : Nat) (hd : decode mt.2.1 pc = .ok (.invokevirtual idx, 3)) (hM : zCi l X d' y mt' (zr (c : Int) :: []) M Qc) (hlk : Cond.methodLink mt.1 idx y ∈ lwg) (hmv : zMV y mt' 0) (hc : zTT[c]? = some (.inl ci)) (hcl : (vwCl[ci]?).map (fun r => r.1) = some y.cls) (hdd : d' + 1 ≤ d) (hrs : pz_cats S ≤ 8) (kk : ∀ a M', Qc a M' → zP l X d mt q L (zi a :: S) M' Q) (hz : z = (c : Int) := by rfl) (hq : pc + 3 = q := by rfl) : zP l X d mt pc L (zr z :: S) M Q := by
  subst hq
  subst hz
  obtain ⟨r1, M1, ⟨a, rfl, hQ1⟩, hM1⟩ := hM
  obtain ⟨r, M9, h, g⟩ := kk a M1 hQ1
  obtain ⟨⟨C, T, N⟩, f1, f2⟩ := Option.map_eq_some_iff.mp hcl
  exact ⟨r, M9, h, go_callV [] S c rfl hd hM1 hlk hmv hc (pz_lt139 hc) f1 f2 hdd hrs (Nat.le_refl _) g⟩
theorem p_callS0i {idx d' : Nat} {y : MethodName} {mt' : ZT} {Qc : Int → ZM → Prop} (q : Nat) (hd : decode mt.2.1 pc = .ok (.invokestatic idx, 3)) (hM : zCi l X d' y mt' [] M Qc) (hlk : Cond.methodLink mt.1 idx y ∈ lwg) (hmv : zMS y mt' 0) (hdd : d' + 1 ≤ d) (hrs : pz_cats S ≤ 8) (kk : ∀ a M', Qc a M' → zP l X d mt q L (zi a :: S) M' Q) (hq : pc + 3 = q := by rfl) : zP l X d mt pc L (S) M Q := by
  subst hq
  obtain ⟨r1, M1, ⟨a, rfl, hQ1⟩, hM1⟩ := hM
  obtain ⟨r, M9, h, g⟩ := kk a M1 hQ1
  exact ⟨r, M9, h, go_callS [] S rfl hd hM1 hlk hmv hdd hrs (Nat.le_refl _) g⟩
theorem p_callN0i {idx d' : Nat} {y : MethodName} {mt' : ZT} {host : String} {Qc : Int → ZM → Prop} (q : Nat) (hd : decode mt.2.1 pc = .ok (.invokestatic idx, 3)) (hM : zCi l X d' y mt' [] M Qc) (hlk : Cond.methodLinkNest mt.1 idx y host ∈ lw_tbl) (hmv : zMS y mt' 0) (hdd : d' + 1 ≤ d) (hrs : pz_cats S ≤ 8) (kk : ∀ a M', Qc a M' → zP l X d mt q L (zi a :: S) M' Q) (hq : pc + 3 = q := by rfl) : zP l X d mt pc L (S) M Q := by
  subst hq
  obtain ⟨r1, M1, ⟨a, rfl, hQ1⟩, hM1⟩ := hM
  obtain ⟨r, M9, h, g⟩ := kk a M1 hQ1
  exact ⟨r, M9, h, go_callSN [] S rfl hd hM1 hlk hmv hdd hrs (Nat.le_refl _) g⟩
theorem p_callV0l {z : Int} {ci idx d' : Nat} {y : MethodName} {mt' : ZT} {Qc : Int → ZM → Prop} (c q : Nat) (hd : decode mt.2.1 pc = .ok (.invokevirtual idx, 3)) (hM : zCl l X d' y mt' (zr (c : Int) :: []) M Qc) (hlk : Cond.methodLink mt.1 idx y ∈ lwg) (hmv : zMV y mt' 0) (hc : zTT[c]? = some (.inl ci)) (hcl : (vwCl[ci]?).map (fun r => r.1) = some y.cls) (hdd : d' + 1 ≤ d) (hrs : pz_cats S ≤ 8) (kk : ∀ a M', Qc a M' → zP l X d mt q L (zl a :: S) M' Q) (hz : z = (c : Int) := by rfl) (hq : pc + 3 = q := by rfl) : zP l X d mt pc L (zr z :: S) M Q := by
  subst hq
  subst hz
  obtain ⟨r1, M1, ⟨a, rfl, hQ1⟩, hM1⟩ := hM
  obtain ⟨r, M9, h, g⟩ := kk a M1 hQ1
  obtain ⟨⟨C, T, N⟩, f1, f2⟩ := Option.map_eq_some_iff.mp hcl
  exact ⟨r, M9, h, go_callV [] S c rfl hd hM1 hlk hmv hc (pz_lt139 hc) f1 f2 hdd hrs (Nat.le_refl _) g⟩
theorem p_callS0l {idx d' : Nat} {y : MethodName} {mt' : ZT} {Qc : Int → ZM → Prop} (q : Nat) (hd : decode mt.2.1 pc = .ok (.invokestatic idx, 3)) (hM : zCl l X d' y mt' [] M Qc) (hlk : Cond.methodLink mt.1 idx y ∈ lwg) (hmv : zMS y mt' 0) (hdd : d' + 1 ≤ d) (hrs : pz_cats S ≤ 8) (kk : ∀ a M', Qc a M' → zP l X d mt q L (zl a :: S) M' Q) (hq : pc + 3 = q := by rfl) : zP l X d mt pc L (S) M Q := by
  subst hq
  obtain ⟨r1, M1, ⟨a, rfl, hQ1⟩, hM1⟩ := hM
  obtain ⟨r, M9, h, g⟩ := kk a M1 hQ1
  exact ⟨r, M9, h, go_callS [] S rfl hd hM1 hlk hmv hdd hrs (Nat.le_refl _) g⟩
theorem p_callN0l {idx d' : Nat} {y : MethodName} {mt' : ZT} {host : String} {Qc : Int → ZM → Prop} (q : Nat) (hd : decode mt.2.1 pc = .ok (.invokestatic idx, 3)) (hM : zCl l X d' y mt' [] M Qc) (hlk : Cond.methodLinkNest mt.1 idx y host ∈ lw_tbl) (hmv : zMS y mt' 0) (hdd : d' + 1 ≤ d) (hrs : pz_cats S ≤ 8) (kk : ∀ a M', Qc a M' → zP l X d mt q L (zl a :: S) M' Q) (hq : pc + 3 = q := by rfl) : zP l X d mt pc L (S) M Q := by
  subst hq
  obtain ⟨r1, M1, ⟨a, rfl, hQ1⟩, hM1⟩ := hM
  obtain ⟨r, M9, h, g⟩ := kk a M1 hQ1
  exact ⟨r, M9, h, go_callSN [] S rfl hd hM1 hlk hmv hdd hrs (Nat.le_refl _) g⟩
theorem p_callV0v {z : Int} {ci idx d' : Nat} {y : MethodName} {mt' : ZT} {Qc : ZM → Prop} (c q : Nat) (hd : decode mt.2.1 pc = .ok (.invokevirtual idx, 3)) (hM : zCv l X d' y mt' (zr (c : Int) :: []) M Qc) (hlk : Cond.methodLink mt.1 idx y ∈ lwg) (hmv : zMV y mt' 0) (hc : zTT[c]? = some (.inl ci)) (hcl : (vwCl[ci]?).map (fun r => r.1) = some y.cls) (hdd : d' + 1 ≤ d) (hrs : pz_cats S ≤ 8) (kk : ∀ M', Qc M' → zP l X d mt q L S M' Q) (hz : z = (c : Int) := by rfl) (hq : pc + 3 = q := by rfl) : zP l X d mt pc L (zr z :: S) M Q := by
  subst hq
  subst hz
  obtain ⟨r1, M1, ⟨rfl, hQ1⟩, hM1⟩ := hM
  obtain ⟨r, M9, h, g⟩ := kk M1 hQ1
  obtain ⟨⟨C, T, N⟩, f1, f2⟩ := Option.map_eq_some_iff.mp hcl
  exact ⟨r, M9, h, go_callV [] S c rfl hd hM1 hlk hmv hc (pz_lt139 hc) f1 f2 hdd hrs (Nat.le_refl _) g⟩
theorem p_callS0v {idx d' : Nat} {y : MethodName} {mt' : ZT} {Qc : ZM → Prop} (q : Nat) (hd : decode mt.2.1 pc = .ok (.invokestatic idx, 3)) (hM : zCv l X d' y mt' [] M Qc) (hlk : Cond.methodLink mt.1 idx y ∈ lwg) (hmv : zMS y mt' 0) (hdd : d' + 1 ≤ d) (hrs : pz_cats S ≤ 8) (kk : ∀ M', Qc M' → zP l X d mt q L S M' Q) (hq : pc + 3 = q := by rfl) : zP l X d mt pc L (S) M Q := by
  subst hq
  obtain ⟨r1, M1, ⟨rfl, hQ1⟩, hM1⟩ := hM
  obtain ⟨r, M9, h, g⟩ := kk M1 hQ1
  exact ⟨r, M9, h, go_callS [] S rfl hd hM1 hlk hmv hdd hrs (Nat.le_refl _) g⟩
theorem p_callN0v {idx d' : Nat} {y : MethodName} {mt' : ZT} {host : String} {Qc : ZM → Prop} (q : Nat) (hd : decode mt.2.1 pc = .ok (.invokestatic idx, 3)) (hM : zCv l X d' y mt' [] M Qc) (hlk : Cond.methodLinkNest mt.1 idx y host ∈ lw_tbl) (hmv : zMS y mt' 0) (hdd : d' + 1 ≤ d) (hrs : pz_cats S ≤ 8) (kk : ∀ M', Qc M' → zP l X d mt q L S M' Q) (hq : pc + 3 = q := by rfl) : zP l X d mt pc L (S) M Q := by
  subst hq
  obtain ⟨r1, M1, ⟨rfl, hQ1⟩, hM1⟩ := hM
  obtain ⟨r, M9, h, g⟩ := kk M1 hQ1
  exact ⟨r, M9, h, go_callSN [] S rfl hd hM1 hlk hmv hdd hrs (Nat.le_refl _) g⟩
theorem p_callV1i {z : Int} {ci idx d' : Nat} {y : MethodName} {mt' : ZT} {v1 : ZV} {Qc : Int → ZM → Prop} (c q : Nat) (hd : decode mt.2.1 pc = .ok (.invokevirtual idx, 3)) (hM : zCi l X d' y mt' (zr (c : Int) :: [v1]) M Qc) (hlk : Cond.methodLink mt.1 idx y ∈ lwg) (hmv : zMV y mt' 1) (hc : zTT[c]? = some (.inl ci)) (hcl : (vwCl[ci]?).map (fun r => r.1) = some y.cls) (hdd : d' + 1 ≤ d) (hrs : pz_cats S ≤ 8) (kk : ∀ a M', Qc a M' → zP l X d mt q L (zi a :: S) M' Q) (hz : z = (c : Int) := by rfl) (hq : pc + 3 = q := by rfl) : zP l X d mt pc L (v1 :: zr z :: S) M Q := by
  subst hq
  subst hz
  obtain ⟨r1, M1, ⟨a, rfl, hQ1⟩, hM1⟩ := hM
  obtain ⟨r, M9, h, g⟩ := kk a M1 hQ1
  obtain ⟨⟨C, T, N⟩, f1, f2⟩ := Option.map_eq_some_iff.mp hcl
  exact ⟨r, M9, h, go_callV [v1] S c rfl hd hM1 hlk hmv hc (pz_lt139 hc) f1 f2 hdd hrs (Nat.le_refl _) g⟩
theorem p_callS1i {idx d' : Nat} {y : MethodName} {mt' : ZT} {v1 : ZV} {Qc : Int → ZM → Prop} (q : Nat) (hd : decode mt.2.1 pc = .ok (.invokestatic idx, 3)) (hM : zCi l X d' y mt' [v1] M Qc) (hlk : Cond.methodLink mt.1 idx y ∈ lwg) (hmv : zMS y mt' 1) (hdd : d' + 1 ≤ d) (hrs : pz_cats S ≤ 8) (kk : ∀ a M', Qc a M' → zP l X d mt q L (zi a :: S) M' Q) (hq : pc + 3 = q := by rfl) : zP l X d mt pc L (v1 :: S) M Q := by
  subst hq
  obtain ⟨r1, M1, ⟨a, rfl, hQ1⟩, hM1⟩ := hM
  obtain ⟨r, M9, h, g⟩ := kk a M1 hQ1
  exact ⟨r, M9, h, go_callS [v1] S rfl hd hM1 hlk hmv hdd hrs (Nat.le_refl _) g⟩
theorem p_callN1i {idx d' : Nat} {y : MethodName} {mt' : ZT} {host : String} {v1 : ZV} {Qc : Int → ZM → Prop} (q : Nat) (hd : decode mt.2.1 pc = .ok (.invokestatic idx, 3)) (hM : zCi l X d' y mt' [v1] M Qc) (hlk : Cond.methodLinkNest mt.1 idx y host ∈ lw_tbl) (hmv : zMS y mt' 1) (hdd : d' + 1 ≤ d) (hrs : pz_cats S ≤ 8) (kk : ∀ a M', Qc a M' → zP l X d mt q L (zi a :: S) M' Q) (hq : pc + 3 = q := by rfl) : zP l X d mt pc L (v1 :: S) M Q := by
  subst hq
  obtain ⟨r1, M1, ⟨a, rfl, hQ1⟩, hM1⟩ := hM
  obtain ⟨r, M9, h, g⟩ := kk a M1 hQ1
  exact ⟨r, M9, h, go_callSN [v1] S rfl hd hM1 hlk hmv hdd hrs (Nat.le_refl _) g⟩
theorem p_callV1l {z : Int} {ci idx d' : Nat} {y : MethodName} {mt' : ZT} {v1 : ZV} {Qc : Int → ZM → Prop} (c q : Nat) (hd : decode mt.2.1 pc = .ok (.invokevirtual idx, 3)) (hM : zCl l X d' y mt' (zr (c : Int) :: [v1]) M Qc) (hlk : Cond.methodLink mt.1 idx y ∈ lwg) (hmv : zMV y mt' 1) (hc : zTT[c]? = some (.inl ci)) (hcl : (vwCl[ci]?).map (fun r => r.1) = some y.cls) (hdd : d' + 1 ≤ d) (hrs : pz_cats S ≤ 8) (kk : ∀ a M', Qc a M' → zP l X d mt q L (zl a :: S) M' Q) (hz : z = (c : Int) := by rfl) (hq : pc + 3 = q := by rfl) : zP l X d mt pc L (v1 :: zr z :: S) M Q := by
  subst hq
  subst hz
  obtain ⟨r1, M1, ⟨a, rfl, hQ1⟩, hM1⟩ := hM
  obtain ⟨r, M9, h, g⟩ := kk a M1 hQ1
  obtain ⟨⟨C, T, N⟩, f1, f2⟩ := Option.map_eq_some_iff.mp hcl
  exact ⟨r, M9, h, go_callV [v1] S c rfl hd hM1 hlk hmv hc (pz_lt139 hc) f1 f2 hdd hrs (Nat.le_refl _) g⟩
theorem p_callS1l {idx d' : Nat} {y : MethodName} {mt' : ZT} {v1 : ZV} {Qc : Int → ZM → Prop} (q : Nat) (hd : decode mt.2.1 pc = .ok (.invokestatic idx, 3)) (hM : zCl l X d' y mt' [v1] M Qc) (hlk : Cond.methodLink mt.1 idx y ∈ lwg) (hmv : zMS y mt' 1) (hdd : d' + 1 ≤ d) (hrs : pz_cats S ≤ 8) (kk : ∀ a M', Qc a M' → zP l X d mt q L (zl a :: S) M' Q) (hq : pc + 3 = q := by rfl) : zP l X d mt pc L (v1 :: S) M Q := by
  subst hq
  obtain ⟨r1, M1, ⟨a, rfl, hQ1⟩, hM1⟩ := hM
  obtain ⟨r, M9, h, g⟩ := kk a M1 hQ1
  exact ⟨r, M9, h, go_callS [v1] S rfl hd hM1 hlk hmv hdd hrs (Nat.le_refl _) g⟩
theorem p_callN1l {idx d' : Nat} {y : MethodName} {mt' : ZT} {host : String} {v1 : ZV} {Qc : Int → ZM → Prop} (q : Nat) (hd : decode mt.2.1 pc = .ok (.invokestatic idx, 3)) (hM : zCl l X d' y mt' [v1] M Qc) (hlk : Cond.methodLinkNest mt.1 idx y host ∈ lw_tbl) (hmv : zMS y mt' 1) (hdd : d' + 1 ≤ d) (hrs : pz_cats S ≤ 8) (kk : ∀ a M', Qc a M' → zP l X d mt q L (zl a :: S) M' Q) (hq : pc + 3 = q := by rfl) : zP l X d mt pc L (v1 :: S) M Q := by
  subst hq
  obtain ⟨r1, M1, ⟨a, rfl, hQ1⟩, hM1⟩ := hM
  obtain ⟨r, M9, h, g⟩ := kk a M1 hQ1
  exact ⟨r, M9, h, go_callSN [v1] S rfl hd hM1 hlk hmv hdd hrs (Nat.le_refl _) g⟩
theorem p_callV1v {z : Int} {ci idx d' : Nat} {y : MethodName} {mt' : ZT} {v1 : ZV} {Qc : ZM → Prop} (c q : Nat) (hd : decode mt.2.1 pc = .ok (.invokevirtual idx, 3)) (hM : zCv l X d' y mt' (zr (c : Int) :: [v1]) M Qc) (hlk : Cond.methodLink mt.1 idx y ∈ lwg) (hmv : zMV y mt' 1) (hc : zTT[c]? = some (.inl ci)) (hcl : (vwCl[ci]?).map (fun r => r.1) = some y.cls) (hdd : d' + 1 ≤ d) (hrs : pz_cats S ≤ 8) (kk : ∀ M', Qc M' → zP l X d mt q L S M' Q) (hz : z = (c : Int) := by rfl) (hq : pc + 3 = q := by rfl) : zP l X d mt pc L (v1 :: zr z :: S) M Q := by
  subst hq
  subst hz
  obtain ⟨r1, M1, ⟨rfl, hQ1⟩, hM1⟩ := hM
  obtain ⟨r, M9, h, g⟩ := kk M1 hQ1
  obtain ⟨⟨C, T, N⟩, f1, f2⟩ := Option.map_eq_some_iff.mp hcl
  exact ⟨r, M9, h, go_callV [v1] S c rfl hd hM1 hlk hmv hc (pz_lt139 hc) f1 f2 hdd hrs (Nat.le_refl _) g⟩
theorem p_callS1v {idx d' : Nat} {y : MethodName} {mt' : ZT} {v1 : ZV} {Qc : ZM → Prop} (q : Nat) (hd : decode mt.2.1 pc = .ok (.invokestatic idx, 3)) (hM : zCv l X d' y mt' [v1] M Qc) (hlk : Cond.methodLink mt.1 idx y ∈ lwg) (hmv : zMS y mt' 1) (hdd : d' + 1 ≤ d) (hrs : pz_cats S ≤ 8) (kk : ∀ M', Qc M' → zP l X d mt q L S M' Q) (hq : pc + 3 = q := by rfl) : zP l X d mt pc L (v1 :: S) M Q := by
  subst hq
  obtain ⟨r1, M1, ⟨rfl, hQ1⟩, hM1⟩ := hM
  obtain ⟨r, M9, h, g⟩ := kk M1 hQ1
  exact ⟨r, M9, h, go_callS [v1] S rfl hd hM1 hlk hmv hdd hrs (Nat.le_refl _) g⟩
theorem p_callN1v {idx d' : Nat} {y : MethodName} {mt' : ZT} {host : String} {v1 : ZV} {Qc : ZM → Prop} (q : Nat) (hd : decode mt.2.1 pc = .ok (.invokestatic idx, 3)) (hM : zCv l X d' y mt' [v1] M Qc) (hlk : Cond.methodLinkNest mt.1 idx y host ∈ lw_tbl) (hmv : zMS y mt' 1) (hdd : d' + 1 ≤ d) (hrs : pz_cats S ≤ 8) (kk : ∀ M', Qc M' → zP l X d mt q L S M' Q) (hq : pc + 3 = q := by rfl) : zP l X d mt pc L (v1 :: S) M Q := by
  subst hq
  obtain ⟨r1, M1, ⟨rfl, hQ1⟩, hM1⟩ := hM
  obtain ⟨r, M9, h, g⟩ := kk M1 hQ1
  exact ⟨r, M9, h, go_callSN [v1] S rfl hd hM1 hlk hmv hdd hrs (Nat.le_refl _) g⟩
theorem p_callV2i {z : Int} {ci idx d' : Nat} {y : MethodName} {mt' : ZT} {v1 v2 : ZV} {Qc : Int → ZM → Prop} (c q : Nat) (hd : decode mt.2.1 pc = .ok (.invokevirtual idx, 3)) (hM : zCi l X d' y mt' (zr (c : Int) :: [v1, v2]) M Qc) (hlk : Cond.methodLink mt.1 idx y ∈ lwg) (hmv : zMV y mt' 2) (hc : zTT[c]? = some (.inl ci)) (hcl : (vwCl[ci]?).map (fun r => r.1) = some y.cls) (hdd : d' + 1 ≤ d) (hrs : pz_cats S ≤ 8) (kk : ∀ a M', Qc a M' → zP l X d mt q L (zi a :: S) M' Q) (hz : z = (c : Int) := by rfl) (hq : pc + 3 = q := by rfl) : zP l X d mt pc L (v2 :: v1 :: zr z :: S) M Q := by
  subst hq
  subst hz
  obtain ⟨r1, M1, ⟨a, rfl, hQ1⟩, hM1⟩ := hM
  obtain ⟨r, M9, h, g⟩ := kk a M1 hQ1
  obtain ⟨⟨C, T, N⟩, f1, f2⟩ := Option.map_eq_some_iff.mp hcl
  exact ⟨r, M9, h, go_callV [v1, v2] S c rfl hd hM1 hlk hmv hc (pz_lt139 hc) f1 f2 hdd hrs (Nat.le_refl _) g⟩
theorem p_callS2i {idx d' : Nat} {y : MethodName} {mt' : ZT} {v1 v2 : ZV} {Qc : Int → ZM → Prop} (q : Nat) (hd : decode mt.2.1 pc = .ok (.invokestatic idx, 3)) (hM : zCi l X d' y mt' [v1, v2] M Qc) (hlk : Cond.methodLink mt.1 idx y ∈ lwg) (hmv : zMS y mt' 2) (hdd : d' + 1 ≤ d) (hrs : pz_cats S ≤ 8) (kk : ∀ a M', Qc a M' → zP l X d mt q L (zi a :: S) M' Q) (hq : pc + 3 = q := by rfl) : zP l X d mt pc L (v2 :: v1 :: S) M Q := by
  subst hq
  obtain ⟨r1, M1, ⟨a, rfl, hQ1⟩, hM1⟩ := hM
  obtain ⟨r, M9, h, g⟩ := kk a M1 hQ1
  exact ⟨r, M9, h, go_callS [v1, v2] S rfl hd hM1 hlk hmv hdd hrs (Nat.le_refl _) g⟩
theorem p_callN2i {idx d' : Nat} {y : MethodName} {mt' : ZT} {host : String} {v1 v2 : ZV} {Qc : Int → ZM → Prop} (q : Nat) (hd : decode mt.2.1 pc = .ok (.invokestatic idx, 3)) (hM : zCi l X d' y mt' [v1, v2] M Qc) (hlk : Cond.methodLinkNest mt.1 idx y host ∈ lw_tbl) (hmv : zMS y mt' 2) (hdd : d' + 1 ≤ d) (hrs : pz_cats S ≤ 8) (kk : ∀ a M', Qc a M' → zP l X d mt q L (zi a :: S) M' Q) (hq : pc + 3 = q := by rfl) : zP l X d mt pc L (v2 :: v1 :: S) M Q := by
  subst hq
  obtain ⟨r1, M1, ⟨a, rfl, hQ1⟩, hM1⟩ := hM
  obtain ⟨r, M9, h, g⟩ := kk a M1 hQ1
  exact ⟨r, M9, h, go_callSN [v1, v2] S rfl hd hM1 hlk hmv hdd hrs (Nat.le_refl _) g⟩
theorem p_callV2l {z : Int} {ci idx d' : Nat} {y : MethodName} {mt' : ZT} {v1 v2 : ZV} {Qc : Int → ZM → Prop} (c q : Nat) (hd : decode mt.2.1 pc = .ok (.invokevirtual idx, 3)) (hM : zCl l X d' y mt' (zr (c : Int) :: [v1, v2]) M Qc) (hlk : Cond.methodLink mt.1 idx y ∈ lwg) (hmv : zMV y mt' 2) (hc : zTT[c]? = some (.inl ci)) (hcl : (vwCl[ci]?).map (fun r => r.1) = some y.cls) (hdd : d' + 1 ≤ d) (hrs : pz_cats S ≤ 8) (kk : ∀ a M', Qc a M' → zP l X d mt q L (zl a :: S) M' Q) (hz : z = (c : Int) := by rfl) (hq : pc + 3 = q := by rfl) : zP l X d mt pc L (v2 :: v1 :: zr z :: S) M Q := by
  subst hq
  subst hz
  obtain ⟨r1, M1, ⟨a, rfl, hQ1⟩, hM1⟩ := hM
  obtain ⟨r, M9, h, g⟩ := kk a M1 hQ1
  obtain ⟨⟨C, T, N⟩, f1, f2⟩ := Option.map_eq_some_iff.mp hcl
  exact ⟨r, M9, h, go_callV [v1, v2] S c rfl hd hM1 hlk hmv hc (pz_lt139 hc) f1 f2 hdd hrs (Nat.le_refl _) g⟩
theorem p_callS2l {idx d' : Nat} {y : MethodName} {mt' : ZT} {v1 v2 : ZV} {Qc : Int → ZM → Prop} (q : Nat) (hd : decode mt.2.1 pc = .ok (.invokestatic idx, 3)) (hM : zCl l X d' y mt' [v1, v2] M Qc) (hlk : Cond.methodLink mt.1 idx y ∈ lwg) (hmv : zMS y mt' 2) (hdd : d' + 1 ≤ d) (hrs : pz_cats S ≤ 8) (kk : ∀ a M', Qc a M' → zP l X d mt q L (zl a :: S) M' Q) (hq : pc + 3 = q := by rfl) : zP l X d mt pc L (v2 :: v1 :: S) M Q := by
  subst hq
  obtain ⟨r1, M1, ⟨a, rfl, hQ1⟩, hM1⟩ := hM
  obtain ⟨r, M9, h, g⟩ := kk a M1 hQ1
  exact ⟨r, M9, h, go_callS [v1, v2] S rfl hd hM1 hlk hmv hdd hrs (Nat.le_refl _) g⟩
theorem p_callN2l {idx d' : Nat} {y : MethodName} {mt' : ZT} {host : String} {v1 v2 : ZV} {Qc : Int → ZM → Prop} (q : Nat) (hd : decode mt.2.1 pc = .ok (.invokestatic idx, 3)) (hM : zCl l X d' y mt' [v1, v2] M Qc) (hlk : Cond.methodLinkNest mt.1 idx y host ∈ lw_tbl) (hmv : zMS y mt' 2) (hdd : d' + 1 ≤ d) (hrs : pz_cats S ≤ 8) (kk : ∀ a M', Qc a M' → zP l X d mt q L (zl a :: S) M' Q) (hq : pc + 3 = q := by rfl) : zP l X d mt pc L (v2 :: v1 :: S) M Q := by
  subst hq
  obtain ⟨r1, M1, ⟨a, rfl, hQ1⟩, hM1⟩ := hM
  obtain ⟨r, M9, h, g⟩ := kk a M1 hQ1
  exact ⟨r, M9, h, go_callSN [v1, v2] S rfl hd hM1 hlk hmv hdd hrs (Nat.le_refl _) g⟩
theorem p_callV2v {z : Int} {ci idx d' : Nat} {y : MethodName} {mt' : ZT} {v1 v2 : ZV} {Qc : ZM → Prop} (c q : Nat) (hd : decode mt.2.1 pc = .ok (.invokevirtual idx, 3)) (hM : zCv l X d' y mt' (zr (c : Int) :: [v1, v2]) M Qc) (hlk : Cond.methodLink mt.1 idx y ∈ lwg) (hmv : zMV y mt' 2) (hc : zTT[c]? = some (.inl ci)) (hcl : (vwCl[ci]?).map (fun r => r.1) = some y.cls) (hdd : d' + 1 ≤ d) (hrs : pz_cats S ≤ 8) (kk : ∀ M', Qc M' → zP l X d mt q L S M' Q) (hz : z = (c : Int) := by rfl) (hq : pc + 3 = q := by rfl) : zP l X d mt pc L (v2 :: v1 :: zr z :: S) M Q := by
  subst hq
  subst hz
  obtain ⟨r1, M1, ⟨rfl, hQ1⟩, hM1⟩ := hM
  obtain ⟨r, M9, h, g⟩ := kk M1 hQ1
  obtain ⟨⟨C, T, N⟩, f1, f2⟩ := Option.map_eq_some_iff.mp hcl
  exact ⟨r, M9, h, go_callV [v1, v2] S c rfl hd hM1 hlk hmv hc (pz_lt139 hc) f1 f2 hdd hrs (Nat.le_refl _) g⟩
theorem p_callS2v {idx d' : Nat} {y : MethodName} {mt' : ZT} {v1 v2 : ZV} {Qc : ZM → Prop} (q : Nat) (hd : decode mt.2.1 pc = .ok (.invokestatic idx, 3)) (hM : zCv l X d' y mt' [v1, v2] M Qc) (hlk : Cond.methodLink mt.1 idx y ∈ lwg) (hmv : zMS y mt' 2) (hdd : d' + 1 ≤ d) (hrs : pz_cats S ≤ 8) (kk : ∀ M', Qc M' → zP l X d mt q L S M' Q) (hq : pc + 3 = q := by rfl) : zP l X d mt pc L (v2 :: v1 :: S) M Q := by
  subst hq
  obtain ⟨r1, M1, ⟨rfl, hQ1⟩, hM1⟩ := hM
  obtain ⟨r, M9, h, g⟩ := kk M1 hQ1
  exact ⟨r, M9, h, go_callS [v1, v2] S rfl hd hM1 hlk hmv hdd hrs (Nat.le_refl _) g⟩
theorem p_callN2v {idx d' : Nat} {y : MethodName} {mt' : ZT} {host : String} {v1 v2 : ZV} {Qc : ZM → Prop} (q : Nat) (hd : decode mt.2.1 pc = .ok (.invokestatic idx, 3)) (hM : zCv l X d' y mt' [v1, v2] M Qc) (hlk : Cond.methodLinkNest mt.1 idx y host ∈ lw_tbl) (hmv : zMS y mt' 2) (hdd : d' + 1 ≤ d) (hrs : pz_cats S ≤ 8) (kk : ∀ M', Qc M' → zP l X d mt q L S M' Q) (hq : pc + 3 = q := by rfl) : zP l X d mt pc L (v2 :: v1 :: S) M Q := by
  subst hq
  obtain ⟨r1, M1, ⟨rfl, hQ1⟩, hM1⟩ := hM
  obtain ⟨r, M9, h, g⟩ := kk M1 hQ1
  exact ⟨r, M9, h, go_callSN [v1, v2] S rfl hd hM1 hlk hmv hdd hrs (Nat.le_refl _) g⟩
theorem p_callV3i {z : Int} {ci idx d' : Nat} {y : MethodName} {mt' : ZT} {v1 v2 v3 : ZV} {Qc : Int → ZM → Prop} (c q : Nat) (hd : decode mt.2.1 pc = .ok (.invokevirtual idx, 3)) (hM : zCi l X d' y mt' (zr (c : Int) :: [v1, v2, v3]) M Qc) (hlk : Cond.methodLink mt.1 idx y ∈ lwg) (hmv : zMV y mt' 3) (hc : zTT[c]? = some (.inl ci)) (hcl : (vwCl[ci]?).map (fun r => r.1) = some y.cls) (hdd : d' + 1 ≤ d) (hrs : pz_cats S ≤ 8) (kk : ∀ a M', Qc a M' → zP l X d mt q L (zi a :: S) M' Q) (hz : z = (c : Int) := by rfl) (hq : pc + 3 = q := by rfl) : zP l X d mt pc L (v3 :: v2 :: v1 :: zr z :: S) M Q := by
  subst hq
  subst hz
  obtain ⟨r1, M1, ⟨a, rfl, hQ1⟩, hM1⟩ := hM
  obtain ⟨r, M9, h, g⟩ := kk a M1 hQ1
  obtain ⟨⟨C, T, N⟩, f1, f2⟩ := Option.map_eq_some_iff.mp hcl
  exact ⟨r, M9, h, go_callV [v1, v2, v3] S c rfl hd hM1 hlk hmv hc (pz_lt139 hc) f1 f2 hdd hrs (Nat.le_refl _) g⟩
theorem p_callS3i {idx d' : Nat} {y : MethodName} {mt' : ZT} {v1 v2 v3 : ZV} {Qc : Int → ZM → Prop} (q : Nat) (hd : decode mt.2.1 pc = .ok (.invokestatic idx, 3)) (hM : zCi l X d' y mt' [v1, v2, v3] M Qc) (hlk : Cond.methodLink mt.1 idx y ∈ lwg) (hmv : zMS y mt' 3) (hdd : d' + 1 ≤ d) (hrs : pz_cats S ≤ 8) (kk : ∀ a M', Qc a M' → zP l X d mt q L (zi a :: S) M' Q) (hq : pc + 3 = q := by rfl) : zP l X d mt pc L (v3 :: v2 :: v1 :: S) M Q := by
  subst hq
  obtain ⟨r1, M1, ⟨a, rfl, hQ1⟩, hM1⟩ := hM
  obtain ⟨r, M9, h, g⟩ := kk a M1 hQ1
  exact ⟨r, M9, h, go_callS [v1, v2, v3] S rfl hd hM1 hlk hmv hdd hrs (Nat.le_refl _) g⟩
theorem p_callN3i {idx d' : Nat} {y : MethodName} {mt' : ZT} {host : String} {v1 v2 v3 : ZV} {Qc : Int → ZM → Prop} (q : Nat) (hd : decode mt.2.1 pc = .ok (.invokestatic idx, 3)) (hM : zCi l X d' y mt' [v1, v2, v3] M Qc) (hlk : Cond.methodLinkNest mt.1 idx y host ∈ lw_tbl) (hmv : zMS y mt' 3) (hdd : d' + 1 ≤ d) (hrs : pz_cats S ≤ 8) (kk : ∀ a M', Qc a M' → zP l X d mt q L (zi a :: S) M' Q) (hq : pc + 3 = q := by rfl) : zP l X d mt pc L (v3 :: v2 :: v1 :: S) M Q := by
  subst hq
  obtain ⟨r1, M1, ⟨a, rfl, hQ1⟩, hM1⟩ := hM
  obtain ⟨r, M9, h, g⟩ := kk a M1 hQ1
  exact ⟨r, M9, h, go_callSN [v1, v2, v3] S rfl hd hM1 hlk hmv hdd hrs (Nat.le_refl _) g⟩
theorem p_callV3l {z : Int} {ci idx d' : Nat} {y : MethodName} {mt' : ZT} {v1 v2 v3 : ZV} {Qc : Int → ZM → Prop} (c q : Nat) (hd : decode mt.2.1 pc = .ok (.invokevirtual idx, 3)) (hM : zCl l X d' y mt' (zr (c : Int) :: [v1, v2, v3]) M Qc) (hlk : Cond.methodLink mt.1 idx y ∈ lwg) (hmv : zMV y mt' 3) (hc : zTT[c]? = some (.inl ci)) (hcl : (vwCl[ci]?).map (fun r => r.1) = some y.cls) (hdd : d' + 1 ≤ d) (hrs : pz_cats S ≤ 8) (kk : ∀ a M', Qc a M' → zP l X d mt q L (zl a :: S) M' Q) (hz : z = (c : Int) := by rfl) (hq : pc + 3 = q := by rfl) : zP l X d mt pc L (v3 :: v2 :: v1 :: zr z :: S) M Q := by
  subst hq
  subst hz
  obtain ⟨r1, M1, ⟨a, rfl, hQ1⟩, hM1⟩ := hM
  obtain ⟨r, M9, h, g⟩ := kk a M1 hQ1
  obtain ⟨⟨C, T, N⟩, f1, f2⟩ := Option.map_eq_some_iff.mp hcl
  exact ⟨r, M9, h, go_callV [v1, v2, v3] S c rfl hd hM1 hlk hmv hc (pz_lt139 hc) f1 f2 hdd hrs (Nat.le_refl _) g⟩
theorem p_callS3l {idx d' : Nat} {y : MethodName} {mt' : ZT} {v1 v2 v3 : ZV} {Qc : Int → ZM → Prop} (q : Nat) (hd : decode mt.2.1 pc = .ok (.invokestatic idx, 3)) (hM : zCl l X d' y mt' [v1, v2, v3] M Qc) (hlk : Cond.methodLink mt.1 idx y ∈ lwg) (hmv : zMS y mt' 3) (hdd : d' + 1 ≤ d) (hrs : pz_cats S ≤ 8) (kk : ∀ a M', Qc a M' → zP l X d mt q L (zl a :: S) M' Q) (hq : pc + 3 = q := by rfl) : zP l X d mt pc L (v3 :: v2 :: v1 :: S) M Q := by
  subst hq
  obtain ⟨r1, M1, ⟨a, rfl, hQ1⟩, hM1⟩ := hM
  obtain ⟨r, M9, h, g⟩ := kk a M1 hQ1
  exact ⟨r, M9, h, go_callS [v1, v2, v3] S rfl hd hM1 hlk hmv hdd hrs (Nat.le_refl _) g⟩
theorem p_callN3l {idx d' : Nat} {y : MethodName} {mt' : ZT} {host : String} {v1 v2 v3 : ZV} {Qc : Int → ZM → Prop} (q : Nat) (hd : decode mt.2.1 pc = .ok (.invokestatic idx, 3)) (hM : zCl l X d' y mt' [v1, v2, v3] M Qc) (hlk : Cond.methodLinkNest mt.1 idx y host ∈ lw_tbl) (hmv : zMS y mt' 3) (hdd : d' + 1 ≤ d) (hrs : pz_cats S ≤ 8) (kk : ∀ a M', Qc a M' → zP l X d mt q L (zl a :: S) M' Q) (hq : pc + 3 = q := by rfl) : zP l X d mt pc L (v3 :: v2 :: v1 :: S) M Q := by
  subst hq
  obtain ⟨r1, M1, ⟨a, rfl, hQ1⟩, hM1⟩ := hM
  obtain ⟨r, M9, h, g⟩ := kk a M1 hQ1
  exact ⟨r, M9, h, go_callSN [v1, v2, v3] S rfl hd hM1 hlk hmv hdd hrs (Nat.le_refl _) g⟩
theorem p_callV3v {z : Int} {ci idx d' : Nat} {y : MethodName} {mt' : ZT} {v1 v2 v3 : ZV} {Qc : ZM → Prop} (c q : Nat) (hd : decode mt.2.1 pc = .ok (.invokevirtual idx, 3)) (hM : zCv l X d' y mt' (zr (c : Int) :: [v1, v2, v3]) M Qc) (hlk : Cond.methodLink mt.1 idx y ∈ lwg) (hmv : zMV y mt' 3) (hc : zTT[c]? = some (.inl ci)) (hcl : (vwCl[ci]?).map (fun r => r.1) = some y.cls) (hdd : d' + 1 ≤ d) (hrs : pz_cats S ≤ 8) (kk : ∀ M', Qc M' → zP l X d mt q L S M' Q) (hz : z = (c : Int) := by rfl) (hq : pc + 3 = q := by rfl) : zP l X d mt pc L (v3 :: v2 :: v1 :: zr z :: S) M Q := by
  subst hq
  subst hz
  obtain ⟨r1, M1, ⟨rfl, hQ1⟩, hM1⟩ := hM
  obtain ⟨r, M9, h, g⟩ := kk M1 hQ1
  obtain ⟨⟨C, T, N⟩, f1, f2⟩ := Option.map_eq_some_iff.mp hcl
  exact ⟨r, M9, h, go_callV [v1, v2, v3] S c rfl hd hM1 hlk hmv hc (pz_lt139 hc) f1 f2 hdd hrs (Nat.le_refl _) g⟩
theorem p_callS3v {idx d' : Nat} {y : MethodName} {mt' : ZT} {v1 v2 v3 : ZV} {Qc : ZM → Prop} (q : Nat) (hd : decode mt.2.1 pc = .ok (.invokestatic idx, 3)) (hM : zCv l X d' y mt' [v1, v2, v3] M Qc) (hlk : Cond.methodLink mt.1 idx y ∈ lwg) (hmv : zMS y mt' 3) (hdd : d' + 1 ≤ d) (hrs : pz_cats S ≤ 8) (kk : ∀ M', Qc M' → zP l X d mt q L S M' Q) (hq : pc + 3 = q := by rfl) : zP l X d mt pc L (v3 :: v2 :: v1 :: S) M Q := by
  subst hq
  obtain ⟨r1, M1, ⟨rfl, hQ1⟩, hM1⟩ := hM
  obtain ⟨r, M9, h, g⟩ := kk M1 hQ1
  exact ⟨r, M9, h, go_callS [v1, v2, v3] S rfl hd hM1 hlk hmv hdd hrs (Nat.le_refl _) g⟩
theorem p_callN3v {idx d' : Nat} {y : MethodName} {mt' : ZT} {host : String} {v1 v2 v3 : ZV} {Qc : ZM → Prop} (q : Nat) (hd : decode mt.2.1 pc = .ok (.invokestatic idx, 3)) (hM : zCv l X d' y mt' [v1, v2, v3] M Qc) (hlk : Cond.methodLinkNest mt.1 idx y host ∈ lw_tbl) (hmv : zMS y mt' 3) (hdd : d' + 1 ≤ d) (hrs : pz_cats S ≤ 8) (kk : ∀ M', Qc M' → zP l X d mt q L S M' Q) (hq : pc + 3 = q := by rfl) : zP l X d mt pc L (v3 :: v2 :: v1 :: S) M Q := by
  subst hq
  obtain ⟨r1, M1, ⟨rfl, hQ1⟩, hM1⟩ := hM
  obtain ⟨r, M9, h, g⟩ := kk M1 hQ1
  exact ⟨r, M9, h, go_callSN [v1, v2, v3] S rfl hd hM1 hlk hmv hdd hrs (Nat.le_refl _) g⟩
theorem p_callV4i {z : Int} {ci idx d' : Nat} {y : MethodName} {mt' : ZT} {v1 v2 v3 v4 : ZV} {Qc : Int → ZM → Prop} (c q : Nat) (hd : decode mt.2.1 pc = .ok (.invokevirtual idx, 3)) (hM : zCi l X d' y mt' (zr (c : Int) :: [v1, v2, v3, v4]) M Qc) (hlk : Cond.methodLink mt.1 idx y ∈ lwg) (hmv : zMV y mt' 4) (hc : zTT[c]? = some (.inl ci)) (hcl : (vwCl[ci]?).map (fun r => r.1) = some y.cls) (hdd : d' + 1 ≤ d) (hrs : pz_cats S ≤ 8) (kk : ∀ a M', Qc a M' → zP l X d mt q L (zi a :: S) M' Q) (hz : z = (c : Int) := by rfl) (hq : pc + 3 = q := by rfl) : zP l X d mt pc L (v4 :: v3 :: v2 :: v1 :: zr z :: S) M Q := by
  subst hq
  subst hz
  obtain ⟨r1, M1, ⟨a, rfl, hQ1⟩, hM1⟩ := hM
  obtain ⟨r, M9, h, g⟩ := kk a M1 hQ1
  obtain ⟨⟨C, T, N⟩, f1, f2⟩ := Option.map_eq_some_iff.mp hcl
  exact ⟨r, M9, h, go_callV [v1, v2, v3, v4] S c rfl hd hM1 hlk hmv hc (pz_lt139 hc) f1 f2 hdd hrs (Nat.le_refl _) g⟩
theorem p_callS4i {idx d' : Nat} {y : MethodName} {mt' : ZT} {v1 v2 v3 v4 : ZV} {Qc : Int → ZM → Prop} (q : Nat) (hd : decode mt.2.1 pc = .ok (.invokestatic idx, 3)) (hM : zCi l X d' y mt' [v1, v2, v3, v4] M Qc) (hlk : Cond.methodLink mt.1 idx y ∈ lwg) (hmv : zMS y mt' 4) (hdd : d' + 1 ≤ d) (hrs : pz_cats S ≤ 8) (kk : ∀ a M', Qc a M' → zP l X d mt q L (zi a :: S) M' Q) (hq : pc + 3 = q := by rfl) : zP l X d mt pc L (v4 :: v3 :: v2 :: v1 :: S) M Q := by
  subst hq
  obtain ⟨r1, M1, ⟨a, rfl, hQ1⟩, hM1⟩ := hM
  obtain ⟨r, M9, h, g⟩ := kk a M1 hQ1
  exact ⟨r, M9, h, go_callS [v1, v2, v3, v4] S rfl hd hM1 hlk hmv hdd hrs (Nat.le_refl _) g⟩
theorem p_callN4i {idx d' : Nat} {y : MethodName} {mt' : ZT} {host : String} {v1 v2 v3 v4 : ZV} {Qc : Int → ZM → Prop} (q : Nat) (hd : decode mt.2.1 pc = .ok (.invokestatic idx, 3)) (hM : zCi l X d' y mt' [v1, v2, v3, v4] M Qc) (hlk : Cond.methodLinkNest mt.1 idx y host ∈ lw_tbl) (hmv : zMS y mt' 4) (hdd : d' + 1 ≤ d) (hrs : pz_cats S ≤ 8) (kk : ∀ a M', Qc a M' → zP l X d mt q L (zi a :: S) M' Q) (hq : pc + 3 = q := by rfl) : zP l X d mt pc L (v4 :: v3 :: v2 :: v1 :: S) M Q := by
  subst hq
  obtain ⟨r1, M1, ⟨a, rfl, hQ1⟩, hM1⟩ := hM
  obtain ⟨r, M9, h, g⟩ := kk a M1 hQ1
  exact ⟨r, M9, h, go_callSN [v1, v2, v3, v4] S rfl hd hM1 hlk hmv hdd hrs (Nat.le_refl _) g⟩
theorem p_callV4l {z : Int} {ci idx d' : Nat} {y : MethodName} {mt' : ZT} {v1 v2 v3 v4 : ZV} {Qc : Int → ZM → Prop} (c q : Nat) (hd : decode mt.2.1 pc = .ok (.invokevirtual idx, 3)) (hM : zCl l X d' y mt' (zr (c : Int) :: [v1, v2, v3, v4]) M Qc) (hlk : Cond.methodLink mt.1 idx y ∈ lwg) (hmv : zMV y mt' 4) (hc : zTT[c]? = some (.inl ci)) (hcl : (vwCl[ci]?).map (fun r => r.1) = some y.cls) (hdd : d' + 1 ≤ d) (hrs : pz_cats S ≤ 8) (kk : ∀ a M', Qc a M' → zP l X d mt q L (zl a :: S) M' Q) (hz : z = (c : Int) := by rfl) (hq : pc + 3 = q := by rfl) : zP l X d mt pc L (v4 :: v3 :: v2 :: v1 :: zr z :: S) M Q := by
  subst hq
  subst hz
  obtain ⟨r1, M1, ⟨a, rfl, hQ1⟩, hM1⟩ := hM
  obtain ⟨r, M9, h, g⟩ := kk a M1 hQ1
  obtain ⟨⟨C, T, N⟩, f1, f2⟩ := Option.map_eq_some_iff.mp hcl
  exact ⟨r, M9, h, go_callV [v1, v2, v3, v4] S c rfl hd hM1 hlk hmv hc (pz_lt139 hc) f1 f2 hdd hrs (Nat.le_refl _) g⟩
theorem p_callS4l {idx d' : Nat} {y : MethodName} {mt' : ZT} {v1 v2 v3 v4 : ZV} {Qc : Int → ZM → Prop} (q : Nat) (hd : decode mt.2.1 pc = .ok (.invokestatic idx, 3)) (hM : zCl l X d' y mt' [v1, v2, v3, v4] M Qc) (hlk : Cond.methodLink mt.1 idx y ∈ lwg) (hmv : zMS y mt' 4) (hdd : d' + 1 ≤ d) (hrs : pz_cats S ≤ 8) (kk : ∀ a M', Qc a M' → zP l X d mt q L (zl a :: S) M' Q) (hq : pc + 3 = q := by rfl) : zP l X d mt pc L (v4 :: v3 :: v2 :: v1 :: S) M Q := by
  subst hq
  obtain ⟨r1, M1, ⟨a, rfl, hQ1⟩, hM1⟩ := hM
  obtain ⟨r, M9, h, g⟩ := kk a M1 hQ1
  exact ⟨r, M9, h, go_callS [v1, v2, v3, v4] S rfl hd hM1 hlk hmv hdd hrs (Nat.le_refl _) g⟩
theorem p_callN4l {idx d' : Nat} {y : MethodName} {mt' : ZT} {host : String} {v1 v2 v3 v4 : ZV} {Qc : Int → ZM → Prop} (q : Nat) (hd : decode mt.2.1 pc = .ok (.invokestatic idx, 3)) (hM : zCl l X d' y mt' [v1, v2, v3, v4] M Qc) (hlk : Cond.methodLinkNest mt.1 idx y host ∈ lw_tbl) (hmv : zMS y mt' 4) (hdd : d' + 1 ≤ d) (hrs : pz_cats S ≤ 8) (kk : ∀ a M', Qc a M' → zP l X d mt q L (zl a :: S) M' Q) (hq : pc + 3 = q := by rfl) : zP l X d mt pc L (v4 :: v3 :: v2 :: v1 :: S) M Q := by
  subst hq
  obtain ⟨r1, M1, ⟨a, rfl, hQ1⟩, hM1⟩ := hM
  obtain ⟨r, M9, h, g⟩ := kk a M1 hQ1
  exact ⟨r, M9, h, go_callSN [v1, v2, v3, v4] S rfl hd hM1 hlk hmv hdd hrs (Nat.le_refl _) g⟩
theorem p_callV4v {z : Int} {ci idx d' : Nat} {y : MethodName} {mt' : ZT} {v1 v2 v3 v4 : ZV} {Qc : ZM → Prop} (c q : Nat) (hd : decode mt.2.1 pc = .ok (.invokevirtual idx, 3)) (hM : zCv l X d' y mt' (zr (c : Int) :: [v1, v2, v3, v4]) M Qc) (hlk : Cond.methodLink mt.1 idx y ∈ lwg) (hmv : zMV y mt' 4) (hc : zTT[c]? = some (.inl ci)) (hcl : (vwCl[ci]?).map (fun r => r.1) = some y.cls) (hdd : d' + 1 ≤ d) (hrs : pz_cats S ≤ 8) (kk : ∀ M', Qc M' → zP l X d mt q L S M' Q) (hz : z = (c : Int) := by rfl) (hq : pc + 3 = q := by rfl) : zP l X d mt pc L (v4 :: v3 :: v2 :: v1 :: zr z :: S) M Q := by
  subst hq
  subst hz
  obtain ⟨r1, M1, ⟨rfl, hQ1⟩, hM1⟩ := hM
  obtain ⟨r, M9, h, g⟩ := kk M1 hQ1
  obtain ⟨⟨C, T, N⟩, f1, f2⟩ := Option.map_eq_some_iff.mp hcl
  exact ⟨r, M9, h, go_callV [v1, v2, v3, v4] S c rfl hd hM1 hlk hmv hc (pz_lt139 hc) f1 f2 hdd hrs (Nat.le_refl _) g⟩
theorem p_callS4v {idx d' : Nat} {y : MethodName} {mt' : ZT} {v1 v2 v3 v4 : ZV} {Qc : ZM → Prop} (q : Nat) (hd : decode mt.2.1 pc = .ok (.invokestatic idx, 3)) (hM : zCv l X d' y mt' [v1, v2, v3, v4] M Qc) (hlk : Cond.methodLink mt.1 idx y ∈ lwg) (hmv : zMS y mt' 4) (hdd : d' + 1 ≤ d) (hrs : pz_cats S ≤ 8) (kk : ∀ M', Qc M' → zP l X d mt q L S M' Q) (hq : pc + 3 = q := by rfl) : zP l X d mt pc L (v4 :: v3 :: v2 :: v1 :: S) M Q := by
  subst hq
  obtain ⟨r1, M1, ⟨rfl, hQ1⟩, hM1⟩ := hM
  obtain ⟨r, M9, h, g⟩ := kk M1 hQ1
  exact ⟨r, M9, h, go_callS [v1, v2, v3, v4] S rfl hd hM1 hlk hmv hdd hrs (Nat.le_refl _) g⟩
theorem p_callN4v {idx d' : Nat} {y : MethodName} {mt' : ZT} {host : String} {v1 v2 v3 v4 : ZV} {Qc : ZM → Prop} (q : Nat) (hd : decode mt.2.1 pc = .ok (.invokestatic idx, 3)) (hM : zCv l X d' y mt' [v1, v2, v3, v4] M Qc) (hlk : Cond.methodLinkNest mt.1 idx y host ∈ lw_tbl) (hmv : zMS y mt' 4) (hdd : d' + 1 ≤ d) (hrs : pz_cats S ≤ 8) (kk : ∀ M', Qc M' → zP l X d mt q L S M' Q) (hq : pc + 3 = q := by rfl) : zP l X d mt pc L (v4 :: v3 :: v2 :: v1 :: S) M Q := by
  subst hq
  obtain ⟨r1, M1, ⟨rfl, hQ1⟩, hM1⟩ := hM
  obtain ⟨r, M9, h, g⟩ := kk M1 hQ1
  exact ⟨r, M9, h, go_callSN [v1, v2, v3, v4] S rfl hd hM1 hlk hmv hdd hrs (Nat.le_refl _) g⟩
theorem p_callV5i {z : Int} {ci idx d' : Nat} {y : MethodName} {mt' : ZT} {v1 v2 v3 v4 v5 : ZV} {Qc : Int → ZM → Prop} (c q : Nat) (hd : decode mt.2.1 pc = .ok (.invokevirtual idx, 3)) (hM : zCi l X d' y mt' (zr (c : Int) :: [v1, v2, v3, v4, v5]) M Qc) (hlk : Cond.methodLink mt.1 idx y ∈ lwg) (hmv : zMV y mt' 5) (hc : zTT[c]? = some (.inl ci)) (hcl : (vwCl[ci]?).map (fun r => r.1) = some y.cls) (hdd : d' + 1 ≤ d) (hrs : pz_cats S ≤ 8) (kk : ∀ a M', Qc a M' → zP l X d mt q L (zi a :: S) M' Q) (hz : z = (c : Int) := by rfl) (hq : pc + 3 = q := by rfl) : zP l X d mt pc L (v5 :: v4 :: v3 :: v2 :: v1 :: zr z :: S) M Q := by
  subst hq
  subst hz
  obtain ⟨r1, M1, ⟨a, rfl, hQ1⟩, hM1⟩ := hM
  obtain ⟨r, M9, h, g⟩ := kk a M1 hQ1
  obtain ⟨⟨C, T, N⟩, f1, f2⟩ := Option.map_eq_some_iff.mp hcl
  exact ⟨r, M9, h, go_callV [v1, v2, v3, v4, v5] S c rfl hd hM1 hlk hmv hc (pz_lt139 hc) f1 f2 hdd hrs (Nat.le_refl _) g⟩
theorem p_callS5i {idx d' : Nat} {y : MethodName} {mt' : ZT} {v1 v2 v3 v4 v5 : ZV} {Qc : Int → ZM → Prop} (q : Nat) (hd : decode mt.2.1 pc = .ok (.invokestatic idx, 3)) (hM : zCi l X d' y mt' [v1, v2, v3, v4, v5] M Qc) (hlk : Cond.methodLink mt.1 idx y ∈ lwg) (hmv : zMS y mt' 5) (hdd : d' + 1 ≤ d) (hrs : pz_cats S ≤ 8) (kk : ∀ a M', Qc a M' → zP l X d mt q L (zi a :: S) M' Q) (hq : pc + 3 = q := by rfl) : zP l X d mt pc L (v5 :: v4 :: v3 :: v2 :: v1 :: S) M Q := by
  subst hq
  obtain ⟨r1, M1, ⟨a, rfl, hQ1⟩, hM1⟩ := hM
  obtain ⟨r, M9, h, g⟩ := kk a M1 hQ1
  exact ⟨r, M9, h, go_callS [v1, v2, v3, v4, v5] S rfl hd hM1 hlk hmv hdd hrs (Nat.le_refl _) g⟩
theorem p_callN5i {idx d' : Nat} {y : MethodName} {mt' : ZT} {host : String} {v1 v2 v3 v4 v5 : ZV} {Qc : Int → ZM → Prop} (q : Nat) (hd : decode mt.2.1 pc = .ok (.invokestatic idx, 3)) (hM : zCi l X d' y mt' [v1, v2, v3, v4, v5] M Qc) (hlk : Cond.methodLinkNest mt.1 idx y host ∈ lw_tbl) (hmv : zMS y mt' 5) (hdd : d' + 1 ≤ d) (hrs : pz_cats S ≤ 8) (kk : ∀ a M', Qc a M' → zP l X d mt q L (zi a :: S) M' Q) (hq : pc + 3 = q := by rfl) : zP l X d mt pc L (v5 :: v4 :: v3 :: v2 :: v1 :: S) M Q := by
  subst hq
  obtain ⟨r1, M1, ⟨a, rfl, hQ1⟩, hM1⟩ := hM
  obtain ⟨r, M9, h, g⟩ := kk a M1 hQ1
  exact ⟨r, M9, h, go_callSN [v1, v2, v3, v4, v5] S rfl hd hM1 hlk hmv hdd hrs (Nat.le_refl _) g⟩
theorem p_callV5l {z : Int} {ci idx d' : Nat} {y : MethodName} {mt' : ZT} {v1 v2 v3 v4 v5 : ZV} {Qc : Int → ZM → Prop} (c q : Nat) (hd : decode mt.2.1 pc = .ok (.invokevirtual idx, 3)) (hM : zCl l X d' y mt' (zr (c : Int) :: [v1, v2, v3, v4, v5]) M Qc) (hlk : Cond.methodLink mt.1 idx y ∈ lwg) (hmv : zMV y mt' 5) (hc : zTT[c]? = some (.inl ci)) (hcl : (vwCl[ci]?).map (fun r => r.1) = some y.cls) (hdd : d' + 1 ≤ d) (hrs : pz_cats S ≤ 8) (kk : ∀ a M', Qc a M' → zP l X d mt q L (zl a :: S) M' Q) (hz : z = (c : Int) := by rfl) (hq : pc + 3 = q := by rfl) : zP l X d mt pc L (v5 :: v4 :: v3 :: v2 :: v1 :: zr z :: S) M Q := by
  subst hq
  subst hz
  obtain ⟨r1, M1, ⟨a, rfl, hQ1⟩, hM1⟩ := hM
  obtain ⟨r, M9, h, g⟩ := kk a M1 hQ1
  obtain ⟨⟨C, T, N⟩, f1, f2⟩ := Option.map_eq_some_iff.mp hcl
  exact ⟨r, M9, h, go_callV [v1, v2, v3, v4, v5] S c rfl hd hM1 hlk hmv hc (pz_lt139 hc) f1 f2 hdd hrs (Nat.le_refl _) g⟩
theorem p_callS5l {idx d' : Nat} {y : MethodName} {mt' : ZT} {v1 v2 v3 v4 v5 : ZV} {Qc : Int → ZM → Prop} (q : Nat) (hd : decode mt.2.1 pc = .ok (.invokestatic idx, 3)) (hM : zCl l X d' y mt' [v1, v2, v3, v4, v5] M Qc) (hlk : Cond.methodLink mt.1 idx y ∈ lwg) (hmv : zMS y mt' 5) (hdd : d' + 1 ≤ d) (hrs : pz_cats S ≤ 8) (kk : ∀ a M', Qc a M' → zP l X d mt q L (zl a :: S) M' Q) (hq : pc + 3 = q := by rfl) : zP l X d mt pc L (v5 :: v4 :: v3 :: v2 :: v1 :: S) M Q := by
  subst hq
  obtain ⟨r1, M1, ⟨a, rfl, hQ1⟩, hM1⟩ := hM
  obtain ⟨r, M9, h, g⟩ := kk a M1 hQ1
  exact ⟨r, M9, h, go_callS [v1, v2, v3, v4, v5] S rfl hd hM1 hlk hmv hdd hrs (Nat.le_refl _) g⟩
theorem p_callN5l {idx d' : Nat} {y : MethodName} {mt' : ZT} {host : String} {v1 v2 v3 v4 v5 : ZV} {Qc : Int → ZM → Prop} (q : Nat) (hd : decode mt.2.1 pc = .ok (.invokestatic idx, 3)) (hM : zCl l X d' y mt' [v1, v2, v3, v4, v5] M Qc) (hlk : Cond.methodLinkNest mt.1 idx y host ∈ lw_tbl) (hmv : zMS y mt' 5) (hdd : d' + 1 ≤ d) (hrs : pz_cats S ≤ 8) (kk : ∀ a M', Qc a M' → zP l X d mt q L (zl a :: S) M' Q) (hq : pc + 3 = q := by rfl) : zP l X d mt pc L (v5 :: v4 :: v3 :: v2 :: v1 :: S) M Q := by
  subst hq
  obtain ⟨r1, M1, ⟨a, rfl, hQ1⟩, hM1⟩ := hM
  obtain ⟨r, M9, h, g⟩ := kk a M1 hQ1
  exact ⟨r, M9, h, go_callSN [v1, v2, v3, v4, v5] S rfl hd hM1 hlk hmv hdd hrs (Nat.le_refl _) g⟩
theorem p_callV5v {z : Int} {ci idx d' : Nat} {y : MethodName} {mt' : ZT} {v1 v2 v3 v4 v5 : ZV} {Qc : ZM → Prop} (c q : Nat) (hd : decode mt.2.1 pc = .ok (.invokevirtual idx, 3)) (hM : zCv l X d' y mt' (zr (c : Int) :: [v1, v2, v3, v4, v5]) M Qc) (hlk : Cond.methodLink mt.1 idx y ∈ lwg) (hmv : zMV y mt' 5) (hc : zTT[c]? = some (.inl ci)) (hcl : (vwCl[ci]?).map (fun r => r.1) = some y.cls) (hdd : d' + 1 ≤ d) (hrs : pz_cats S ≤ 8) (kk : ∀ M', Qc M' → zP l X d mt q L S M' Q) (hz : z = (c : Int) := by rfl) (hq : pc + 3 = q := by rfl) : zP l X d mt pc L (v5 :: v4 :: v3 :: v2 :: v1 :: zr z :: S) M Q := by
  subst hq
  subst hz
  obtain ⟨r1, M1, ⟨rfl, hQ1⟩, hM1⟩ := hM
  obtain ⟨r, M9, h, g⟩ := kk M1 hQ1
  obtain ⟨⟨C, T, N⟩, f1, f2⟩ := Option.map_eq_some_iff.mp hcl
  exact ⟨r, M9, h, go_callV [v1, v2, v3, v4, v5] S c rfl hd hM1 hlk hmv hc (pz_lt139 hc) f1 f2 hdd hrs (Nat.le_refl _) g⟩
theorem p_callS5v {idx d' : Nat} {y : MethodName} {mt' : ZT} {v1 v2 v3 v4 v5 : ZV} {Qc : ZM → Prop} (q : Nat) (hd : decode mt.2.1 pc = .ok (.invokestatic idx, 3)) (hM : zCv l X d' y mt' [v1, v2, v3, v4, v5] M Qc) (hlk : Cond.methodLink mt.1 idx y ∈ lwg) (hmv : zMS y mt' 5) (hdd : d' + 1 ≤ d) (hrs : pz_cats S ≤ 8) (kk : ∀ M', Qc M' → zP l X d mt q L S M' Q) (hq : pc + 3 = q := by rfl) : zP l X d mt pc L (v5 :: v4 :: v3 :: v2 :: v1 :: S) M Q := by
  subst hq
  obtain ⟨r1, M1, ⟨rfl, hQ1⟩, hM1⟩ := hM
  obtain ⟨r, M9, h, g⟩ := kk M1 hQ1
  exact ⟨r, M9, h, go_callS [v1, v2, v3, v4, v5] S rfl hd hM1 hlk hmv hdd hrs (Nat.le_refl _) g⟩
theorem p_callN5v {idx d' : Nat} {y : MethodName} {mt' : ZT} {host : String} {v1 v2 v3 v4 v5 : ZV} {Qc : ZM → Prop} (q : Nat) (hd : decode mt.2.1 pc = .ok (.invokestatic idx, 3)) (hM : zCv l X d' y mt' [v1, v2, v3, v4, v5] M Qc) (hlk : Cond.methodLinkNest mt.1 idx y host ∈ lw_tbl) (hmv : zMS y mt' 5) (hdd : d' + 1 ≤ d) (hrs : pz_cats S ≤ 8) (kk : ∀ M', Qc M' → zP l X d mt q L S M' Q) (hq : pc + 3 = q := by rfl) : zP l X d mt pc L (v5 :: v4 :: v3 :: v2 :: v1 :: S) M Q := by
  subst hq
  obtain ⟨r1, M1, ⟨rfl, hQ1⟩, hM1⟩ := hM
  obtain ⟨r, M9, h, g⟩ := kk M1 hQ1
  exact ⟨r, M9, h, go_callSN [v1, v2, v3, v4, v5] S rfl hd hM1 hlk hmv hdd hrs (Nat.le_refl _) g⟩
theorem p_iret {a : Int} (hd : decode mt.2.1 pc = .ok (.ireturn, 1)) (hr : mt.2.2.2.1 = some .int) (hQ : Q (some (zi a)) M) : zP l X d mt pc L [zi a] M Q := ⟨_, _, hQ, go_iret hd hr⟩
theorem p_zret {a : Int} (hd : decode mt.2.1 pc = .ok (.ireturn, 1)) (hr : mt.2.2.2.1 = some .boolean) (ha : a = 0 ∨ a = 1) (hQ : Q (some (zi a)) M) : zP l X d mt pc L [zi a] M Q := ⟨_, _, hQ, go_zret hd hr ha⟩
theorem p_lret {a : Int} (hd : decode mt.2.1 pc = .ok (.lreturn, 1)) (hr : mt.2.2.2.1 = some .long) (hQ : Q (some (zl a)) M) : zP l X d mt pc L [zl a] M Q := ⟨_, _, hQ, go_lret hd hr⟩
theorem p_vret (hd : decode mt.2.1 pc = .ok (.return_, 1)) (hr : mt.2.2.2.1 = none) (hQ : Q none M) : zP l X d mt pc L [] M Q := ⟨_, _, hQ, go_vret hd hr⟩
end ZPR
