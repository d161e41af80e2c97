/-! RULES: a row of the kit turned to the pure state, one an instruction -/
theorem pz_val_r (X : ZX) {z : Int} (h : 0 ≤ z) : pz_val X (zr z) = .ref (pz_adr X z) := if_neg (by omega)
theorem pz_cat (X : ZX) (v : ZV) : (pz_val X v).category = 2 → ∃ z, v = zl z := by
  intro h
  match v, h with
  | .inl a, h => cases h
  | .inr (.inl a), _ => exact ⟨a, rfl⟩
  | .inr (.inr a), h =>
    by_cases h0 : a < 0
    · rw [show pz_val X (.inr (.inr a)) = .null from if_pos h0] at h
      cases h
    · rw [show pz_val X (.inr (.inr a)) = .ref (pz_adr X a) from if_neg h0] at h
      cases h
theorem pz_cat1 (X : ZX) (v : ZV) (h : ∀ z, v ≠ zl z) : (pz_val X v).category = 1 := by
  match v, h with
  | .inl a, _ => rfl
  | .inr (.inl a), h => exact absurd rfl (h a)
  | .inr (.inr a), _ =>
    by_cases h0 : a < 0
    · rw [show pz_val X (.inr (.inr a)) = .null from if_pos h0]
      rfl
    · rw [show pz_val X (.inr (.inr a)) = .ref (pz_adr X a) from if_neg h0]
      rfl
def pz_prs (X : ZX) (L : List (Option ZV)) : List (Nat × Value) := L.zipIdx.filterMap (fun q => q.1.map (fun v => (q.2, pz_val X v)))
theorem pz_prs_mem {X : ZX} {L : List (Option ZV)} {q : Nat × Value} : q ∈ pz_prs X L ↔ ∃ v, L[q.1]? = some (some v) ∧ q.2 = pz_val X v := by
  unfold pz_prs
  rw [List.mem_filterMap]
  constructor
  · rintro ⟨⟨o, i⟩, hm, he⟩
    have hm := List.mem_zipIdx_iff_getElem?.mp hm
    cases o with
    | none => simp at he
    | some v =>
      simp only [Option.map_some, Option.some.injEq] at he
      subst he
      exact ⟨v, hm, rfl⟩
  · rintro ⟨v, h1, h2⟩
    refine ⟨(some v, q.1), List.mem_zipIdx_iff_getElem?.mpr h1, ?_⟩
    simp only [Option.map_some, Option.some.injEq]
    exact Prod.ext rfl h2.symm
theorem pz_L.has {X : ZX} {ls : Array Slot} {nL : Nat} {L : List (Option ZV)} (h : pz_L X ls nL L) : lv_has ls nL (pz_prs X L) := by
  refine ⟨h.1, h.2.1, fun q hq => ?_⟩
  obtain ⟨v, h1, h2⟩ := pz_prs_mem.mp hq
  rw [h2]
  exact h.2.2.2 _ _ h1
/-- no long's second half lies at place i -/
def pz_okb (L : List (Option ZV)) (i : Nat) : Bool := match i with
  | 0 => true
  | j + 1 => match L[j]? with
    | some (some (.inr (.inl _))) => false
    | _ => true
theorem pz_okb_ne {L : List (Option ZV)} {i j : Nat} {z : Int} (h : pz_okb L i = true) (hj : j + 1 = i) : L[j]? ≠ some (some (zl z)) := by
  subst hj
  intro e
  unfold pz_okb at h
  simp [e] at h
theorem pz_L.set1 {X : ZX} {ls ls' : Array Slot} {nL i : Nat} {L : List (Option ZV)} {v : ZV} (h : pz_L X ls nL L) (hok : pz_okb L i = true) (h2 : lv_has ls' nL ((i, pz_val X v) :: (pz_prs X L).filter (fun q => !(q.1 == i) && !(q.1 + 1 == i && q.2.category == 2)))) : pz_L X ls' nL (L.set i (some v)) := by
  refine ⟨h2.1, h2.2.1, by rw [List.length_set]; exact h.2.2.1, fun j u hj => ?_⟩
  by_cases hij : i = j
  · subst hij
    have hlt : i < L.length := by
      have := (List.getElem?_eq_some_iff.mp hj).1
      rwa [List.length_set] at this
    rw [List.getElem?_set_self hlt] at hj
    cases hj
    exact h2.2.2 (i, pz_val X v) List.mem_cons_self
  · rw [List.getElem?_set_ne hij] at hj
    refine h2.2.2 (j, pz_val X u) (List.mem_cons_of_mem _ (List.mem_filter.mpr ⟨pz_prs_mem.mpr ⟨u, hj, rfl⟩, ?_⟩))
    simp only [Bool.and_eq_true, Bool.not_eq_true', beq_eq_false_iff_ne, Bool.and_eq_false_iff]
    refine ⟨fun e => hij e.symm, ?_⟩
    by_cases hj1 : j + 1 = i
    · right
      intro hc
      obtain ⟨z, rfl⟩ := pz_cat X u hc
      exact pz_okb_ne hok hj1 hj
    · left
      exact hj1
theorem pz_L.set2 {X : ZX} {ls ls' : Array Slot} {nL i : Nat} {L : List (Option ZV)} {v : ZV} (h : pz_L X ls nL L) (hok : pz_okb L i = true) (h2 : lv_has ls' nL ((i, pz_val X v) :: (pz_prs X L).filter (fun q => !(q.1 == i) && (!(q.1 == i + 1) && !(q.1 + 1 == i && q.2.category == 2))))) : pz_L X ls' nL ((L.set i (some v)).set (i + 1) none) := by
  refine ⟨h2.1, h2.2.1, by rw [List.length_set, List.length_set]; exact h.2.2.1, fun j u hj => ?_⟩
  by_cases hj2 : i + 1 = j
  · subst hj2
    exfalso
    have hlt : i + 1 < (L.set i (some v)).length := by
      have := (List.getElem?_eq_some_iff.mp hj).1
      rwa [List.length_set] at this
    rw [List.getElem?_set_self hlt] at hj
    cases hj
  rw [List.getElem?_set_ne hj2] at hj
  by_cases hij : i = j
  · subst hij
    have hlt : i < L.length := by
      have := (List.getElem?_eq_some_iff.mp hj).1
      rwa [List.length_set] at this
    rw [List.getElem?_set_self hlt] at hj
    cases hj
    exact h2.2.2 (i, pz_val X v) List.mem_cons_self
  · rw [List.getElem?_set_ne hij] at hj
    refine h2.2.2 (j, pz_val X u) (List.mem_cons_of_mem _ (List.mem_filter.mpr ⟨pz_prs_mem.mpr ⟨u, hj, rfl⟩, ?_⟩))
    simp only [Bool.and_eq_true, Bool.not_eq_true', beq_eq_false_iff_ne, Bool.and_eq_false_iff]
    refine ⟨fun e => hij e.symm, fun e => hj2 e.symm, ?_⟩
    by_cases hj1 : j + 1 = i
    · right
      intro hc
      obtain ⟨z, rfl⟩ := pz_cat X u hc
      exact pz_okb_ne hok hj1 hj
    · left
      exact hj1
theorem pz_lt {X : ZX} {ls : Array Slot} {nL i : Nat} {L : List (Option ZV)} (h : pz_L X ls nL L) (hi : i < L.length) : i < nL := h.2.2.1 ▸ hi
section ZR
variable {l : Launch} {X : ZX} {d : Nat} {mt : ZT} {pc : Nat} {L : List (Option ZV)} {S : List ZV} {n : Nat} {M : ZM} {out : ZO}
theorem go_iconst {v : Int} (hd : decode mt.2.1 pc = .ok (.iconst v, 1)) (kk : zGo l X d mt (pc + 1) L (zi v :: S) n M out) : zGo l X d mt pc L S n M out := by
  intro p e s m args below meth c B n0 H locs ls h1 h2 hR hS hL
  exact lv_iconst B.1 B.2.1 hd rfl (kk p e s m args below meth c B n0 H locs ls h1 h2 hR hS hL)
theorem go_bipush {v : Int} (hd : decode mt.2.1 pc = .ok (.bipush v, 2)) (hv : (Int8.ofInt v).toInt32 = Int32.ofInt v) (kk : zGo l X d mt (pc + 2) L (zi v :: S) n M out) : zGo l X d mt pc L S n M out := by
  intro p e s m args below meth c B n0 H locs ls h1 h2 hR hS hL
  exact lv_bipush B.1 B.2.1 hd hv (kk p e s m args below meth c B n0 H locs ls h1 h2 hR hS hL)
theorem go_sipush {v : Int} (hd : decode mt.2.1 pc = .ok (.sipush v, 3)) (hv : (Int16.ofInt v).toInt32 = Int32.ofInt v) (kk : zGo l X d mt (pc + 3) L (zi v :: S) n M out) : zGo l X d mt pc L S n M out := by
  intro p e s m args below meth c B n0 H locs ls h1 h2 hR hS hL
  exact lv_sipush B.1 B.2.1 hd hv (kk p e s m args below meth c B n0 H locs ls h1 h2 hR hS hL)
theorem go_lconst {v : Fin 2} {z : Int} (hd : decode mt.2.1 pc = .ok (.lconst v, 1)) (hv : Int64.ofNat (v : Nat) = Int64.ofInt z) (kk : zGo l X d mt (pc + 1) L (zl z :: S) n M out) : zGo l X d mt pc L S n M out := by
  intro p e s m args below meth c B n0 H locs ls h1 h2 hR hS hL
  exact lv_lconst B.1 B.2.1 hd hv (kk p e s m args below meth c B n0 H locs ls h1 h2 hR hS hL)
theorem go_ldc {idx : Nat} {v : Int32} {z : Int} (hd : decode mt.2.1 pc = .ok (.ldc idx, 2)) (hk : Cond.constant mt.1 idx v ∈ lwg) (hv : v = Int32.ofInt z) (kk : zGo l X d mt (pc + 2) L (zi z :: S) n M out) : zGo l X d mt pc L S n M out := by
  intro p e s m args below meth c B n0 H locs ls h1 h2 hR hS hL
  subst hv
  exact lv_ldc B.1 B.2.1 B.2.2.2.2.2.1 (B.2.2.2.2.2.2.1 _ hk) hd (kk p e s m args below meth c B n0 H locs ls h1 h2 hR hS hL)
theorem go_ldcw {idx : Nat} {v : Int32} {z : Int} (hd : decode mt.2.1 pc = .ok (.ldc_w idx, 3)) (hk : Cond.constant mt.1 idx v ∈ lwg) (hv : v = Int32.ofInt z) (kk : zGo l X d mt (pc + 3) L (zi z :: S) n M out) : zGo l X d mt pc L S n M out := by
  intro p e s m args below meth c B n0 H locs ls h1 h2 hR hS hL
  subst hv
  exact lv_ldcw B.1 B.2.1 B.2.2.2.2.2.1 (B.2.2.2.2.2.2.1 _ hk) hd (kk p e s m args below meth c B n0 H locs ls h1 h2 hR hS hL)
theorem pz_adr_s (X : ZX) (i : Nat) : pz_adr X (1000 + (i : Int)) = X.2.2.2.1 i := by
  unfold pz_adr
  have e : (1000 + (i : Int)).toNat - 1000 = i := by omega
  rw [if_neg (by omega), e]
theorem go_ldcS {idx i : Nat} {tx : String} (hd : decode mt.2.1 pc = .ok (.ldc idx, 2)) (hk : zstr[i]? = some (mt.1, idx, tx)) (kk : zGo l X d mt (pc + 2) L (zr (1000 + (i : Int)) :: S) n M out) : zGo l X d mt pc L S n M out := by
  intro p e s m args below meth c B n0 H locs ls h1 h2 hR hS hL
  have hq := (B.2.2.2.2.2.2.2.1.2.2.2.1 i _ hk).1
  refine va_ldcS B.1 B.2.1 B.2.2.2.2.2.1 hq hd ?_
  have := kk p e s m args below meth c B n0 H locs ls h1 h2 hR hS hL
  rw [List.map_cons, pz_val_r X (by omega), pz_adr_s] at this
  exact this
theorem go_iload_n {k : Fin 4} {i : Nat} {a : Int} (hd : decode mt.2.1 pc = .ok (.iload_n k, 1)) (hi : (k : Nat) = i) (hl : L[i]? = some (some (zi a))) (kk : zGo l X d mt (pc + 1) L (zi a :: S) n M out) : zGo l X d mt pc L S n M out := by
  intro p e s m args below meth c B n0 H locs ls h1 h2 hR hS hL
  exact lv_iload_n B.1 B.2.1 hd hi (hL.2.2.2 _ _ hl) (kk p e s m args below meth c B n0 H locs ls h1 h2 hR hS hL)
theorem go_iload {i : Nat} {a : Int} (hd : decode mt.2.1 pc = .ok (.iload i, 2)) (hl : L[i]? = some (some (zi a))) (kk : zGo l X d mt (pc + 2) L (zi a :: S) n M out) : zGo l X d mt pc L S n M out := by
  intro p e s m args below meth c B n0 H locs ls h1 h2 hR hS hL
  exact lv_iload B.1 B.2.1 hd (hL.2.2.2 _ _ hl) (kk p e s m args below meth c B n0 H locs ls h1 h2 hR hS hL)
theorem go_lload_n {k : Fin 4} {i : Nat} {a : Int} (hd : decode mt.2.1 pc = .ok (.lload_n k, 1)) (hi : (k : Nat) = i) (hl : L[i]? = some (some (zl a))) (kk : zGo l X d mt (pc + 1) L (zl a :: S) n M out) : zGo l X d mt pc L S n M out := by
  intro p e s m args below meth c B n0 H locs ls h1 h2 hR hS hL
  exact lv_lload_n B.1 B.2.1 hd hi (hL.2.2.2 _ _ hl) (kk p e s m args below meth c B n0 H locs ls h1 h2 hR hS hL)
theorem go_lload {i : Nat} {a : Int} (hd : decode mt.2.1 pc = .ok (.lload i, 2)) (hl : L[i]? = some (some (zl a))) (kk : zGo l X d mt (pc + 2) L (zl a :: S) n M out) : zGo l X d mt pc L S n M out := by
  intro p e s m args below meth c B n0 H locs ls h1 h2 hR hS hL
  exact lv_lload B.1 B.2.1 hd (hL.2.2.2 _ _ hl) (kk p e s m args below meth c B n0 H locs ls h1 h2 hR hS hL)
theorem go_aload_n {k : Fin 4} {i : Nat} {a : Int} (hd : decode mt.2.1 pc = .ok (.aload_n k, 1)) (hi : (k : Nat) = i) (hl : L[i]? = some (some (zr a))) (h0 : 0 ≤ a) (kk : zGo l X d mt (pc + 1) L (zr a :: S) n M out) : zGo l X d mt pc L S n M out := by
  intro p e s m args below meth c B n0 H locs ls h1 h2 hR hS hL
  have hv := hL.2.2.2 _ _ hl
  rw [pz_val_r X h0] at hv
  refine lv_aload_n B.1 B.2.1 hd hi hv ?_
  have := kk p e s m args below meth c B n0 H locs ls h1 h2 hR hS hL
  rw [List.map_cons, pz_val_r X h0] at this
  exact this
theorem go_aload {i : Nat} {a : Int} (hd : decode mt.2.1 pc = .ok (.aload i, 2)) (hl : L[i]? = some (some (zr a))) (h0 : 0 ≤ a) (kk : zGo l X d mt (pc + 2) L (zr a :: S) n M out) : zGo l X d mt pc L S n M out := by
  intro p e s m args below meth c B n0 H locs ls h1 h2 hR hS hL
  have hv := hL.2.2.2 _ _ hl
  rw [pz_val_r X h0] at hv
  refine lv_aload B.1 B.2.1 hd hv ?_
  have := kk p e s m args below meth c B n0 H locs ls h1 h2 hR hS hL
  rw [List.map_cons, pz_val_r X h0] at this
  exact this
theorem go_istore_n {k : Fin 4} {i : Nat} {a : Int} (hd : decode mt.2.1 pc = .ok (.istore_n k, 1)) (hi : (k : Nat) = i) (hlt : i < L.length) (hok : pz_okb L i = true) (kk : zGo l X d mt (pc + 1) (L.set i (some (zi a))) S n M out) : zGo l X d mt pc L (zi a :: S) n M out := by
  intro p e s m args below meth c B n0 H locs ls h1 h2 hR hS hL
  exact lv_istore_n B.1 B.2.1 hd hi hL.has (pz_lt hL hlt) rfl (fun ls' hl' => kk p e s m args below meth c B n0 H locs ls' h1 h2 hR hS (hL.set1 (v := zi a) hok hl'))
theorem go_istore {i : Nat} {a : Int} (hd : decode mt.2.1 pc = .ok (.istore i, 2)) (hlt : i < L.length) (hok : pz_okb L i = true) (kk : zGo l X d mt (pc + 2) (L.set i (some (zi a))) S n M out) : zGo l X d mt pc L (zi a :: S) n M out := by
  intro p e s m args below meth c B n0 H locs ls h1 h2 hR hS hL
  exact lv_istore B.1 B.2.1 hd hL.has (pz_lt hL hlt) rfl (fun ls' hl' => kk p e s m args below meth c B n0 H locs ls' h1 h2 hR hS (hL.set1 (v := zi a) hok hl'))
theorem go_lstore_n {k : Fin 4} {i : Nat} {a : Int} (hd : decode mt.2.1 pc = .ok (.lstore_n k, 1)) (hi : (k : Nat) = i) (hlt : i + 1 < L.length) (hok : pz_okb L i = true) (kk : zGo l X d mt (pc + 1) ((L.set i (some (zl a))).set (i + 1) none) S n M out) : zGo l X d mt pc L (zl a :: S) n M out := by
  intro p e s m args below meth c B n0 H locs ls h1 h2 hR hS hL
  exact lv_lstore_n B.1 B.2.1 hd hi hL.has (pz_lt hL hlt) rfl (fun ls' hl' => kk p e s m args below meth c B n0 H locs ls' h1 h2 hR hS (hL.set2 (v := zl a) hok hl'))
theorem go_lstore {i : Nat} {a : Int} (hd : decode mt.2.1 pc = .ok (.lstore i, 2)) (hlt : i + 1 < L.length) (hok : pz_okb L i = true) (kk : zGo l X d mt (pc + 2) ((L.set i (some (zl a))).set (i + 1) none) S n M out) : zGo l X d mt pc L (zl a :: S) n M out := by
  intro p e s m args below meth c B n0 H locs ls h1 h2 hR hS hL
  exact lv_lstore B.1 B.2.1 hd hL.has (pz_lt hL hlt) rfl (fun ls' hl' => kk p e s m args below meth c B n0 H locs ls' h1 h2 hR hS (hL.set2 (v := zl a) hok hl'))
theorem go_astore_n {k : Fin 4} {i : Nat} {a : Int} (hd : decode mt.2.1 pc = .ok (.astore_n k, 1)) (hi : (k : Nat) = i) (hlt : i < L.length) (hok : pz_okb L i = true) (h0 : 0 ≤ a) (kk : zGo l X d mt (pc + 1) (L.set i (some (zr a))) S n M out) : zGo l X d mt pc L (zr a :: S) n M out := by
  intro p e s m args below meth c B n0 H locs ls h1 h2 hR hS hL
  rw [List.map_cons, pz_val_r X h0]
  refine lv_astore_n B.1 B.2.1 hd hi hL.has (pz_lt hL hlt) rfl (fun ls' hl' => kk p e s m args below meth c B n0 H locs ls' h1 h2 hR hS (hL.set1 (v := zr a) hok ?_))
  rw [pz_val_r X h0]
  exact hl'
theorem go_iinc {i : Nat} {v a : Int} (hd : decode mt.2.1 pc = .ok (.iinc i v, 3)) (hl : L[i]? = some (some (zi a))) (hok : pz_okb L i = true) (kk : zGo l X d mt (pc + 3) (L.set i (some (zi (a + v)))) S n M out) : zGo l X d mt pc L S n M out := by
  intro p e s m args below meth c B n0 H locs ls h1 h2 hR hS hL
  have hm : (i, pz_val X (zi a)) ∈ pz_prs X L := pz_prs_mem.mpr ⟨zi a, hl, rfl⟩
  obtain ⟨k, hk⟩ := List.getElem?_of_mem hm
  exact lv_iinc (v := Int32.ofInt (a + v)) B.1 B.2.1 hd hL.has hk (Int32.ofInt_add a v).symm (pz_lt hL (List.getElem?_eq_some_iff.mp hl).1) rfl (fun ls' hl' => kk p e s m args below meth c B n0 H locs ls' h1 h2 hR hS (hL.set1 (v := zi (a + v)) hok hl'))
end ZR
