/-! new cells, calls -/
theorem pz_env.move {X : ZX} {s U : State} (h : pz_env X s) (hW : s.WarmedH U.vm) (hz : s.heap.size ≤ U.heap.size) (hq : ∀ q : Nat, q < s.heap.size → ¬ pz_A X q → U.heap[q]? = s.heap[q]?) : pz_env X U := by
  obtain ⟨hK, h0, hN, hT, hC, hF, hO⟩ := h
  refine ⟨va_K.moved hW.alike hK, Nat.le_trans h0 hz, fun a i y h hm => va_Nw.warmM hW (hN a i y h hm), fun i q hi => ?_, (hC.moved hW.alike).kept hq, (hF.moved hW.alike).kept hq, hO.moved hW.alike⟩
  obtain ⟨a1, a2, a3, a4, a5⟩ := hT i q hi
  exact ⟨a1.warm hW, (va_O.moved hW.alike a2).kept hq, (va_OF.moved hW.alike a3).kept hq, (va_OF.moved hW.alike a4).kept hq, (va_T.moved hW.alike a5).kept hq⟩
theorem pz_env.same {X : ZX} {u U : State} (h : pz_env X u) (hv : U.vm = u.vm) (hh : U.heap = u.heap) : pz_env X U := by
  have ha : u.vm.Alike U.vm := by rw [hv]; exact Vm.Alike.refl u.vm
  obtain ⟨hK, h0, hN, hT, hC, hF, hO⟩ := h
  refine ⟨va_K.moved ha hK, by rw [hh]; exact h0, fun a i y h hm => va_Nw.same rfl hv.symm (hN a i y h hm), fun i q hi => ?_, by rw [hh]; exact hC.moved ha, by rw [hh]; exact hF.moved ha, hO.moved ha⟩
  obtain ⟨a1, a2, a3, a4, a5⟩ := hT i q hi
  rw [hh]
  exact ⟨a1.same hv, va_O.moved ha a2, va_OF.moved ha a3, va_OF.moved ha a4, va_T.moved ha a5⟩
theorem pz_blind (X : ZX) (av : List Value) (n : Nat) (M : ZM) : FrameBlind (va_Pc av (fun U => pz_env X U ∧ pz_rel X n M U.heap)) := by
  intro a U g mk q
  obtain ⟨q0, q1, q2⟩ := q
  exact ⟨q0, q1.same rfl rfl, q2⟩
theorem pz_ss_succ {n : Nat} {q : Nat ⊕ (Nat × Nat)} (h : zTT[n]? = some q) : pz_ss (n + 1) = pz_ss n + pz_csz q := by
  unfold pz_ss
  rw [List.take_succ, h]
  simp
theorem pz_ss_step (n : Nat) : pz_ss n ≤ pz_ss (n + 1) := by
  unfold pz_ss
  rw [List.take_succ]
  simp
theorem pz_ss_mono {a b : Nat} (h : a ≤ b) : pz_ss a ≤ pz_ss b := by
  induction b with
  | zero => rw [Nat.le_zero.mp h]; exact Nat.le_refl _
  | succ b ih =>
    by_cases e : a = b + 1
    · rw [e]; exact Nat.le_refl _
    · exact Nat.le_trans (ih (by omega)) (pz_ss_step b)
theorem pz_ws_push (X : ZX) {n : Nat} (M : ZM) {q : Nat ⊕ (Nat × Nat)} {e : va_E} (he : e = pz_cell X (znew M n q) n) : pz_ws X n M ++ [(X.1 + n, e)] = pz_ws X (n + 1) (znew M n q) := by
  unfold pz_ws
  rw [List.range_succ, List.map_append, he]
  congr 1
  apply List.map_congr_left
  intro c hc
  have hc : c < n := List.mem_range.mp hc
  have : znew M n q c = M c := by
    funext b
    unfold znew
    rw [if_neg (by omega)]
  unfold pz_cell
  rw [this]
/-- the new cell's address: there is but one left -/
theorem pz_fresh {X : ZX} {n n0 q : Nat} {M : ZM} {s : State} {e : va_E} {H1 : Heap} (h1 : n0 ≤ n) (hz : s.heap.size = X.1 + n0) (hP : va_P X.2.1 vwCl (pz_ws X n M ++ [(q, e)]) H1) (hD : va_D (pz_A X) (pz_ws X n M ++ [(q, e)])) (hsz : H1.size ≤ s.heap.size + (n - n0 + 1)) : q = X.1 + n := by
  have hlen : (pz_ws X n M).length = n := by simp [pz_ws]
  have hq : (pz_ws X n M ++ [(q, e)])[n]? = some (q, e) := by
    rw [List.getElem?_append_right (by omega), hlen, Nat.sub_self]
    rfl
  have a1 : q < H1.size := (hP n _ hq).lt
  have a2 : X.1 ≤ q := hD.2 n _ hq
  by_cases a3 : q < X.1 + n
  · exfalso
    have hc : (pz_ws X n M ++ [(q, e)])[q - X.1]? = some (X.1 + (q - X.1), pz_cell X M (q - X.1)) := by
      rw [List.getElem?_append_left (by omega)]
      exact pz_ws_get X M (by omega)
    have := hD.1 n (q - X.1) _ _ hq hc (by show q = X.1 + (q - X.1); omega)
    omega
  · omega
section ZN
variable {l : Launch} {X : ZX} {d : Nat} {mt : ZT} {pc : Nat} {L : List (Option ZV)} {S : List ZV} {n : Nat} {M : ZM} {out : ZO}
theorem pz_val_n (X : ZX) {c : Nat} (h : c < 1000) : pz_val X (zr (c : Int)) = .ref (X.1 + c) := by
  rw [pz_val_r X (by omega), pz_adr_c X h]
/-- the default values of a class's fields, by their kinds -/
def pz_dflt (ty : FieldType) : Nat := match ty with
  | .int => 0
  | .boolean => 0
  | .long => 1
  | .object _ => 2
  | .array _ => 2
  | _ => 3
theorem pz_new_fs (X : ZX) {n ci j t : Nat} {M : ZM} {ty : FieldType} (ht : (zft.getD ci [])[j]? = some t) (hty : pz_dflt ty = t) (h3 : t < 3) : defaultValue ty = vp_V (pz_fvs X (zft.getD ci []) 0 (znew M n (.inl ci) n)) j := by
  unfold vp_V
  rw [List.getD_eq_getElem?_getD, pz_fvs_get, ht, Option.map_some, Option.getD_some, Nat.zero_add]
  have hz : znew M n (.inl ci) n j = if t = 2 then -1 else 0 := by
    unfold znew pz_new
    rw [if_pos rfl]
    simp only [ht, Option.some.injEq]
  rw [hz]
  cases ty <;> simp only [pz_dflt] at hty <;> subst hty <;> first | rfl | exact absurd h3 (by decide)
theorem go_new {ci N idx : Nat} {C : String} {T : u_T} {ty0 : Nat → FieldType} (hd : decode mt.2.1 pc = .ok (.new idx, 3)) (hc : zTT[n]? = some (.inl ci)) (hcl : vwCl[ci]? = some (C, T, N)) (hin : ∀ w ∈ u_ws C T N, w ∈ lwg) (hty : ∀ k, k < N → parseFieldDescriptor (T k).2.2.1 = some (ty0 k)) (hck : Cond.classLink mt.1 idx C ∈ lwg) (hik : Cond.instantiable C N ∈ lwg) (hnk : Cond.initialized C ∈ lwg) (hft : ∀ k, k < N → (zft.getD ci [])[k]? = some (pz_dflt (ty0 k)) ∧ pz_dflt (ty0 k) < 3) (hlen : (zft.getD ci []).length = N) (hn : n + 1 ≤ out.2.1) (kk : zGo l X d mt (pc + 3) L (zr (n : Int) :: S) (n + 1) (znew M n (.inl ci)) out) : zGo l X d mt pc L S n M out := by
  intro p e s m args below meth c0 B n0 H locs ls h1 h2 hR hS hL
  have hss := pz_ss_succ hc
  have hsm := pz_ss_mono hn
  have hs0 := pz_ss_mono h1
  have hcz : pz_csz (.inl ci) = N := hlen
  have hnT : n < zTT.length := (List.getElem?_eq_some_iff.mp hc).1
  have hz := h2.2 (by omega)
  refine va_new (H0 := s.heap) B.1 B.2.1 B.2.2.2.2.2.2.1 hin ty0 hty B.2.2.2.2.2.1 (B.2.2.2.2.2.2.1 _ hck) (B.2.2.2.2.2.2.1 _ hik) (B.2.2.2.2.2.2.1 _ hnk) B.2.2.2.2.2.2.2.1.1 hR (pz_D X n M) hS (fun q hq => Nat.le_trans B.2.2.2.2.2.2.2.1.2.1 hq) hcl (fs := pz_fvs X (zft.getD ci []) 0 (znew M n (.inl ci) n)) (fun j hj => pz_new_fs X (hft j hj).1 rfl (hft j hj).2) (by show n - n0 + 1 ≤ out.2.1 - n0; omega) (by show pz_ss n - pz_ss n0 + N ≤ pz_ss out.2.1 - pz_ss n0; omega) hd (fun q H1 hP1 hD1 hS1 => ?_)
  refine pz_sz (fun hsz => ?_)
  have hq := pz_fresh h1 hz hP1 hD1 hsz
  subst hq
  rw [pz_ws_push X M (q := .inl ci) (by rw [pz_cell_o X _ hc])] at hP1
  have h := kk p e s m args below meth c0 B n0 H1 locs ls (by omega) ⟨hn, h2.2⟩ hP1 hS1 hL
  rw [List.map_cons, pz_val_n X (pz_TTlt hc)] at h
  rw [show n - n0 + 1 = n + 1 - n0 by omega, show pz_ss n - pz_ss n0 + N = pz_ss (n + 1) - pz_ss n0 by omega]
  exact h
/-- a row's contents when it is new -/
theorem pz_newa_cell (X : ZX) {n t len : Nat} {M : ZM} {cA : ClassId} (hc : zTT[n]? = some (.inr (t, len))) (hA : cA = X.2.2.1 t) : pz_cell X (znew M n (.inr (t, len))) n = .inl (cA, len, pz_arr X t (fun _ => if t = 3 then -1 else 0)) := by
  have e : znew M n (.inr (t, len)) n = fun _ => if t = 3 then -1 else 0 := by
    funext b
    unfold znew pz_new
    rw [if_pos rfl]
  rw [pz_cell_a X _ hc, hA, e]
theorem go_newa {t len : Nat} {at' : ArrayType} {ty : FieldType} (hd : decode mt.2.1 pc = .ok (.newarray at', 2)) (hc : zTT[n]? = some (.inr (t, len))) (hat : newarray.typeOf at' = ty) (hak : Cond.arrayClass ty ∈ lwg) (hty : (pz_tys X)[t]? = some (X.2.2.1 t, ty)) (hob : ∀ C, ty ≠ .object C) (ha : ∀ cA : ClassId, vp_cell cA (len, pz_arr X t (fun _ => if t = 3 then -1 else 0)) = arrV cA len (fun _ => defaultValue ty)) (hb : len * componentBytes ty ≤ 536870912) (hn : n + 1 ≤ out.2.1) (kk : zGo l X d mt (pc + 2) L (zr (n : Int) :: S) (n + 1) (znew M n (.inr (t, len))) out) : zGo l X d mt pc L (zi (len : Int) :: S) n M out := by
  intro p e s m args below meth c0 B n0 H locs ls h1 h2 hR hS hL
  have hss := pz_ss_succ hc
  have hsm := pz_ss_mono hn
  have hs0 := pz_ss_mono h1
  have hcz : pz_csz (.inr (t, len)) = len := rfl
  have hll := pz_TTlen hc
  have hnT : n < zTT.length := (List.getElem?_eq_some_iff.mp hc).1
  have hz := h2.2 (by omega)
  have hK := B.2.2.2.2.2.2.2.1.1
  have hpos : ¬ Int32.ofInt (len : Int) < 0 := fun h => by
    have := (pz_lt0 _).mp h
    rw [w32_id (by omega) (by omega)] at this
    omega
  refine va_newa (H0 := s.heap) (ty := ty) B.1 B.2.1 (by rw [hat]; exact B.2.2.2.2.2.2.1 _ hak) hat hK hR (pz_D X n M) hS (fun q hq => Nat.le_trans B.2.2.2.2.2.2.2.1.2.1 hq) (N' := len) ha hpos (by rw [pz_clamp (by omega) (by omega), Int.toNat_natCast]) hb (by show n - n0 + 1 ≤ out.2.1 - n0; omega) (by show pz_ss n - pz_ss n0 + len ≤ pz_ss out.2.1 - pz_ss n0; omega) hd (fun q cA H1 hK1 hP1 hD1 hS1 => ?_)
  refine pz_sz (fun hsz => ?_)
  have hq := pz_fresh h1 hz hP1 hD1 hsz
  subst hq
  have hcA : cA = X.2.2.1 t := by
    have k1 := (hK.2 t _ hty).2
    have k2 := (hK1.2 (pz_tys X).length (cA, ty) (by rw [List.getElem?_append_right (Nat.le_refl _), Nat.sub_self]; rfl)).2
    unfold va_RA at k1 k2
    cases ty with
    | object C => exact absurd rfl (hob C)
    | _ => exact Option.some.inj (k2.symm.trans k1)
  rw [pz_ws_push X M (q := .inr (t, len)) (by rw [pz_newa_cell X hc hcA])] at hP1
  have h := kk p e s m args below meth c0 B n0 H1 locs ls (by omega) ⟨hn, h2.2⟩ hP1 hS1 hL
  rw [List.map_cons, pz_val_n X (pz_TTlt hc)] at h
  rw [show n - n0 + 1 = n + 1 - n0 by omega, show pz_ss n - pz_ss n0 + len = pz_ss (n + 1) - pz_ss n0 by omega]
  exact h
theorem go_newq {len idx : Nat} (hd : decode mt.2.1 pc = .ok (.anewarray idx, 3)) (hc : zTT[n]? = some (.inr (3, len))) (hck : Cond.classLink mt.1 idx "SleepWords$Now" ∈ lwg) (hb : len * 4 ≤ 536870912) (hn : n + 1 ≤ out.2.1) (kk : zGo l X d mt (pc + 3) L (zr (n : Int) :: S) (n + 1) (znew M n (.inr (3, len))) out) : zGo l X d mt pc L (zi (len : Int) :: S) n M out := by
  intro p e s m args below meth c0 B n0 H locs ls h1 h2 hR hS hL
  have hss := pz_ss_succ hc
  have hsm := pz_ss_mono hn
  have hs0 := pz_ss_mono h1
  have hcz : pz_csz (.inr (3, len)) = len := rfl
  have hll := pz_TTlen hc
  have hnT : n < zTT.length := (List.getElem?_eq_some_iff.mp hc).1
  have hz := h2.2 (by omega)
  have hK := B.2.2.2.2.2.2.2.1.1
  have hpos : ¬ Int32.ofInt (len : Int) < 0 := fun h => by
    have := (pz_lt0 _).mp h
    rw [w32_id (by omega) (by omega)] at this
    omega
  refine va_newq (H0 := s.heap) B.1 B.2.1 B.2.2.2.2.2.1 (B.2.2.2.2.2.2.1 _ hck) B.2.2.2.2.2.2.2.1.2.2.2.2.2.2 hK hR (pz_D X n M) hS (fun q hq => Nat.le_trans B.2.2.2.2.2.2.2.1.2.1 hq) (N' := len) hpos (by rw [pz_clamp (by omega) (by omega), Int.toNat_natCast]) hb (by show n - n0 + 1 ≤ out.2.1 - n0; omega) (by show pz_ss n - pz_ss n0 + len ≤ pz_ss out.2.1 - pz_ss n0; omega) hd (fun q cA H1 hK1 hP1 hD1 hS1 => ?_)
  refine pz_sz (fun hsz => ?_)
  have hq := pz_fresh h1 hz hP1 hD1 hsz
  subst hq
  have hcA : cA = X.2.2.1 3 := by
    obtain ⟨_, _, _, _, _, k1⟩ := (hK.2 3 (X.2.2.1 3, .object "SleepWords$Now") rfl).2
    obtain ⟨_, _, _, _, _, k2⟩ := (hK1.2 (pz_tys X).length (cA, .object "SleepWords$Now") (by rw [List.getElem?_append_right (Nat.le_refl _), Nat.sub_self]; rfl)).2
    exact Option.some.inj (k2.symm.trans k1)
  rw [pz_ws_push X M (q := .inr (3, len)) (by rw [pz_newa_cell X hc hcA]; rfl)] at hP1
  have h := kk p e s m args below meth c0 B n0 H1 locs ls (by omega) ⟨hn, h2.2⟩ hP1 hS1 hL
  rw [List.map_cons, pz_val_n X (pz_TTlt hc)] at h
  rw [show n - n0 + 1 = n + 1 - n0 by omega, show pz_ss n - pz_ss n0 + len = pz_ss (n + 1) - pz_ss n0 by omega]
  exact h
end ZN
