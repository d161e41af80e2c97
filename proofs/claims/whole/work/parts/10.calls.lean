/-! calls: a method's contract out of its body, and the contract at a call -/
def pz_argL : List ZV → List (Option ZV)
  | [] => []
  | .inr (.inl z) :: r => some (zl z) :: none :: pz_argL r
  | v :: r => some v :: pz_argL r
theorem pz_argL_len (X : ZX) : ∀ av : List ZV, (lg_sl (av.map (pz_val X))).length = (pz_argL av).length := by
  intro av
  induction av with
  | nil => rfl
  | cons v r ih =>
    match v with
    | .inr (.inl z) =>
      show (lg_sl (Value.long _ :: r.map (pz_val X))).length = _
      rw [show lg_sl (Value.long (Int64.ofInt z) :: r.map (pz_val X)) = [.val (Value.long (Int64.ofInt z)), .second] ++ lg_sl (r.map (pz_val X)) from rfl, List.length_append, ih]
      show 2 + _ = (pz_argL r).length + 1 + 1
      omega
    | .inl z =>
      show (lg_sl (Value.int _ :: r.map (pz_val X))).length = _
      rw [show lg_sl (Value.int (Int32.ofInt z) :: r.map (pz_val X)) = [.val (Value.int (Int32.ofInt z))] ++ lg_sl (r.map (pz_val X)) from rfl, List.length_append, ih]
      show 1 + _ = (pz_argL r).length + 1
      omega
    | .inr (.inr z) =>
      have hcat := pz_cat1 X (zr z) (fun z => by intro h; cases h)
      have e : lg_sl (List.map (pz_val X) (Sum.inr (Sum.inr z) :: r)) = [.val (pz_val X (zr z))] ++ lg_sl (r.map (pz_val X)) := by
        show (List.flatMap _ (pz_val X (zr z) :: r.map (pz_val X))) = _
        rw [List.flatMap_cons, if_neg (by rw [hcat]; decide)]
        rfl
      rw [e, List.length_append, ih]
      show 1 + _ = (pz_argL r).length + 1
      omega
theorem pz_argL_get (X : ZX) : ∀ (av : List ZV) (o i : Nat) (v : ZV), (pz_argL av)[i]? = some (some v) → (o + i, pz_val X v) ∈ lv_args o (av.map (pz_val X)) := by
  intro av
  induction av with
  | nil => intro o i v h; simp [pz_argL] at h
  | cons u r ih =>
    intro o i v h
    match u, h with
    | .inr (.inl z), h =>
      show _ ∈ (o, Value.long (Int64.ofInt z)) :: lv_args (o + 2) (r.map (pz_val X))
      match i, h with
      | 0, h => cases h; exact List.mem_cons_self
      | 1, h => cases h
      | i + 2, h =>
        have := ih (o + 2) i v h
        rw [show o + 2 + i = o + (i + 2) by omega] at this
        exact List.mem_cons_of_mem _ this
    | .inl z, h =>
      show _ ∈ (o, Value.int (Int32.ofInt z)) :: lv_args (o + 1) (r.map (pz_val X))
      match i, h with
      | 0, h => cases h; exact List.mem_cons_self
      | i + 1, h =>
        have := ih (o + 1) i v h
        rw [show o + 1 + i = o + (i + 1) by omega] at this
        exact List.mem_cons_of_mem _ this
    | .inr (.inr z), h =>
      have hcat := pz_cat1 X (zr z) (fun z => by intro h; cases h)
      have e : lv_args o (List.map (pz_val X) (Sum.inr (Sum.inr z) :: r)) = (o, pz_val X (zr z)) :: lv_args (o + 1) (r.map (pz_val X)) := by
        show (o, pz_val X (zr z)) :: lv_args (if (pz_val X (zr z)).category = 2 then o + 2 else o + 1) (r.map (pz_val X)) = _
        rw [if_neg (by rw [hcat]; decide)]
      rw [e]
      match i, h with
      | 0, h => cases h; exact List.mem_cons_self
      | i + 1, h =>
        have := ih (o + 1) i v h
        rw [show o + 1 + i = o + (i + 1) by omega] at this
        exact List.mem_cons_of_mem _ this
def pz_entL (av : List ZV) (nL : Nat) : List (Option ZV) := pz_argL av ++ List.replicate (nL - (pz_argL av).length) none
theorem zMet.of {l : Launch} {X : ZX} {d : Nat} {y : MethodName} {mt : ZT} {av : List ZV} {n : Nat} {M : ZM} {out : ZO} (L : List (Option ZV)) (hy : plainName y.cls = true) (h1 : mt.1 = y.cls) (h2 : mt.2.2.2.2 = y.name) (hn : n ≤ out.2.1) (hlen : (pz_argL av).length ≤ mt.2.2.1) (hL : pz_entL av mt.2.2.1 = L) (kk : zGo l X d mt 0 L [] n M out) : zMet l X d y mt av n M out := by
  refine ⟨hn, ?_⟩
  refine Met.ofW (cc := mt.2.1) (maxL := mt.2.2.1) (ret := mt.2.2.2.1) hy rfl ?_
  intro p e s m args below meth c s₁ B hml hv
  obtain ⟨rfl, hE, hR⟩ := hv
  have hts := atoms_spec (ws := Cond.code y mt.2.1 mt.2.2.1 mt.2.2.2.1 :: lwg) B.pre
  have hown : s.vm.findClass y.cls = some m.cls := findClass_of_methodNamed B.named
  have hnm : meth.name = y.name := (name_of_methodNamed B.named B.method).1
  have hl := lv_entry (av.map (pz_val X)) (n := mt.2.2.1) (by rw [pz_argL_len]; exact hlen)
  rw [lg_entry_eq]
  generalize (lg_sl (av.map (pz_val X)) ++ List.replicate (mt.2.2.1 - (lg_sl (av.map (pz_val X))).length) Slot.unset).toArray = ls at hl ⊢
  have hLL : pz_L X ls mt.2.2.1 L := by
    refine ⟨hl.1, hl.2.1, ?_, fun i v hi => ?_⟩
    · rw [← hL]
      unfold pz_entL
      rw [List.length_append, List.length_replicate]
      omega
    · rw [← hL] at hi
      unfold pz_entL at hi
      by_cases hi2 : i < (pz_argL av).length
      · rw [List.getElem?_append_left hi2] at hi
        have := hl.2.2 (0 + i, pz_val X v) (pz_argL_get X av 0 i v hi)
        rw [Nat.zero_add] at this
        exact this
      · rw [List.getElem?_append_right (by omega), List.getElem?_replicate] at hi
        split at hi <;> cases hi
  have hW := kk p e s m _ below meth c ⟨B.exec, B.bytes, B.returns, B.notSynchronized, hml, by rw [h1]; exact hown, fun w hw => hts w (List.mem_cons_of_mem _ hw), hE, by rw [h2]; exact hnm⟩ n s.heap [] ls (Nat.le_refl n) ⟨hn, hR.2⟩ hR.1 va_S.rf hLL
  rw [Nat.sub_self, Nat.sub_self] at hW
  exact hW
section ZC
variable {p : Program} {l : Launch} {e : Env} {R : Room} {s : State} {m : MethodId} {args : Array Value} {below : List Frame} {meth : Method} {c : Code} {H : Heap} {locs : List Loc} {cells slots mc ms : Nat} {Q : State → Prop} {X : ZX} {pc : Nat} {ls : Array Slot} {st0 rest : List Value} {a : Array Value}
theorem pz_after {r : Option ZV} {n1 : Nat} {M1 : ZM} (hr : va_Run p l e R s m args below meth c H locs cells slots mc ms (F0 m pc ls st0) rest (pz_Q X (r, n1, M1) a) (pz_A X)) (hS : va_S (pz_A X) s.heap H locs)
    (k : ∀ (H1 : Heap) (locs1 : List Loc), pz_rel X n1 M1 H1 → va_S (pz_A X) s.heap H1 locs1 → W p l e R s m args below meth c H1 locs1 (cells + mc) (slots + ms) Q (F0 m (pc + 3) ls (r.toList.map (pz_val X) ++ rest))) : W p l e R s m args below meth c H locs cells slots Q (F0 m pc ls st0) := by
  match r, hr, k with
  | none, hr, k => exact va_callv (a := a) hr hS (fun q _ h => h) (fun q h => h) (fun u t H1 locs1 ht hvm hp hB hz hk hS1 => k H1 locs1 (by subst ht; exact hB) hS1)
  | some (.inl v), hr, k => exact va_calli (a := a) hr hS (fun q _ h => h) (fun q h => h) (fun x u t H1 locs1 ht hvm hp hB hz hk hS1 => by subst hp; exact k H1 locs1 (by subst ht; exact hB) hS1)
  | some (.inr (.inl v)), hr, k => exact va_calll (a := a) hr hS (fun q _ h => h) (fun q h => h) (fun x u t H1 locs1 ht hvm hp hB hz hk hS1 => by subst hp; exact k H1 locs1 (by subst ht; exact hB) hS1)
  | some (.inr (.inr v)), hr, k =>
    intro T hT hX
    obtain ⟨v, st0, t, T', L, -, -, -, -, -, hQ, -⟩ := hr T hT hX
    exact hQ.elim
end ZC
/-- what the tables say of a method: called on an object; static; a constructor -/
def zMV (y : MethodName) (mt : ZT) (na : Nat) : Prop := Cond.instanceMethod y ∈ lwg ∧ Cond.selects y.cls y y ∈ lwg ∧ Cond.initialized y.cls ∈ lwg ∧ Cond.code y mt.2.1 mt.2.2.1 mt.2.2.2.1 ∈ lwg ∧ (y.cls ≠ "java/lang/invoke/MethodHandle" ∧ y.cls ≠ "java/lang/invoke/VarHandle" ∧ (parseMethodDescriptor y.desc).map (fun d => d.parameters.length) = some na) ∧ mt.2.2.1 ≤ 41
def zMS (y : MethodName) (mt : ZT) (na : Nat) : Prop := Cond.static y ∈ lwg ∧ Cond.initialized y.cls ∈ lwg ∧ Cond.code y mt.2.1 mt.2.2.1 mt.2.2.2.1 ∈ lwg ∧ (y.cls ≠ "java/lang/invoke/MethodHandle" ∧ y.cls ≠ "java/lang/invoke/VarHandle" ∧ (parseMethodDescriptor y.desc).map (fun d => d.parameters.length) = some na) ∧ mt.2.2.1 ≤ 41
def zMI (y : MethodName) (mt : ZT) (na : Nat) : Prop := Cond.instanceMethod y ∈ lwg ∧ y.name = "<init>" ∧ mt.2.2.2.1 = none ∧ Cond.initialized y.cls ∈ lwg ∧ Cond.code y mt.2.1 mt.2.2.1 mt.2.2.2.1 ∈ lwg ∧ (y.cls ≠ "java/lang/invoke/MethodHandle" ∧ y.cls ≠ "java/lang/invoke/VarHandle" ∧ (parseMethodDescriptor y.desc).map (fun d => d.parameters.length) = some na) ∧ mt.2.2.1 ≤ 41
theorem pz_goodC {w : Cond} (h : w ∈ lwg) : GoodIn lwg (w :: lwg) := fun v hv => lwg_good v ((List.mem_cons.mp hv).elim (fun e => e ▸ h) id)
theorem pz_goodV {own C : String} {idx : Nat} {y : MethodName} {w : Cond} (h1 : Cond.methodLink own idx y ∈ lwg) (h2 : Cond.instanceMethod y ∈ lwg) (h3 : Cond.selects C y y ∈ lwg) (h4 : Cond.initialized C ∈ lwg) (h : w ∈ lwg) : GoodIn lwg (wsV own idx C y (w :: lwg)) := by
  intro v hv
  refine lwg_good v ?_
  unfold wsV at hv
  rcases List.mem_append.mp hv with hv | hv
  · simp only [List.mem_cons, List.not_mem_nil, or_false] at hv
    rcases hv with rfl | rfl | rfl | rfl
    · exact h1
    · exact h2
    · exact h3
    · exact h4
  · exact (List.mem_cons.mp hv).elim (fun e => e ▸ h) id
def pz_cats (rest : List ZV) : Nat := (rest.map (fun v => match v with
  | .inr (.inl _) => 2
  | _ => 1)).sum
theorem pz_cats_ok (X : ZX) : ∀ rest : List ZV, ((rest.map (pz_val X)).map fun v => v.category).sum = pz_cats rest := by
  intro rest
  induction rest with
  | nil => rfl
  | cons v r ih =>
    rw [List.map_cons, List.map_cons, List.sum_cons, ih]
    unfold pz_cats
    rw [List.map_cons, List.sum_cons]
    congr 1
    match v with
    | .inl _ => rfl
    | .inr (.inl _) => rfl
    | .inr (.inr z) => exact pz_cat1 X (zr z) (fun z => by intro h; cases h)
section ZCC
variable {l : Launch} {X : ZX} {d : Nat} {mt : ZT} {pc : Nat} {L : List (Option ZV)} {S : List ZV} {n : Nat} {M : ZM} {out : ZO}
theorem pz_slots {n0 n n1 n2 : Nat} (h1 : n0 ≤ n) (h2 : n ≤ n1) (h3 : n1 ≤ n2) : (n - n0) + (n1 - n) ≤ n2 - n0 ∧ (pz_ss n - pz_ss n0) + (pz_ss n1 - pz_ss n) ≤ pz_ss n2 - pz_ss n0 := by
  have a1 := pz_ss_mono h1
  have a2 := pz_ss_mono h2
  have a3 := pz_ss_mono h3
  omega
theorem pz_slots2 {n0 n n1 : Nat} (h1 : n0 ≤ n) (h2 : n ≤ n1) : (n - n0) + (n1 - n) = n1 - n0 ∧ (pz_ss n - pz_ss n0) + (pz_ss n1 - pz_ss n) = pz_ss n1 - pz_ss n0 := by
  have a1 := pz_ss_mono h1
  have a2 := pz_ss_mono h2
  omega
theorem go_callV {r : Option ZV} {n1 d' ci N idx : Nat} {M1 : ZM} {y : MethodName} {mt' : ZT} {T : u_T} {C : String} (As rest : List ZV) (c : Nat) (hS0 : S = As.reverse ++ zr (c : Int) :: rest) (hd : decode mt.2.1 pc = .ok (.invokevirtual idx, 3)) (hM : zMet l X d' y mt' (zr (c : Int) :: As) n M (r, n1, M1)) (hlk : Cond.methodLink mt.1 idx y ∈ lwg) (hmv : zMV y mt' As.length) (hc : zTT[c]? = some (.inl ci)) (hn : c < n) (hcl : vwCl[ci]? = some (C, T, N)) (hC : C = y.cls) (hdd : d' + 1 ≤ d) (hrs : pz_cats rest ≤ 8) (hno : n1 ≤ out.2.1) (kk : zGo l X d mt (pc + 3) L (r.toList ++ rest) n1 M1 out) : zGo l X d mt pc L S n M out := by
  intro p e s m args below meth c0 B n0 H locs ls h1 h2 hR hS hL
  subst hS0
  subst hC
  obtain ⟨hnn, hMet⟩ := hM
  obtain ⟨m1, m2, m3, m4, m5, m6⟩ := hmv
  have hE := B.2.2.2.2.2.2.2.1
  refine pz_sz (fun hsz => ?_)
  have hRel := pz_relOf h1 h2.2 hR hE.2.1 hS hsz
  have hts := B.2.2.2.2.2.2.1
  refine pz_after (r := r) (n1 := n1) (M1 := M1) (rest := rest.map (pz_val X)) (va_runV (As := As.map (pz_val X)) (b := X.1 + c) (n := As.length) ⟨B.1, B.2.1, B.2.2.2.2.1, B.2.2.2.2.2.1, hts⟩ hMet (cwV As.length hts (pz_goodV hlk m1 m2 m3 m4) rfl rfl rfl ⟨rfl, m5⟩ ⟨hdd, by show 8 + (mt'.2.2.1 + 11) + 60 * d' ≤ 60 * d; omega⟩) ⟨pz_blind X _ n M, va_recv hE.1 hR hcl (by rw [pz_ws_get X M hn, pz_cell_o X M hc]), fun U hU hW => ⟨by rw [List.map_cons, pz_val_c X hc], hE.move hW (by rw [hU]; exact hS.1) (by rw [hU]; exact hS.2.1), by rw [hU]; exact hRel⟩⟩ rfl (List.length_map ..) (hL.1) (by
      show List.map (pz_val X) (As.reverse ++ zr (c : Int) :: rest) = _
      rw [List.map_append, List.map_reverse, List.map_cons, pz_val_c X hc]) (lv_room (by rw [pz_cats_ok]; exact hrs)) hd (pz_slots h1 hnn hno)) hS (fun H1 locs1 hR1 hS1 => ?_)
  have h := kk p e s m args below meth c0 B n0 H1 locs1 ls (Nat.le_trans h1 hnn) ⟨hno, h2.2⟩ hR1.1 hS1 hL
  obtain ⟨e1, e2⟩ := pz_slots2 h1 hnn
  rw [List.map_append] at h
  show W p l e _ s m args below meth c0 H1 locs1 (n - n0 + (n1 - n)) (pz_ss n - pz_ss n0 + (pz_ss n1 - pz_ss n)) _ _
  rw [e1, e2]
  exact h
end ZCC
