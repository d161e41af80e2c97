/-! THE LAW FROM ITS ENTRY: cells still to be made -/
def zY (l : Launch) (X : ZX) (p : Program) (e : Env) (s : State) (m : MethodId) (below : List Frame) (meth : Method) (c0 : Code) (b : Nat) (pc : Nat) (L : List (Option ZV)) (S : List ZV) (n : Nat) (M : ZM) : Prop :=
  ∀ (H : Heap) (locs : List Loc) (ls : Array Slot), va_P X.2.1 vwCl (pz_ws X n M) H → va_S (pz_A X) s.heap H locs → pz_L X ls 7 L → W p l e room_1 s m #[Value.ref b] below meth c0 H locs n (pz_ss n) (lw_Z below #[Value.ref b] s) (F0 m pc ls (S.map (pz_val X)))
section YR
variable {nm : String} {l : Launch} {X : ZX} {p : Program} {e : Env} {s : State} {m : MethodId} {below : List Frame} {meth : Method} {c0 : Code} {b : Nat} {pc : Nat} {L : List (Option ZV)} {S : List ZV} {n : Nat} {M : ZM}
theorem y_ss (hn : n ≤ 139) : pz_ss n ≤ 7467 := by
  have h := pz_ss_mono hn
  rw [pz_ss139] at h
  exact h
theorem y_new (B : pz_bd X (tL_law nm) p s m #[Value.ref b] meth c0) (h1 : X.1 = s.heap.size) {ci N idx : Nat} {C : String} {T : u_T} {ty0 : Nat → FieldType} (hd : decode (tL_law nm).2.1 pc = .ok (.new idx, 3)) (hc : zTT[n]? = some (.inl ci)) (hcl : vwCl[ci]? = some (C, T, N)) (hin : ∀ w ∈ u_ws C T N, w ∈ lwg) (hty : ∀ k, k < N → parseFieldDescriptor (T k).2.2.1 = some (ty0 k)) (hck : Cond.classLink (tL_law nm).1 idx C ∈ lwg) (hik : Cond.instantiable C N ∈ lwg) (hnk : Cond.initialized C ∈ lwg) (hft : ∀ k, k < N → (zft.getD ci [])[k]? = some (pz_dflt (ty0 k)) ∧ pz_dflt (ty0 k) < 3) (hlen : (zft.getD ci []).length = N) (kk : zY l X p e s m below meth c0 b (pc + 3) L (zr (n : Int) :: S) (n + 1) (znew M n (.inl ci))) : zY l X p e s m below meth c0 b pc L S n M := by
  intro H locs ls hR hS hL
  have hss := pz_ss_succ hc
  have hcz : pz_csz (.inl ci) = N := hlen
  have hn9 := pz_lt139 hc
  have hs9 := y_ss (n := n + 1) hn9
  refine va_new (H0 := s.heap) B.1 B.2.1 B.2.2.2.2.2.2.1 hin ty0 hty B.2.2.2.2.2.1 (B.2.2.2.2.2.2.1 _ hck) (B.2.2.2.2.2.2.1 _ hik) (B.2.2.2.2.2.2.1 _ hnk) B.2.2.2.2.2.2.2.1.1 hR (pz_D X n M) hS (fun q hq => Nat.le_trans B.2.2.2.2.2.2.2.1.2.1 hq) hcl (fs := pz_fvs X (zft.getD ci []) 0 (znew M n (.inl ci) n)) (fun j hj => pz_new_fs X (hft j hj).1 rfl (hft j hj).2) (by show n + 1 ≤ 601024; omega) (by show pz_ss n + N ≤ 7293034; omega) hd (fun q H1 hP1 hD1 hS1 => ?_)
  refine pz_sz (fun hsz => ?_)
  have hq := pz_fresh (s := s) (n0 := 0) (Nat.zero_le n) (by omega) hP1 hD1 (by omega)
  subst hq
  rw [pz_ws_push X M (q := .inl ci) (by rw [pz_cell_o X _ hc])] at hP1
  have h := kk H1 locs ls hP1 hS1 hL
  rw [List.map_cons, pz_val_n X (pz_TTlt hc)] at h
  rw [show pz_ss n + N = pz_ss (n + 1) by omega]
  exact h
theorem y_newl (B : pz_bd X (tL_law nm) p s m #[Value.ref b] meth c0) (h1 : X.1 = s.heap.size) (hd : decode (tL_law nm).2.1 pc = .ok (.newarray .long, 2)) (hc : zTT[n]? = some (.inr (2, 1))) (kk : zY l X p e s m below meth c0 b (pc + 2) L (zr (n : Int) :: S) (n + 1) (znew M n (.inr (2, 1)))) : zY l X p e s m below meth c0 b pc L (zi 1 :: S) n M := by
  intro H locs ls hR hS hL
  have hss := pz_ss_succ hc
  have hcz : pz_csz (.inr (2, 1)) = 1 := rfl
  have hn9 := pz_lt139 hc
  have hs9 := y_ss (n := n + 1) hn9
  have hK := B.2.2.2.2.2.2.2.1.1
  refine va_newa (H0 := s.heap) (atype := .long) (ty := .long) B.1 B.2.1 (B.2.2.2.2.2.2.1 _ ac_long) rfl hK hR (pz_D X n M) hS (fun q hq => Nat.le_trans B.2.2.2.2.2.2.2.1.2.1 hq) (N' := 1) (a0 := (1, pz_arr X 2 (fun _ => 0))) (fun cA => rfl) (by decide) (by decide) (by decide) (by show n + 1 ≤ 601024; omega) (by show pz_ss n + 1 ≤ 7293034; omega) hd (fun q cA H1 hK1 hP1 hD1 hS1 => ?_)
  refine pz_sz (fun hsz => ?_)
  have hq := pz_fresh (s := s) (n0 := 0) (Nat.zero_le n) (by omega) hP1 hD1 (by omega)
  subst hq
  have hcA : cA = X.2.2.1 2 := by
    have k1 := (hK.2 2 (X.2.2.1 2, .long) rfl).2
    have k2 := (hK1.2 (pz_tys X).length (cA, .long) (by rw [List.getElem?_append_right (Nat.le_refl _), Nat.sub_self]; rfl)).2
    exact Option.some.inj (k2.symm.trans k1)
  rw [pz_ws_push X M (q := .inr (2, 1)) (by rw [pz_newa_cell X hc hcA]; rfl)] at hP1
  have h := kk H1 locs ls hP1 hS1 hL
  rw [List.map_cons, pz_val_n X (pz_TTlt hc)] at h
  rw [show pz_ss n + 1 = pz_ss (n + 1) by omega]
  exact h
theorem y_callI (B : pz_bd X (tL_law nm) p s m #[Value.ref b] meth c0) (h1 : X.1 = s.heap.size) {n1 d' idx : Nat} {M1 : ZM} {y : MethodName} {own' nm' : String} {b' : ByteArray} {ml' : Nat} {q : Nat ⊕ (Nat × Nat)} (rest : List ZV) (c : Nat) (hd : decode (tL_law nm).2.1 pc = .ok (.invokespecial idx, 3)) (hM : zMet l X d' y (own', b', ml', none, nm') [zr (c : Int)] n M (none, n1, M1)) (hlk : Cond.methodLink (tL_law nm).1 idx y ∈ lwg) (hmv : zMI y (own', b', ml', none, nm') 0) (hc : zTT[c]? = some q) (hdd : d' ≤ 20) (hrs : pz_cats rest ≤ 8) (hn1 : n1 ≤ 139) (kk : zY l X p e s m below meth c0 b (pc + 3) L rest n1 M1) : zY l X p e s m below meth c0 b pc L (zr (c : Int) :: rest) n M := by
  intro H locs ls hR hS hL
  obtain ⟨hnn, hMet⟩ := hM
  have hnn : n ≤ n1 := hnn
  obtain ⟨m1, m2, -, m3, m4, m5, m6⟩ := hmv
  have m6 : ml' ≤ 41 := m6
  have hE := B.2.2.2.2.2.2.2.1
  have hs9 := y_ss hn1
  have hm9 := pz_ss_mono hnn
  refine pz_sz (fun hsz => ?_)
  have hRel := pz_relOf (n0 := 0) (Nat.zero_le n) (fun _ => by omega) hR hE.2.1 hS hsz
  have hts := B.2.2.2.2.2.2.1
  refine pz_after (r := none) (n1 := n1) (M1 := M1) (rest := rest.map (pz_val X)) (va_runI (As := []) (b := X.1 + c) (n := 0) ⟨B.1, B.2.1, B.2.2.2.2.1, B.2.2.2.2.2.1, hts⟩ hMet (cwI 0 hts (pz_goodC m4) rfl rfl rfl (hts _ m3) (hts _ hlk) (hts _ m1) m2 m5 ⟨by show d' + 1 ≤ 2048; omega, by show 8 + (ml' + 11) + 60 * d' ≤ 84000; omega⟩) ⟨pz_blind X _ n M, fun U hU hW => ⟨by rw [List.map_cons, pz_val_c X hc]; rfl, hE.move hW (by rw [hU]; exact hS.1) (by rw [hU]; exact hS.2.1), by rw [hU]; exact hRel⟩⟩ rfl rfl (hL.1) (by rw [List.map_cons, pz_val_c X hc]; rfl) (lv_room (by rw [pz_cats_ok]; exact hrs)) hd (by show n + (n1 - n) ≤ 601024 ∧ pz_ss n + (pz_ss n1 - pz_ss n) ≤ 7293034; omega)) hS (fun H1 locs1 hR1 hS1 => ?_)
  have h := kk H1 locs1 ls hR1.1 hS1 hL
  show W p l e _ s m #[Value.ref b] below meth c0 H1 locs1 (n + (n1 - n)) (pz_ss n + (pz_ss n1 - pz_ss n)) _ _
  rw [show n + (n1 - n) = n1 by omega, show pz_ss n + (pz_ss n1 - pz_ss n) = pz_ss n1 by omega]
  exact h
theorem y_dup (B : pz_bd X (tL_law nm) p s m #[Value.ref b] meth c0) (h1 : X.1 = s.heap.size) {z : Int} (hd : decode (tL_law nm).2.1 pc = .ok (.dup, 1)) (kk : zY l X p e s m below meth c0 b (pc + 1) L (zr z :: zr z :: S) n M) : zY l X p e s m below meth c0 b pc L (zr z :: S) n M := by
  intro H locs ls hR hS hL
  exact lv_dup B.1 B.2.1 hd (pz_cat1 X (zr z) (fun z h => by cases h)) (kk H locs ls hR hS hL)
theorem y_iconst (B : pz_bd X (tL_law nm) p s m #[Value.ref b] meth c0) (h1 : X.1 = s.heap.size) {v : Int} (hd : decode (tL_law nm).2.1 pc = .ok (.iconst v, 1)) (kk : zY l X p e s m below meth c0 b (pc + 1) L (zi v :: S) n M) : zY l X p e s m below meth c0 b pc L S n M := by
  intro H locs ls hR hS hL
  exact lv_iconst B.1 B.2.1 hd rfl (kk H locs ls hR hS hL)
theorem y_astore (B : pz_bd X (tL_law nm) p s m #[Value.ref b] meth c0) (h1 : X.1 = s.heap.size) {k : Fin 4} {i : Nat} {a : Int} {L' : List (Option ZV)} (hd : decode (tL_law nm).2.1 pc = .ok (.astore_n k, 1)) (hi : (k : Nat) = i) (hlt : i < L.length) (hok : pz_okb L i = true) (h0 : 0 ≤ a) (hL' : L.set i (some (zr a)) = L') (kk : zY l X p e s m below meth c0 b (pc + 1) L' S n M) : zY l X p e s m below meth c0 b pc L (zr a :: S) n M := by
  intro H locs ls hR hS hL
  subst hL'
  rw [List.map_cons, pz_val_r X h0]
  refine lv_astore_n B.1 B.2.1 hd hi hL.has (pz_lt hL hlt) rfl (fun ls' hl' => kk H locs ls' hR hS (hL.set1 (v := zr a) hok ?_))
  rw [pz_val_r X h0]
  exact hl'
theorem y_of_x (h : zX l X (tL_law nm) p e room_1 s m #[Value.ref b] below meth c0 (lw_Z below #[Value.ref b] s) 139 (pz_ss 139) pc L S M) : zY l X p e s m below meth c0 b pc L S 139 M := h
end YR
theorem whole_start {p : Program} {e : Env} {s : State} {m : MethodId} {below : List Frame} {meth : Method} {c : Code} (l : Launch) (hflags : l.flags = flags0) {b L : Nat} {xs : Nat → Int32} (hL : L ≤ 3072) (C0 : lw_At p s m meth c b L xs) : W p l e room_1 s m #[Value.ref b] below meth c s.heap [] 0 0 (lw_Z below #[Value.ref b] s) (entryFrame m ([Value.ref b] : List Value).toArray 7) := by
  obtain ⟨hx, hb, hr, hml, hown, hts, hXs, hbl, hlocks, hgv⟩ := id C0
  have hl : l.stackTraces = false := by
    unfold Launch.stackTraces
    rw [hflags]
    decide +kernel
  obtain ⟨X, h1, h2, hE, hEx⟩ := env_start hts (flat_of_before _ hgv) b
  have B : pz_bd X (tL_law meth.name) p s m #[Value.ref b] meth c := ⟨hx, hb, hr, hlocks, hml, hown, fun w hw => hts w (List.mem_filter.mp hw).1, hE, rfl⟩
  have hX : xs_at X s b L xs := ⟨hXs, hbl, by show ¬ X.1 ≤ b; omega, h2, hL⟩
  have key : zY l X p e s m below meth c b 0 [some (zr 4000), none, none, none, none, none, none] [] 0 (fun _ _ => 0) := by
    refine y_new B h1 dL_law_0 rfl rfl inX11 tyX11_ok ck_L_8 ik_X11 nk_X11 (by decide +kernel) rfl ?_
    refine y_dup B h1 dL_law_3 ?_
    refine y_callI B h1 [zr 0] 0 dL_law_4 k_X11_0 lk_L_15 mX11_init rfl (by decide) (by decide) (by decide) ?_
    refine y_astore B h1 dL_law_7 rfl (by decide) rfl (by decide) rfl ?_
    dsimp only [List.set]
    refine y_new B h1 dL_law_8 rfl rfl inX12 tyX12_ok ck_L_16 ik_X12 nk_X12 (by decide +kernel) rfl ?_
    refine y_dup B h1 dL_law_11 ?_
    refine y_callI B h1 [zr 124] 124 dL_law_12 k_X12_124 lk_L_18 mX12_init rfl (by decide) (by decide) (by decide) ?_
    refine y_astore B h1 dL_law_15 rfl (by decide) rfl (by decide) rfl ?_
    dsimp only [List.set]
    refine y_iconst B h1 dL_law_16 ?_
    refine y_newl B h1 dL_law_17 rfl ?_
    refine y_astore B h1 dL_law_19 rfl (by decide) rfl (by decide) rfl ?_
    dsimp only [List.set]
    have go : zX l X (tL_law meth.name) p e room_1 s m #[Value.ref b] below meth c (lw_Z below #[Value.ref b] s) 139 (pz_ss 139) 20 [some (zr 4000), some (zr 0), some (zr 124), some (zr 138), none, none, none] [] zM0 := by
      refine x_iconst B 21 dL_law_20 ?_
      refine x_istore B 23 dL_law_21 (by decide) rfl rfl ?_
      dsimp only [List.set]
      have h9 := law_loop (e := e) (below := below) B hX hEx hl h1 L 0 0 zM0 (by omega) (by omega) (by omega) Inv.zero
      rw [Nat.mul_zero, Nat.add_zero, Nat.add_zero] at h9
      exact h9
    exact y_of_x go
  have hen := pz_entry (X := X) (av := [zr 4000]) (n := 7) (L := [some (zr 4000), none, none, none, none, none, none]) (Nat.le_of_ble_eq_true rfl) rfl (Pr := fun ls => W p l e room_1 s m #[Value.ref b] below meth c s.heap [] 0 0 (lw_Z below #[Value.ref b] s) (F0 m 0 ls [])) (fun ls hls => key s.heap [] ls (fun k q hq => by simp [pz_ws] at hq) va_S.rf hls)
  rw [show ([zr 4000] : List ZV).map (pz_val X) = [Value.ref b] from by rw [List.map_cons, pz_4000, h2]; rfl] at hen
  rw [lg_entry_eq]
  exact hen
set_option maxHeartbeats 4000000 in
theorem lw_walk (l : Launch) (hflags : l.flags = flags0) (b : Addr) (xs : List Int32) : MetFree l x (headSpec (Jvm.Cond.code x code maxLocals ret :: tables_1) room_1) (lw_P b xs) (fun _ _ _ _ _ => True) lw_Q := by
  refine MetFree.of_bodyS (code := code) (maxLocals := maxLocals) (ret := ret) (by decide) ?_ ?_
  · intro args s m h hn
    obtain ⟨meth, c, h1, h2, h3, h4, h5, h6, -, -⟩ := Cond.code_spec hn (atoms_spec (ws := Jvm.Cond.code x code maxLocals ret :: tables_1) h _ List.mem_cons_self)
    exact ⟨meth, c, h1, h2, h3, h4, h5, h6⟩
  · intro p e s m args below meth c s₁ B hml0 hP _
    obtain ⟨rfl, hx, hbd, hgv⟩ := hP
    obtain ⟨scr, harrAt, hlist, hof, hsmall⟩ := hx
    obtain ⟨hcb, hkn, -, -⟩ := State.arrayAt?_spec harrAt
    have hown : s.vm.findClass R_law = some m.cls := findClass_of_methodNamed B.named
    have hts0 : ∀ c ∈ (Jvm.Cond.code x code maxLocals ret :: tables_1), c.before #[Value.ref b] s = true := atoms_spec (ws := Jvm.Cond.code x code maxLocals ret :: tables_1) B.pre
    have hts : ∀ w ∈ lw_tbl, w.before #[Value.ref b] s = true := k2_hts_sels lw_privs (fun w hw => hts0 w (List.mem_cons_of_mem _ hw)) lw_privs_ok
    have hml : c.maxLocals = 7 := B.maxLocals_eq (hts0 _ List.mem_cons_self)
    have X₀ : Stand p l e room_1 s m #[Value.ref b] below meth c s₁ [] 0 0 := Stand.of_body B
    have hh0 : s₁.heap = s.heap := by rw [B.state]; rfl
    have hsz : scr.slots.size = xs.length := by rw [← Array.length_toList, hlist, List.length_map]
    have hval : ∀ j : Nat, j < xs.length → scr.slots[j]? = some (.int (xs.getD j 0)) := fun j hj => by
      rw [← Array.getElem?_toList, hlist]
      simp [hj]
    have hbl : b < s.heap.size := (Array.getElem?_eq_some_iff.mp hcb).1
    have hX : va_X b xs.length (fun j => xs.getD j 0) s s.heap := ⟨scr, hcb, hof, hkn, hsz, hval⟩
    have K : W p l e room_1 s m #[Value.ref b] below meth c s₁.heap [] 0 0 (lw_Z below #[Value.ref b] s) (entryFrame m ([Value.ref b] : List Value).toArray 7) := by
      rw [hh0]
      exact whole_start l hflags hbd ⟨B.exec, B.bytes, B.returns, hml, hown, hts, hX, hbl, B.notSynchronized, hgv⟩
    obtain ⟨t, a1, o, b1, b2, b3⟩ := K s₁ rfl X₀
    exact ⟨t, o, a1, b1, b2, b3⟩
theorem lw_pre_spec {args : Array Value} {s : State} (h : (Jvm.Cond.and given_1 narrow_1).before args s = true) (hr : rest_1_c.before args s = true) : ∃ (b : Addr) (xs : List Int32), lw_P b xs args s := by
  have hs := flat_of_before _ h
  have hq := flat_of_before _ hr
  have hc : (Cond.count 1).before args s = true := hs _ (by decide +kernel)
  have harr : (Cond.arrayOf (.arg 0) .int).before args s = true := hs _ (by decide +kernel)
  have hle : (Cond.le (.length (.arg 0)) (.int 3072)).before args s = true := hs _ (by decide +kernel)
  have hlen : (Cond.isInt (.length (.arg 0))).before args s = true := hq _ (by decide +kernel)
  have hall : (Cond.all (.arg 0) (.isInt (.elem (.arg 0) (.index 0)))).before args s = true := hq _ (by decide +kernel)
  obtain ⟨b, xs, hb, hx⟩ := State.ints_of_pre rfl harr hlen hall
  have hsm : xs.length < 2 ^ 31 := hx.choose_spec.2.2.2
  have hev : (Term.length (.arg 0)).eval args s none [] s = some (.int xs.length.toInt32) := hx.length_eval hb
  have hv := Cond.le_ints hev (show (Term.int 3072).eval args s none [] s = some (.int 3072) from rfl)
  have hd : xs.length.toInt32 ≤ 3072 := by
    simpa [Cond.before, Cond.holds, hv] using hle
  have hN : xs.length ≤ 3072 := (Int32.ofNat_le_ofNat hsm (by decide)).mp (show Int32.ofNat xs.length ≤ Int32.ofNat 3072 from hd)
  exact ⟨b, xs, Cond.one_arg hc (show args[0]? = some (.ref b) from hb), hx, hN, h⟩
theorem lw_comes (l : Launch) (hflags : l.flags = flags0) : Comes l x (Jvm.Cond.code x code maxLocals ret :: tables_1) room_1 (fun tb e args s => Calls_1 tb e args s ∧ rest_1 tb e args s ∧ Pre_1 tb e args s)
    (fun _ _ args s o t => lw_Q args s o t) := by
  intro p e ha hc hk s m args below hf hfit hheap happ hpre
  obtain ⟨b, xs, hP⟩ := lw_pre_spec hpre.2.2 hpre.2.1
  obtain ⟨k, o, h1, h2, h3, hQ⟩ := lw_walk l hflags b xs p e ha hc hk s m args below hf ((Spec.applies_iff_loose hf).mp happ).1 hP trivial
  exact ⟨k, o, h1, h2, h3, hQ⟩
theorem lw_frame {s t : State} {o : Outcome} {args : Array Value} (h : Framed s o t [] 601024 7293034) :
    Framed s o t (fieldLocs frame_1_writes args s ++ arrayLocs frame_1_arrays args s ++ staticLocs frame_1_statics s) 601024 7293034 := h
theorem lw_limb (L : Cond) (hL : ∀ (args : Array Value) (s t : State), L.after args s (.returned (some (.int 1))) t = true) :
    ArmFor flags0 classFile x code maxLocals ret World_1 tables_1 room_1 Calls_1 rest_1 Pre_1
      (fun tb e a s o t => postC L tb e a s o t ∧ Framed s o t (fieldLocs frame_1_writes a s ++ arrayLocs frame_1_arrays a s ++ staticLocs frame_1_statics s) 601024 7293034) := by
  intro l hflags _ _ p e ha hc hk s m args below hf hfit hheap happ hpre
  obtain ⟨k, o, h1, h2, h3, rfl, hF⟩ := lw_comes l hflags p e ha hc hk s m args below hf hfit hheap happ hpre
  exact ⟨k, _, h1, h2, h3, hL args s _, lw_frame hF⟩
theorem i_vc : Claimed_1_1 ∧ Claimed_1_2 := ⟨lw_limb limb_1_1 (fun args s t => by simp [limb_1_1, Cond.after, Cond.holds, Cond.value]), lw_limb limb_1_2 (fun args s t => Cond.after_iff.mpr (by
  first | (rw [show limb_1_2 = Cond.eq .result (.int 1) from rfl, Cond.eq_ints (x := 1) (y := 1) rfl rfl]; simp; done) | (simp [limb_1_2, Cond.value, Term.eval]; done)))⟩

