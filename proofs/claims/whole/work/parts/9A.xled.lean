/-! LED, where it throws; the law's own led, which catches -/
theorem pz_entry {X : ZX} {av : List ZV} {n : Nat} {L : List (Option ZV)} (hlen : (pz_argL av).length ≤ n) (hL : pz_entL av n = L) {Pr : Array Slot → Prop} (h : ∀ ls, pz_L X ls n L → Pr ls) : Pr (lg_sl (av.map (pz_val X)) ++ List.replicate (n - (lg_sl (av.map (pz_val X))).length) Slot.unset).toArray := by
  have hl := lv_entry (av.map (pz_val X)) (n := n) (by rw [pz_argL_len]; exact hlen)
  refine h _ ⟨hl.1, hl.2.1, ?_, fun i v hi => ?_⟩
  · rw [← hL]
    unfold pz_entL
    rw [List.length_append, List.length_replicate]
    omega
  · rw [← hL] at hi
    unfold pz_entL at hi
    by_cases hi2 : i < (pz_argL av).length
    · rw [List.getElem?_append_left hi2] at hi
      have := hl.2.2 (0 + i, pz_val X v) (pz_argL_get X av 0 i v hi)
      rw [Nat.zero_add] at this
      exact this
    · rw [List.getElem?_append_right (by omega), List.getElem?_replicate] at hi
      split at hi <;> cases hi
/-- what a throw needs -/
def pz_ex (X : ZX) (U : State) : Prop := (va_Nw (.castable "java/util/NoSuchElementException" "java/util/NoSuchElementException") U ∧ va_Nw (.declares (Bundle.initS "java/lang/RuntimeException")) U ∧ va_Nw (.declares (Bundle.initS "java/lang/Exception")) U ∧ va_Nw (.declares (Bundle.initS Bundle.tN)) U) ∧ vx_Zq Bundle.tN "UNASSIGNED_STACK" Bundle.steD (pz_A X) U U.heap ∧ vx_Zq Bundle.tN "SUPPRESSED_SENTINEL" Bundle.listD (pz_A X) U U.heap
theorem pz_ex.move {X : ZX} {s U : State} (h : pz_ex X s) (hW : s.WarmedH U.vm) (hq : ∀ q : Nat, q < s.heap.size → ¬ pz_A X q → U.heap[q]? = s.heap[q]?) : pz_ex X U :=
  ⟨⟨h.1.1.warmC hW, h.1.2.1.warmD hW, h.1.2.2.1.warmD hW, h.1.2.2.2.warmD hW⟩, (vx_Zq.moved hW.alike h.2.1).kept hq, (vx_Zq.moved hW.alike h.2.2).kept hq⟩
theorem pz_ex.same {X : ZX} {u U : State} (h : pz_ex X u) (hv : U.vm = u.vm) (hh : U.heap = u.heap) : pz_ex X U := by
  have ha : u.vm.Alike U.vm := by rw [hv]; exact Vm.Alike.refl u.vm
  refine ⟨⟨va_Nw.same rfl hv.symm h.1.1, va_Nw.same rfl hv.symm h.1.2.1, va_Nw.same rfl hv.symm h.1.2.2.1, va_Nw.same rfl hv.symm h.1.2.2.2⟩, ?_, ?_⟩
  · rw [hh]; exact vx_Zq.moved ha h.2.1
  · rw [hh]; exact vx_Zq.moved ha h.2.2
theorem pz_blindX (X : ZX) (av : List Value) (n : Nat) (M : ZM) : FrameBlind (va_Pc av (fun U => (pz_env X U ∧ pz_ex X U) ∧ pz_rel X n M U.heap)) := by
  intro a U g mk q
  obtain ⟨q0, ⟨q1, q3⟩, q2⟩ := q
  exact ⟨q0, ⟨q1.same rfl rfl, q3.same rfl rfl⟩, q2⟩
theorem xl_at : ∀ w ∈ ((xl_ats RX11 372).filter vx_no).filter goodWord, w ∈ lw_tbl := by decide +kernel
theorem xl_no : ∀ w ∈ ((xl_ats RX11 372).filter vx_no).filter (fun w => !goodWord w), w ∈ [Cond.castable "java/util/NoSuchElementException" "java/util/NoSuchElementException", Cond.declares (Bundle.initS "java/lang/RuntimeException"), Cond.declares (Bundle.initS "java/lang/Exception"), Cond.declares (Bundle.initS Bundle.tN)] := by decide +kernel
theorem xl_ot : ∀ w ∈ Cond.classLink RX11 368 "java/util/NoSuchElementException" :: Cond.initialized "java/util/NoSuchElementException" :: ((xl_ats RX11 372).filter vx_no), vx_ot w = true := by decide +kernel
theorem xl_ck : Cond.classLink RX11 368 "java/util/NoSuchElementException" ∈ lwg := List.mem_filter.mpr ⟨by decide +kernel, rfl⟩
theorem xl_in : Cond.initialized "java/util/NoSuchElementException" ∈ lwg := List.mem_filter.mpr ⟨by decide +kernel, rfl⟩
theorem xl_c13 : Cond.classLink RL 13 "java/util/NoSuchElementException" ∈ lwg := List.mem_filter.mpr ⟨by decide +kernel, rfl⟩
theorem pz_rel139 {X : ZX} {M : ZM} {H : Heap} (h : va_P X.2.1 vwCl (pz_ws X 139 M) H) : pz_rel X 139 M H := ⟨h, fun h => absurd h (by rw [pz_139]; decide)⟩
theorem pz_rel.kept {X : ZX} {M : ZM} {H H1 : Heap} (h : va_P X.2.1 vwCl (pz_ws X 139 M) H) (hq : ∀ q : Nat, q < H.size → H1[q]? = H[q]?) : pz_rel X 139 M H1 :=
  pz_rel139 (h.kept (fun k q hk => hq q.1 (vx_lt h hk)))
abbrev xl_XC (X : ZX) (M : ZM) : String → State → State → Prop := vx_X (fun _ : Unit => True) (fun E _ t => E = "java/util/NoSuchElementException" ∧ pz_rel X 139 M t.heap) (pz_A X)
abbrev xl_Qc (X : ZX) : Array Value → State → Outcome → State → Prop := va_Qi (fun _ (_ : Unit) => False) (fun _ _ => True) (pz_A X)
set_option maxHeartbeats 4000000 in
theorem x_led {l : Launch} {X : ZX} {M : ZM} (hI : IC M M) (hF : WF M) {i : Int} (hi1 : -2147483648 ≤ i) (hi2 : i < 2147483648) (hthr : q_thr M i) (hl : l.stackTraces = false) : vx_Met l yX11_led (Cond.code yX11_led tX11_led.2.1 tX11_led.2.2.1 tX11_led.2.2.2.1 :: lwg) (pz_rm 7 1 6) (va_Pc ([zr 0, zi i].map (pz_val X)) (fun U => (pz_env X U ∧ pz_ex X U) ∧ pz_rel X 139 M U.heap)) (xl_Qc X) (xl_XC X M) 1 6 (pz_A X) := by
  refine vx_ofW (cc := tX11_led.2.1) (maxL := tX11_led.2.2.1) (ret := tX11_led.2.2.2.1) (by decide +kernel) rfl ?_
  intro p e s m args below meth c s₁ B0 hml hex hv
  obtain ⟨rfl, ⟨hE, hEx⟩, hR⟩ := hv
  have hts0 := atoms_spec (ws := Cond.code yX11_led tX11_led.2.1 tX11_led.2.2.1 tX11_led.2.2.2.1 :: lwg) B0.pre
  have hts : ∀ w ∈ lwg, w.before ([zr 0, zi i].map (pz_val X)).toArray s = true := fun w hw => hts0 w (List.mem_cons_of_mem _ hw)
  have hown : s.vm.findClass RX11 = some m.cls := findClass_of_methodNamed B0.named
  have hnm : meth.name = yX11_led.name := (name_of_methodNamed B0.named B0.method).1
  have B : pz_bd X tX11_led p s m ([zr 0, zi i].map (pz_val X)).toArray meth c := ⟨B0.exec, B0.bytes, B0.returns, B0.notSynchronized, hml, hown, hts, hE, hnm⟩
  rw [lg_entry_eq]
  refine pz_entry (X := X) (av := [zr 0, zi i]) (n := 4) (L := [some (zr 0), some (zi i), none, none]) (Nat.le_of_ble_eq_true rfl) rfl (Pr := fun ls => W p l e _ s m _ below meth c s.heap [] 0 0 _ (F0 m 0 ls [])) (fun ls hL => ?_)
  have hW := hI.1
  have hN := hI.2.2.2.1
  have hT := hF.t
  have b4 := hF.r.2.1
  have s14 : M 129 14 = (q_sd1 M : Int) := (Int.toNat_of_nonneg (hT.1 14 (by decide))).symm
  have hlt : q_sd1 M < 2 ^ (M 127 4).toNat := by
    have h := hT.2.2.1
    rw [s14] at h
    exact_mod_cast h
  have h128 : q_sd1 M < 128 := Nat.lt_of_lt_of_le hlt (Nat.pow_le_pow_right (by decide) (by omega) : 2 ^ (M 127 4).toNat ≤ 2 ^ 7)
  have hS2 : M 49 2 = (q_sd1 M : Int) := hN.2.2.1.trans s14
  have hc8 : q_cntp (fun k => (q_sd1 M).testBit k) 8 = q_cntp (fun k => (q_sd1 M).testBit k) 7 := q_cnt_n (q_sd1 M) 7 h128 1
  have hbd := q_cnt_bd (fun k => (q_sd1 M).testBit k) 7
  have hk : 0 ≤ (pz_rm 7 1 6).cells ∧ 0 ≤ (pz_rm 7 1 6).slots := ⟨Nat.zero_le _, Nat.zero_le _⟩
  have key : zX l X tX11_led p e (pz_rm 7 1 6) s m ([zr 0, zi i].map (pz_val X)).toArray below meth c (vx_MQ below (xl_Qc X) (xl_XC X M) ([zr 0, zi i].map (pz_val X)).toArray s 1 6 (pz_A X)) 0 0 18 [some (zr 0), some (zi i), none, none] [] M := by
    intro H locs ls hP hS hL
    refine xl_throw (cc := tX11_led.2.1) (own := RX11) (text := "no such word was said") (ik := 368) (is := 370) (ic := 372) (sa := X.2.2.2.1 22) (A := pz_A X) B.1 B.2.1 hl hown (hts _ xl_ck) (hts _ xl_in) (hE.2.2.2.1 22 _ rfl).1 (vx_hat (fun w hw => hts w (List.mem_filter.mpr ⟨xl_at w hw, (List.mem_filter.mp hw).2⟩)) xl_no (vx_c (hEx.1.1.use rfl) (vx_c (hEx.1.2.1.use rfl) (vx_c (hEx.1.2.2.1.use rfl) (vx_c (hEx.1.2.2.2.use rfl) vx_n))))) xl_ot hEx.2.1 hEx.2.2 hS (by rw [hml]; exact hL.1) dX11_led_18 dX11_led_21 dX11_led_22 dX11_led_25 dX11_led_28 (fun x hx => (hex x hx).elim) (by decide) (by show (0 : Nat) + (13 * 3 + 43) ≤ 420; decide) (by decide) (by decide) B0.notSynchronized ?_ (fun z hz => hS.2.2 z hz) (by decide) (by decide)
    intro t hvm hz hq
    exact ⟨(), trivial, ⟨rfl, pz_rel.kept hP hq⟩, Nat.le_trans hS.1 hz, fun q h1 h2 => by rw [hq q (Nat.lt_of_lt_of_le h1 hS.1)]; exact hS.2.1 q h1 h2⟩
  have start : zX l X tX11_led p e (pz_rm 7 1 6) s m ([zr 0, zi i].map (pz_val X)).toArray below meth c (vx_MQ below (xl_Qc X) (xl_XC X M) ([zr 0, zi i].map (pz_val X)).toArray s 1 6 (pz_A X)) 0 0 0 [some (zr 0), some (zi i), none, none] [] M := by
    refine x_iload_n B 1 dX11_led_0 rfl rfl ?_
    refine x_if_lt B 18 4 dX11_led_1 (by omega) (by omega) (fun h1 => ?_) (fun h1 => ?_)
    · exact key
    · refine x_iload_n B 5 dX11_led_4 rfl rfl ?_
      refine x_aload_n B 6 dX11_led_5 rfl rfl (by decide) ?_
      refine x_getR B 0 9 dX11_led_6 fX11_33 rfl (hW (0, 8, 49) (by decide)) ?_
      refine x_getI B 49 12 dX11_led_9 fX11_223 rfl ?_
      rw [hS2]
      refine x_callS1i B 15 dX11_led_12 (s_bitCount (S := q_sd1 M) h128) lk_X11_248 mJ6_bitCount_0f7a4 hk ⟨by decide, by decide⟩ (Nat.le_of_ble_eq_true rfl) ?_
      rintro _ _ ⟨rfl, e9⟩
      have e9 := e9.symm
      subst e9
      refine x_icmp_lt B 29 18 dX11_led_15 (by omega) (by omega) (by omega) (by omega) (fun h15 => absurd (by unfold q_thr at hthr; omega) (fun h9 : False => h9)) (fun h15 => ?_)
      exact key
  exact start s.heap [] ls hR.1 va_S.rf hL
/-- the law's own led -/
def wL_led : List Cond := Cond.codeWith yL_led tL_led.2.1 tL_led.2.2.1 tL_led.2.2.2.1 [(0, 9, 12, 13)] :: lwg
def xl_to (M : ZM) (i r : Int) (M1 : ZM) : Prop := (q_thr M i ∧ r = 1 ∧ M1 = M) ∨ (¬ q_thr M i ∧ ∃ w : Nat, w < 7 ∧ q_lw (q_sd1 M) i w = true ∧ r = 0 ∧ M1 = zset M 138 0 (w : Int))
abbrev xl_QL (X : ZX) (r : Int) (M1 : ZM) : Array Value → State → Outcome → State → Prop := va_Qi (fun x (_ : Unit) => x = Int32.ofInt r) (fun _ t => pz_rel X 139 M1 t.heap) (pz_A X)
abbrev xl_XN (X : ZX) : String → State → State → Prop := vx_X (fun _ : Unit => False) (fun _ _ _ => True) (pz_A X)
theorem xl_ret {l : Launch} {X : ZX} {p : Program} {e : Env} {R : Room} {s : State} {m : MethodId} {args : Array Value} {below : List Frame} {meth : Method} {c0 : Code} {pc k1 k2 : Nat} {L : List (Option ZV)} {M : ZM} {r : Int} (B : pz_bd X tL_led p s m args meth c0) (hd : decode tL_led.2.1 pc = .ok (.ireturn, 1)) (h1 : k1 ≤ 1) (h2 : k2 ≤ 6) : zX l X tL_led p e R s m args below meth c0 (vx_MQ below (xl_QL X r M) (xl_XN X) args s 1 6 (pz_A X)) k1 k2 pc L [zi r] M := by
  intro H locs ls hP hS hL
  refine W.widen (k := 1) (n := 6) h1 h2 ?_
  refine vx_ret ?_
  exact W.iret B.1 B.2.1 B.2.2.1 (fun t ht hW => ⟨⟨_, (), rfl, rfl, by subst ht; exact pz_rel139 hP⟩, hS.F ht⟩) (fun q hq => hS.2.2 q hq) hd B.2.2.2.1
set_option maxHeartbeats 4000000 in
theorem x_lled {l : Launch} {X : ZX} {M : ZM} (hI : IC M M) (hF : WF M) {i : Int} (hi1 : -2147483648 ≤ i) (hi2 : i < 2147483648) (hl : l.stackTraces = false) : ∃ (r : Int) (M1 : ZM), xl_to M i r M1 ∧ vx_Met l yL_led wL_led (pz_rm 9 1 6) (va_Pc ([zr 0, zi i, zr 138].map (pz_val X)) (fun U => (pz_env X U ∧ pz_ex X U) ∧ pz_rel X 139 M U.heap)) (xl_QL X r M1) (xl_XN X) 1 6 (pz_A X) := by
  by_cases hthr : q_thr M i
  · refine ⟨1, M, Or.inl ⟨hthr, rfl, rfl⟩, ?_⟩
    refine vx_ofWH (cc := tL_led.2.1) (maxL := tL_led.2.2.1) (ret := tL_led.2.2.2.1) (hh := [(0, 9, 12, 13)]) (by decide +kernel) rfl ?_
    intro p e s m args below meth c s₁ B0 hml hv
    obtain ⟨rfl, ⟨hE, hEx⟩, hR⟩ := hv
    have hts0 := atoms_spec (ws := wL_led) B0.pre
    have hts : ∀ w ∈ lwg, w.before ([zr 0, zi i, zr 138].map (pz_val X)).toArray s = true := fun w hw => hts0 w (List.mem_cons_of_mem _ hw)
    have hown : s.vm.findClass RL = some m.cls := findClass_of_methodNamed B0.named
    have hnm : meth.name = yL_led.name := (name_of_methodNamed B0.named B0.method).1
    have B : pz_bd X tL_led p s m ([zr 0, zi i, zr 138].map (pz_val X)).toArray meth c := ⟨B0.exec, B0.bytes, B0.returns, B0.notSynchronized, hml, hown, hts, hE, hnm⟩
    have htab := vx_table (x := yL_led) B0 (hts0 _ List.mem_cons_self)
    rw [lg_entry_eq]
    refine pz_entry (X := X) (av := [zr 0, zi i, zr 138]) (n := 4) (L := [some (zr 0), some (zi i), some (zr 138), none]) (Nat.le_of_ble_eq_true rfl) rfl (Pr := fun ls => W p l e _ s m _ below meth c s.heap [] 0 0 _ (F0 m 0 ls [])) (fun ls hL => ?_)
    have start : zX l X tL_led p e (pz_rm 9 1 6) s m ([zr 0, zi i, zr 138].map (pz_val X)).toArray below meth c (vx_MQ below (xl_QL X 1 M) (xl_XN X) ([zr 0, zi i, zr 138].map (pz_val X)).toArray s 1 6 (pz_A X)) 0 0 0 [some (zr 0), some (zi i), some (zr 138), none] [] M := by
      refine x_aload_n B 1 dL_led_0 rfl rfl (by decide) ?_
      refine x_iconst B 2 dL_led_1 ?_
      refine x_aload_n B 3 dL_led_2 rfl rfl (by decide) ?_
      refine x_iload_n B 4 dL_led_3 rfl rfl ?_
      intro H locs ls hP hS hL
      obtain ⟨m1, m2, m3, m4, m5, m6⟩ := (mX11_led : zMV yX11_led tX11_led 1)
      refine vx_calli (a := (Value.ref (X.1 + 0) :: [Value.int (Int32.ofInt i)]).toArray) (A1 := pz_A X) (AX := pz_A X) (vx_runV (As := [Value.int (Int32.ofInt i)]) (b := X.1 + 0) (n := 1) (C := RX11) (rest := [Value.int (Int32.ofInt 0), pz_val X (zr 138)]) ⟨B.1, B.2.1, B.2.2.2.2.1, B.2.2.2.2.2.1, hts⟩ (x_led hI hF hi1 hi2 hthr hl) (cwV 1 hts (pz_goodV lk_L_7 m1 m2 m3 m4) rfl rfl rfl ⟨rfl, m5⟩ ⟨by decide, by decide⟩) ⟨pz_blindX X _ 139 M, va_recv hE.1 hP (ci := 11) rfl (by rw [pz_ws_get X M (by decide : 0 < 139), pz_cell_o X M rfl]), fun U hU hW => ⟨rfl, ⟨hE.move hW (by rw [hU]; exact hS.1) (by rw [hU]; exact hS.2.1), hEx.move hW (by rw [hU]; exact hS.2.1)⟩, by rw [hU]; exact pz_rel139 hP⟩⟩ rfl rfl hL.1 rfl (lv_room (Nat.le_of_ble_eq_true rfl)) dL_led_4 ⟨by decide, by decide⟩) hS (fun q _ h => h) (fun q h => h) (fun q _ h => h) (fun E ce q9 u t H1 locs1 ht hvm hp hB hz hk1 hS1 hce hcv hcl => ?_) (fun r u t H1 locs1 ht hvm hp hB hz hk1 hS1 => hp.elim)
      obtain ⟨rfl, hR1⟩ := hB
      rw [ht] at hR1
      refine vx_catch (own := RL) (name := "java/util/NoSuchElementException") (E := "java/util/NoSuchElementException") hown ⟨0, 9, 12, 13⟩ (by rw [htab]; rfl) (by decide) (by decide) (hts _ xl_c13) (hEx.1.1.use rfl) hce hcv hcl ?_
      refine lv_astore_n B.1 B.2.1 dL_led_12 rfl hL.has (by decide) rfl (fun ls' hl' => ?_)
      refine lv_iconst B.1 B.2.1 dL_led_13 rfl ?_
      refine W.widen (k := 1) (n := 6) (Nat.le_refl _) (Nat.le_refl _) ?_
      refine vx_ret ?_
      exact W.iret B.1 B.2.1 B.2.2.1 (fun t ht hW => ⟨⟨_, (), rfl, rfl, by subst ht; exact hR1⟩, hS1.F ht⟩) (fun q hq => hS1.2.2 q hq) dL_led_14 B.2.2.2.1
    exact start s.heap [] ls hR.1 va_S.rf hL
  · have hc := c_led (l := l) (X := X) hI hF hi1 hi2 hthr
    obtain ⟨r1, Mr, ⟨a, rfl, ⟨w, hw7, rfl, hlw⟩, rfl⟩, hMet⟩ := hc
    refine ⟨0, zset Mr 138 0 (w : Int), Or.inr ⟨hthr, w, hw7, hlw, rfl, rfl⟩, ?_⟩
    refine vx_ofWH (cc := tL_led.2.1) (maxL := tL_led.2.2.1) (ret := tL_led.2.2.2.1) (hh := [(0, 9, 12, 13)]) (by decide +kernel) rfl ?_
    intro p e s m args below meth c s₁ B0 hml hv
    obtain ⟨rfl, ⟨hE, hEx⟩, hR⟩ := hv
    have hts0 := atoms_spec (ws := wL_led) B0.pre
    have hts : ∀ w ∈ lwg, w.before ([zr 0, zi i, zr 138].map (pz_val X)).toArray s = true := fun w hw => hts0 w (List.mem_cons_of_mem _ hw)
    have hown : s.vm.findClass RL = some m.cls := findClass_of_methodNamed B0.named
    have hnm : meth.name = yL_led.name := (name_of_methodNamed B0.named B0.method).1
    have B : pz_bd X tL_led p s m ([zr 0, zi i, zr 138].map (pz_val X)).toArray meth c := ⟨B0.exec, B0.bytes, B0.returns, B0.notSynchronized, hml, hown, hts, hE, hnm⟩
    rw [lg_entry_eq]
    refine pz_entry (X := X) (av := [zr 0, zi i, zr 138]) (n := 4) (L := [some (zr 0), some (zi i), some (zr 138), none]) (Nat.le_of_ble_eq_true rfl) rfl (Pr := fun ls => W p l e _ s m _ below meth c s.heap [] 0 0 _ (F0 m 0 ls [])) (fun ls hL => ?_)
    have hk : 0 ≤ (pz_rm 9 1 6).cells ∧ 0 ≤ (pz_rm 9 1 6).slots := ⟨Nat.zero_le _, Nat.zero_le _⟩
    have start : zX l X tL_led p e (pz_rm 9 1 6) s m ([zr 0, zi i, zr 138].map (pz_val X)).toArray below meth c (vx_MQ below (xl_QL X 0 (zset Mr 138 0 (w : Int))) (xl_XN X) ([zr 0, zi i, zr 138].map (pz_val X)).toArray s 1 6 (pz_A X)) 0 0 0 [some (zr 0), some (zi i), some (zr 138), none] [] Mr := by
      have hcm : zCi l X 1 yX11_led tX11_led [zr 0, zi i] Mr (fun a M' => a = (w : Int) ∧ M' = Mr) := ⟨_, _, ⟨_, rfl, rfl, rfl⟩, hMet⟩
      refine x_aload_n B 1 dL_led_0 rfl rfl (by decide) ?_
      refine x_iconst B 2 dL_led_1 ?_
      refine x_aload_n B 3 dL_led_2 rfl rfl (by decide) ?_
      refine x_iload_n B 4 dL_led_3 rfl rfl ?_
      refine x_callV1i B 0 7 dL_led_4 (hcm : zCi l X 1 yX11_led tX11_led [zr 0, zi i] Mr (fun a M' => a = (w : Int) ∧ M' = Mr)) lk_L_7 mX11_led rfl rfl hk ⟨by decide, by decide⟩ (Nat.le_of_ble_eq_true rfl) ?_
      rintro _ _ ⟨rfl, e9⟩
      have e9 := e9.symm
      subst e9
      refine x_i2l B 8 dL_led_7 ?_
      rw [w32_id (by omega) (by omega)]
      refine x_lastn B 138 9 (0) dL_led_8 rfl rfl (by decide) ?_
      refine x_goto B 15 dL_led_9 ?_
      refine x_iconst B 16 dL_led_15 ?_
      exact xl_ret B dL_led_16 (by decide) (by decide)
    exact start s.heap [] ls hR.1 va_S.rf hL
