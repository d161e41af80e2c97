/-! THE CLAIM OUT OF ONE WALK OF THE LAW'S BODY. Your part is whole_start (and what it stands on); all else here is the same for every law, but numbers. -/
def R_law : String := "SleepWordsLaw"
def lw_P (b : Addr) (xs : List Int32) (args : Array Value) (s : State) : Prop := args = #[.ref b] ∧ s.IntsAt b xs ∧ xs.length ≤ 3072 ∧ (Jvm.Cond.and given_1 narrow_1).before args s = true
def lw_Q (_ : Array Value) (s : State) (o : Outcome) (t : State) : Prop := o = .returned (some (.int 1)) ∧ Framed s o t [] 601024 7293034
def lw_Z (below : List Frame) (a : Array Value) (s : State) : State → Prop := fun t => ∃ o, t.status = .running ∧ Ended t below o ∧ lw_Q a s o t
/-- the law's own end, with 1 on the stack, nothing written that was there before, its room as the claim has it -/
theorem lw_ret {p : Program} {l : Launch} {e : Env} {s : State} {m : MethodId} {below : List Frame} {meth : Method} {c : Code} {b : Nat} (hx : p.tables.exec = Jvm.exec) (hb : c.code = code) (hr : meth.sig.returnType = ret) (hlocks : meth.locks = false) {pc : Nat} {H : Heap} {ls : Array Slot} (hdg : decode code pc = .ok (.ireturn, 1)) : W p l e room_1 s m #[Value.ref b] below meth c H [] 601024 7293034 (lw_Z below #[Value.ref b] s) (F0 m pc ls [.int 1]) := by
  intro T hT X
  obtain ⟨fs, hret, hrun, hended, hW, hframe⟩ := X.leave (v := some (.int 1)) (hlocks := hlocks) (fun h => by rw [hr] at h; cases h)
  have hmeth' : T.vm.method? m = some meth := X.method'
  refine ⟨T.setFrames fs, ?_, .returned (some (.int 1)), hrun, hended, rfl, ⟨_, rfl⟩, hW, hframe⟩
  jvm_step X.here [X.here.top, hx, hb, hdg, hmeth', hr, ret, narrow_b1]
  (try refine ⟨rfl, ?_⟩); (try refine ⟨rfl, ?_⟩)
  first | (intro acts; rw [hret _ acts rfl rfl rfl]) | rw [hret _ _ rfl rfl rfl]
  exact Steps.refl _
/-- what holds at the law's entry: the machine, the code, the tables' words (any of lw_tbl by 'hts w (by decide +kernel)'), the script of L ints xs at the cell b, what the Statement gives of the start (any of its parts by flat_of_before) -/
def lw_At (p : Program) (s : State) (m : MethodId) (meth : Method) (c : Code) (b L : Nat) (xs : Nat → Int32) : Prop :=
  p.tables.exec = Jvm.exec ∧ c.code = code ∧ meth.sig.returnType = ret ∧ c.maxLocals = 7 ∧ s.vm.findClass R_law = some m.cls ∧ (∀ w ∈ lw_tbl, w.before #[Value.ref b] s = true) ∧ va_X b L xs s s.heap ∧ b < s.heap.size ∧ meth.locks = false ∧ (Jvm.Cond.and given_1 narrow_1).before #[Value.ref b] s = true
/-! RULES OF THE LAW'S BODY -/
section XLW
variable {nm : String} {l : Launch} {X : ZX} {mt : ZT} {p : Program} {e : Env} {R : Room} {s : State} {m : MethodId} {args : Array Value} {below : List Frame} {meth : Method} {c0 : Code} {Q : State → Prop} {k1 k2 : Nat} {pc : Nat} {L : List (Option ZV)} {S : List ZV} {M : ZM}
theorem pz_4000 (X : ZX) : pz_val X (zr 4000) = .ref (X.2.2.2.1 3000) := by
  rw [pz_val_r X (by decide)]
  rfl
/-- what is known of the script -/
def xs_at (X : ZX) (s : State) (b Len : Nat) (xs : Nat → Int32) : Prop := va_X b Len xs s s.heap ∧ b < s.heap.size ∧ ¬ pz_A X b ∧ X.2.2.2.1 3000 = b ∧ Len ≤ 3072
theorem x_sld (B : pz_bd X mt p s m args meth c0) {b Len : Nat} {xs : Nat → Int32} (hX : xs_at X s b Len xs) {j : Int} (q k : Nat) (hd : decode mt.2.1 pc = .ok (.iaload, 1)) (hj : j = (k : Int)) (hk : k < Len) (kk : zX l X mt p e R s m args below meth c0 Q k1 k2 q L (zi (xs k).toInt :: S) M) (hq : pc + 1 = q := by rfl) : zX l X mt p e R s m args below meth c0 Q k1 k2 pc L (zi j :: zr 4000 :: S) M := by
  intro H locs ls hP hS hL
  obtain ⟨h1, h2, h3, h4, h5⟩ := hX
  subst hq
  subst hj
  rw [List.map_cons, List.map_cons, pz_4000, h4]
  refine va_sld B.1 B.2.1 h1 h2 h3 hS (pz_in (by omega) (by omega) (by omega)) hd ?_
  rw [pz_clamp (by omega) (by omega), Int.toNat_natCast]
  have h := kk H locs ls hP hS hL
  rw [List.map_cons, show pz_val X (zi (xs k).toInt) = .int (xs k) from congrArg Value.int (Int32.ofInt_toInt _)] at h
  exact h
theorem x_slen (B : pz_bd X mt p s m args meth c0) {b Len : Nat} {xs : Nat → Int32} (hX : xs_at X s b Len xs) (q : Nat) (hd : decode mt.2.1 pc = .ok (.arraylength, 1)) (kk : zX l X mt p e R s m args below meth c0 Q k1 k2 q L (zi (Len : Int) :: S) M) (hq : pc + 1 = q := by rfl) : zX l X mt p e R s m args below meth c0 Q k1 k2 pc L (zr 4000 :: S) M := by
  intro H locs ls hP hS hL
  obtain ⟨h1, h2, h3, h4, h5⟩ := hX
  subst hq
  rw [List.map_cons, pz_4000, h4]
  refine va_slen B.1 B.2.1 h1 h2 h3 hS hd ?_
  have h := kk H locs ls hP hS hL
  rw [List.map_cons, show pz_val X (zi (Len : Int)) = .int (Int32.ofNat Len) from congrArg Value.int (Int32.toBitVec_inj.mp (BitVec.ofInt_natCast 32 Len))] at h
  exact h
theorem x_eqI (B : pz_bd X mt p s m args meth c0) {a b off : Int} (tgt : Nat) (hd : decode mt.2.1 pc = .ok (.if_icmp .eq off, 3)) (hab : a = b) (kk : zX l X mt p e R s m args below meth c0 Q k1 k2 tgt L S M) (ht : (pc : Int) + off = (tgt : Int) := by rfl) : zX l X mt p e R s m args below meth c0 Q k1 k2 pc L (zi b :: zi a :: S) M := by
  subst hab
  exact xg_icmp_eq B hd ht (fun _ => kk) (fun h => absurd rfl h)
theorem z_lcmp_self (a : Int) : z_lcmp a a = 0 := by
  unfold z_lcmp
  simp
theorem x_eqL (B : pz_bd X mt p s m args meth c0) {a b off : Int} (q tgt : Nat) (hd : decode mt.2.1 pc = .ok (.lcmp, 1)) (hd2 : decode mt.2.1 (pc + 1) = .ok (.ifCond .eq off, 3)) (hab : a = b) (kk : zX l X mt p e R s m args below meth c0 Q k1 k2 tgt L S M) (ht : ((pc + 1 : Nat) : Int) + off = (tgt : Int) := by rfl) : zX l X mt p e R s m args below meth c0 Q k1 k2 pc L (zl b :: zl a :: S) M := by
  subst hab
  refine xg_lcmp B hd ?_
  rw [z_lcmp_self]
  exact xg_if_eq B hd2 ht (fun _ => kk) (fun h => absurd rfl h)
theorem xl_cw : Cond.codeWith yL_led tL_led.2.1 tL_led.2.2.1 tL_led.2.2.2.1 [(0, 9, 12, 13)] ∈ lwg := List.mem_filter.mpr ⟨by decide +kernel, rfl⟩
theorem xl_good : GoodIn lwg (va_wsS RL 221 yL_led wL_led) := by
  intro v hv
  refine lwg_good v ?_
  unfold va_wsS at hv
  rcases List.mem_append.mp hv with hv | hv
  · simp only [List.mem_cons, List.not_mem_nil, or_false] at hv
    rcases hv with rfl | rfl | rfl
    · exact lk_L_221
    · exact st_L_led
    · exact nk_L
  · unfold wL_led at hv
    exact (List.mem_cons.mp hv).elim (fun e => e ▸ xl_cw) id
theorem x_ledL (B : pz_bd X (tL_law nm) p s m args meth c0) (hEx : pz_ex X s) (hl : l.stackTraces = false) (hI : Inv M) {v : Int} (hv1 : -2147483648 ≤ v) (hv2 : v < 2147483648) (q : Nat) (hd : decode (tL_law nm).2.1 pc = .ok (.invokestatic 221, 3)) (hk : k1 + 1 ≤ R.cells ∧ k2 + 6 ≤ R.slots) (hdd : 10 ≤ R.frames ∧ 600 ≤ R.locals) (kk : ∀ (r : Int) (M1 : ZM), xl_to M v r M1 → zX l X (tL_law nm) p e R s m args below meth c0 Q (k1 + 1) (k2 + 6) q L [zi r] M1) (hq : pc + 3 = q := by rfl) : zX l X (tL_law nm) p e R s m args below meth c0 Q k1 k2 pc L [zr 138, zi v, zr 0] M := by
  intro H locs ls hP hS hL
  subst hq
  obtain ⟨r, M1, hto, hMet⟩ := x_lled (l := l) (X := X) hI.2.2 hI.1 hv1 hv2 hl
  have hE := B.2.2.2.2.2.2.2.1
  have hts := B.2.2.2.2.2.2.1
  refine vx_calli (a := ([zr 0, zi v, zr 138].map (pz_val X)).toArray) (A1 := pz_A X) (AX := pz_A X) (vx_runSX (As := [zr 0, zi v, zr 138].map (pz_val X)) (n := 3) (rest := []) (hh := [(0, 9, 12, 13)]) (bytes := tL_led.2.1) (maxL := tL_led.2.2.1) (ret := tL_led.2.2.2.1) ⟨B.1, B.2.1, B.2.2.2.2.1, B.2.2.2.2.2.1, hts⟩ hMet (vx_cwSW 3 hts xl_good rfl rfl rfl ⟨by decide +kernel, by decide +kernel, by decide +kernel⟩ ⟨hdd.1, by show 8 + (4 + 11) + 60 * 9 ≤ R.locals; omega⟩) ⟨pz_blindX X _ 139 M, fun U hU hW => ⟨rfl, ⟨hE.move hW (by rw [hU]; exact hS.1) (by rw [hU]; exact hS.2.1), hEx.move hW (by rw [hU]; exact hS.2.1)⟩, by rw [hU]; exact pz_rel139 hP⟩⟩ rfl rfl hL.1 rfl (lv_room (Nat.le_of_ble_eq_true rfl)) hd hk) hS (fun q _ h => h) (fun q h => h) (fun q _ h => h) (fun E ce q9 u t H1 locs1 ht hvm hp hB hz hk1 hS1 hce hcv hcl => hp.elim) (fun x u t H1 locs1 ht hvm hp hB hz hk1 hS1 => ?_)
  subst hp
  rw [ht] at hB
  exact kk r M1 hto H1 locs1 ls hB.1 hS1 hL
/-- the law's end -/
theorem x_ret1 {b : Nat} (B : pz_bd X (tL_law nm) p s m #[Value.ref b] meth c0) (h1 : X.1 = s.heap.size) (hk : k1 ≤ 601024 ∧ k2 ≤ 7293034) : zX l X (tL_law nm) p e room_1 s m #[Value.ref b] below meth c0 (lw_Z below #[Value.ref b] s) k1 k2 1645 L [zi 1] M := by
  intro H locs ls hP hS hL
  refine va_forget (fun q hq => by have h9 : X.1 ≤ q.base := hS.2.2 q hq; omega) ?_
  refine W.widen (k := 601024) (n := 7293034) hk.1 hk.2 ?_
  exact lw_ret B.1 B.2.1 B.2.2.1 B.2.2.2.1 dL_law_1645
theorem zX.weak {L' : List (Option ZV)} (hlen : L'.length = L.length) (h : ∀ (i : Nat) (v : ZV), L'[i]? = some (some v) → L[i]? = some (some v)) (kk : zX l X mt p e R s m args below meth c0 Q k1 k2 pc L' S M) : zX l X mt p e R s m args below meth c0 Q k1 k2 pc L S M := by
  intro H locs ls hP hS hL
  exact kk H locs ls hP hS ⟨hL.1, hL.2.1, hlen.trans hL.2.2.1, fun i v hi => hL.2.2.2 i v (h i v hi)⟩
end XLW
theorem xs_lo (x : Int32) : -2147483648 ≤ x.toInt := Int32.le_toInt x
theorem xs_hi (x : Int32) : x.toInt < 2147483648 := Int32.toInt_lt x
theorem pz_ss139 : pz_ss 139 = 7467 := by decide +kernel
theorem law_hk {u : Nat} (hu : u ≤ 511) : 139 + u ≤ room_1.cells ∧ pz_ss 139 + 6 * u ≤ room_1.slots := by
  rw [pz_ss139]
  show 139 + u ≤ 601024 ∧ 7467 + 6 * u ≤ 7293034
  omega

