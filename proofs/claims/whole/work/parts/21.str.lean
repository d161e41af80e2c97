/-! String constants: their length and letters -/
section ZStr
variable {l : Launch} {X : ZX} {d : Nat} {mt : ZT} {pc : Nat} {L : List (Option ZV)} {S : List ZV} {n : Nat} {M : ZM} {out : ZO}
theorem pz_val_s (X : ZX) (i : Nat) : pz_val X (zr (1000 + (i : Int))) = .ref (X.2.2.2.1 i) := by
  rw [pz_val_r X (by omega), pz_adr_s]
theorem go_getSv {i idx : Nat} {q : String × Nat × String} (hq : zstr[i]? = some q) (hd : decode mt.2.1 pc = .ok (.getfield idx, 3)) (hlk : Cond.fieldLink mt.1 idx "java/lang/String" "value" "[B" ∈ lwg) (kk : zGo l X d mt (pc + 3) L (zr (1000 + ((1000 + i : Nat) : Int)) :: S) n M out) : zGo l X d mt pc L (zr (1000 + (i : Int)) :: S) n M out := by
  intro p e s m args below meth c B n0 H locs ls h1 h2 hR hS hL
  obtain ⟨-, -, -, a4, -⟩ := B.2.2.2.2.2.2.2.1.2.2.2.1 i q hq
  have h := kk p e s m args below meth c B n0 H locs ls h1 h2 hR hS hL
  rw [List.map_cons, pz_val_s] at h
  rw [List.map_cons, pz_val_s]
  exact vk_getf B.1 B.2.1 a4 hS B.2.2.2.2.2.1 (B.2.2.2.2.2.2.1 _ hlk) (fun x hx => hx) hd h
theorem go_getSc {i idx : Nat} {q : String × Nat × String} (hq : zstr[i]? = some q) (hd : decode mt.2.1 pc = .ok (.getfield idx, 3)) (hlk : Cond.fieldLink mt.1 idx "java/lang/String" "code\x72" "B" ∈ lwg) (kk : zGo l X d mt (pc + 3) L (zi 0 :: S) n M out) : zGo l X d mt pc L (zr (1000 + (i : Int)) :: S) n M out := by
  intro p e s m args below meth c B n0 H locs ls h1 h2 hR hS hL
  obtain ⟨-, -, a3, -, -⟩ := B.2.2.2.2.2.2.2.1.2.2.2.1 i q hq
  have h := kk p e s m args below meth c B n0 H locs ls h1 h2 hR hS hL
  rw [List.map_cons, pz_val_s]
  exact vk_getf B.1 B.2.1 a3 hS B.2.2.2.2.2.1 (B.2.2.2.2.2.2.1 _ hlk) (fun x hx => hx) hd h
theorem go_alenS {i : Nat} {q : String × Nat × String} (hq : zstr[i]? = some q) (hd : decode mt.2.1 pc = .ok (.arraylength, 1)) (kk : zGo l X d mt (pc + 1) L (zi ((zbyt.getD i []).length : Int) :: S) n M out) : zGo l X d mt pc L (zr (1000 + ((1000 + i : Nat) : Int)) :: S) n M out := by
  intro p e s m args below meth c B n0 H locs ls h1 h2 hR hS hL
  obtain ⟨-, -, -, -, a5⟩ := B.2.2.2.2.2.2.2.1.2.2.2.1 i q hq
  have h := kk p e s m args below meth c B n0 H locs ls h1 h2 hR hS hL
  rw [List.map_cons, pz_val_s]
  exact va_tlen B.1 B.2.1 a5 hS (v := Int32.ofInt ((zbyt.getD i []).length : Int)) (Int32.ofInt_eq_ofNat).symm hd h
theorem go_baldS {i j : Nat} {q : String × Nat × String} (hq : zstr[i]? = some q) (hj : j < (zbyt.getD i []).length) (hj2 : j < 2147483648) (hd : decode mt.2.1 pc = .ok (.baload, 1)) (kk : zGo l X d mt (pc + 1) L (zi ((zbyt.getD i []).getD j 0).toInt :: S) n M out) : zGo l X d mt pc L (zi (j : Int) :: zr (1000 + ((1000 + i : Nat) : Int)) :: S) n M out := by
  intro p e s m args below meth c B n0 H locs ls h1 h2 hR hS hL
  obtain ⟨-, -, -, -, a5⟩ := B.2.2.2.2.2.2.2.1.2.2.2.1 i q hq
  have h := kk p e s m args below meth c B n0 H locs ls h1 h2 hR hS hL
  have ev : pz_val X (zi ((zbyt.getD i []).getD j 0).toInt) = .int ((zbyt.getD i []).getD j 0) := congrArg Value.int (Int32.ofInt_toInt _)
  have ec : (Int32.ofInt (j : Int)).toNatClampNeg = j := by
    rw [pz_clamp (by omega) (by omega)]
    rfl
  have hin : vp_in (Int32.ofInt (j : Int)) (zbyt.getD i []).length := by
    unfold vp_in
    rw [ec]
    intro h9
    rcases h9 with h9 | h9
    · have h8 := Int32.lt_iff_toInt_lt.mp h9
      have hz := w32_id (n := (j : Int)) (by omega) (by omega)
      unfold w32 at hz
      rw [hz] at h8
      have e0 : (0 : Int32).toInt = 0 := rfl
      omega
    · omega
  rw [List.map_cons, List.map_cons, pz_val_s]
  rw [List.map_cons, ev] at h
  exact va_tb B.1 B.2.1 a5 hS hin (by rw [ec]) hd h
theorem go_getsC {idx : Nat} (hd : decode mt.2.1 pc = .ok (.getstatic idx, 3)) (hlk : Cond.fieldLink mt.1 idx "java/lang/String" "COMPACT_STRINGS" "Z" ∈ lwg) (kk : zGo l X d mt (pc + 3) L (zi 1 :: S) n M out) : zGo l X d mt pc L S n M out := by
  intro p e s m args below meth c B n0 H locs ls h1 h2 hR hS hL
  have h := kk p e s m args below meth c B n0 H locs ls h1 h2 hR hS hL
  exact va_gets B.1 B.2.1 B.2.2.2.2.2.2.2.1.2.2.2.2.1 hS B.2.2.2.2.2.1 (B.2.2.2.2.2.2.1 _ hlk) (fun x hx => hx) hd h
theorem go_getsF {idx : Nat} (hd : decode mt.2.1 pc = .ok (.getstatic idx, 3)) (hlk : Cond.fieldLink mt.1 idx "jdk/internal/util/Preconditions" "SIOOBE_FORMATTER" "Ljava/util/function/BiFunction;" ∈ lwg) (kk : zGo l X d mt (pc + 3) L (zr (pz_fm X) :: S) n M out) : zGo l X d mt pc L S n M out := by
  intro p e s m args below meth c B n0 H locs ls h1 h2 hR hS hL
  have h := kk p e s m args below meth c B n0 H locs ls h1 h2 hR hS hL
  rw [List.map_cons] at h
  exact va_gets B.1 B.2.1 B.2.2.2.2.2.2.2.1.2.2.2.2.2.1 hS B.2.2.2.2.2.1 (B.2.2.2.2.2.2.1 _ hlk) (fun x hx => hx) hd h
theorem go_i2c {a : Int} (hd : decode mt.2.1 pc = .ok (.i2c, 1)) (h0 : 0 ≤ a) (h1 : a < 65536) (kk : zGo l X d mt (pc + 1) L (zi a :: S) n M out) : zGo l X d mt pc L (zi a :: S) n M out := by
  intro p e s m args below meth c B n0 H locs ls g1 g2 hR hS hL
  refine lv_i2c B.1 B.2.1 hd (v := Int32.ofInt a) ?_ (kk p e s m args below meth c B n0 H locs ls g1 g2 hR hS hL)
  obtain ⟨k, rfl⟩ : ∃ k : Nat, a = (k : Int) := ⟨a.toNat, by omega⟩
  apply Int32.toBitVec_inj.mp
  show (BitVec.umod (Int32.ofInt (k : Int)).toBitVec 65536#32) = _
  rw [pz_bv]
  apply BitVec.eq_of_toNat_eq
  show ((BitVec.ofNat 32 k) % 65536#32).toNat = (BitVec.ofNat 32 k).toNat
  rw [BitVec.toNat_umod, pz_bvN (by omega)]
  exact Nat.mod_eq_of_lt (by show k < 65536; omega)
theorem go_tret {a : Int} {ty : FieldType} (hd : decode mt.2.1 pc = .ok (.ireturn, 1)) (hr : mt.2.2.2.1 = some ty) (ha : narrow ty (.int (Int32.ofInt a)) = .int (Int32.ofInt a)) : zGo l X d mt pc L [zi a] n M (some (zi a), n, M) := by
  intro p e s m args below meth c B n0 H locs ls h1 h2 hR hS hL
  refine pz_sz (fun hsz => ?_)
  have hR := pz_relOf h1 h2.2 hR B.2.2.2.2.2.2.2.1.2.1 hS hsz
  exact W.zret B.1 B.2.1 (B.2.2.1.trans hr) ha (fun t ht hW => ⟨⟨_, (), rfl, rfl, by subst ht; exact hR⟩, hS.F ht⟩) (fun q hq => hS.2.2 q hq) hd B.2.2.2.1
theorem go_callVS {r : Option ZV} {n1 d' idx i : Nat} {M1 : ZM} {y : MethodName} {mt' : ZT} {q0 : String × Nat × String} (As rest : List ZV) (hS0 : S = As.reverse ++ zr (1000 + (i : Int)) :: rest) (hq : zstr[i]? = some q0) (hd : decode mt.2.1 pc = .ok (.invokevirtual idx, 3)) (hM : zMet l X d' y mt' (zr (1000 + (i : Int)) :: As) n M (r, n1, M1)) (hlk : Cond.methodLink mt.1 idx y ∈ lwg) (hmv : zMV y mt' As.length) (hC : y.cls = "java/lang/String") (hdd : d' + 1 ≤ d) (hrs : pz_cats rest ≤ 8) (hno : n1 ≤ out.2.1) (kk : zGo l X d mt (pc + 3) L (r.toList ++ rest) n1 M1 out) : zGo l X d mt pc L S n M out := by
  intro p e s m args below meth c0 B n0 H locs ls h1 h2 hR hS hL
  subst hS0
  obtain ⟨hnn, hMet⟩ := hM
  obtain ⟨m1, m2, m3, m4, m5, m6⟩ := hmv
  have hE := B.2.2.2.2.2.2.2.1
  obtain ⟨-, a2, -, -, -⟩ := hE.2.2.2.1 i q0 hq
  refine pz_sz (fun hsz => ?_)
  have hRel := pz_relOf h1 h2.2 hR hE.2.1 hS hsz
  have hts := B.2.2.2.2.2.2.1
  rw [hC] at m2 m3
  refine pz_after (r := r) (n1 := n1) (M1 := M1) (rest := rest.map (pz_val X)) (va_runV (As := As.map (pz_val X)) (b := X.2.2.2.1 i) (n := As.length) ⟨B.1, B.2.1, B.2.2.2.2.1, B.2.2.2.2.2.1, hts⟩ hMet (cwV As.length hts (pz_goodV hlk m1 m2 m3 m4) rfl rfl rfl ⟨hC, m5⟩ ⟨hdd, by show 8 + (mt'.2.2.1 + 11) + 60 * d' ≤ 60 * d; omega⟩) ⟨pz_blind X _ n M, va_Orecv a2 hS, fun U hU hW => ⟨by rw [List.map_cons, pz_val_s], hE.move hW (by rw [hU]; exact hS.1) (by rw [hU]; exact hS.2.1), by rw [hU]; exact hRel⟩⟩ rfl (List.length_map ..) (hL.1) (by
      show List.map (pz_val X) (As.reverse ++ zr (1000 + (i : Int)) :: rest) = _
      rw [List.map_append, List.map_reverse, List.map_cons, pz_val_s]) (lv_room (by rw [pz_cats_ok]; exact hrs)) hd (pz_slots h1 hnn hno)) hS (fun H1 locs1 hR1 hS1 => ?_)
  have h := kk p e s m args below meth c0 B n0 H1 locs1 ls (Nat.le_trans h1 hnn) ⟨hno, h2.2⟩ hR1.1 hS1 hL
  obtain ⟨e1, e2⟩ := pz_slots2 h1 hnn
  rw [List.map_append] at h
  show W p l e _ s m args below meth c0 H1 locs1 (n - n0 + (n1 - n)) (pz_ss n - pz_ss n0 + (pz_ss n1 - pz_ss n)) _ _
  rw [e1, e2]
  exact h
end ZStr
section ZStr2
variable {l : Launch} {X : ZX} {d : Nat} {mt : ZT} {pc : Nat} {L : List (Option ZV)} {S : List ZV} {M : ZM} {Q : Option ZV → ZM → Prop}
theorem p_getSv {z : Int} {i idx : Nat} {q0 : String × Nat × String} (q : Nat) (hz0 : zstr[i]? = some q0) (hd : decode mt.2.1 pc = .ok (.getfield idx, 3)) (hlk : Cond.fieldLink mt.1 idx "java/lang/String" "value" "[B" ∈ lwg) (kk : zP l X d mt q L (zr (1000 + ((1000 + i : Nat) : Int)) :: S) M Q) (hz : z = 1000 + (i : Int) := by rfl) (hq : pc + 3 = q := by rfl) : zP l X d mt pc L (zr z :: S) M Q := by
  subst hq
  subst hz
  obtain ⟨r, M9, h, g⟩ := kk
  exact ⟨r, M9, h, go_getSv hz0 hd hlk g⟩
theorem p_getSc {z : Int} {i idx : Nat} {q0 : String × Nat × String} (q : Nat) (hz0 : zstr[i]? = some q0) (hd : decode mt.2.1 pc = .ok (.getfield idx, 3)) (hlk : Cond.fieldLink mt.1 idx "java/lang/String" "code\x72" "B" ∈ lwg) (kk : zP l X d mt q L (zi 0 :: S) M Q) (hz : z = 1000 + (i : Int) := by rfl) (hq : pc + 3 = q := by rfl) : zP l X d mt pc L (zr z :: S) M Q := by
  subst hq
  subst hz
  obtain ⟨r, M9, h, g⟩ := kk
  exact ⟨r, M9, h, go_getSc hz0 hd hlk g⟩
theorem p_alenS {z : Int} {i : Nat} {q0 : String × Nat × String} (q : Nat) (hz0 : zstr[i]? = some q0) (hd : decode mt.2.1 pc = .ok (.arraylength, 1)) (kk : zP l X d mt q L (zi ((zbyt.getD i []).length : Int) :: S) M Q) (hz : z = 1000 + ((1000 + i : Nat) : Int) := by rfl) (hq : pc + 1 = q := by rfl) : zP l X d mt pc L (zr z :: S) M Q := by
  subst hq
  subst hz
  obtain ⟨r, M9, h, g⟩ := kk
  exact ⟨r, M9, h, go_alenS hz0 hd g⟩
theorem p_baldS {z : Int} {i j : Nat} {q0 : String × Nat × String} (q : Nat) (hz0 : zstr[i]? = some q0) (hj : j < (zbyt.getD i []).length) (hj2 : j < 2147483648) (hd : decode mt.2.1 pc = .ok (.baload, 1)) (kk : zP l X d mt q L (zi ((zbyt.getD i []).getD j 0).toInt :: S) M Q) (hz : z = 1000 + ((1000 + i : Nat) : Int) := by rfl) (hq : pc + 1 = q := by rfl) : zP l X d mt pc L (zi (j : Int) :: zr z :: S) M Q := by
  subst hq
  subst hz
  obtain ⟨r, M9, h, g⟩ := kk
  exact ⟨r, M9, h, go_baldS hz0 hj hj2 hd g⟩
theorem p_getsC {idx : Nat} (q : Nat) (hd : decode mt.2.1 pc = .ok (.getstatic idx, 3)) (hlk : Cond.fieldLink mt.1 idx "java/lang/String" "COMPACT_STRINGS" "Z" ∈ lwg) (kk : zP l X d mt q L (zi 1 :: S) M Q) (hq : pc + 3 = q := by rfl) : zP l X d mt pc L S M Q := by
  subst hq
  obtain ⟨r, M9, h, g⟩ := kk
  exact ⟨r, M9, h, go_getsC hd hlk g⟩
theorem p_getsF {idx : Nat} (q : Nat) (hd : decode mt.2.1 pc = .ok (.getstatic idx, 3)) (hlk : Cond.fieldLink mt.1 idx "jdk/internal/util/Preconditions" "SIOOBE_FORMATTER" "Ljava/util/function/BiFunction;" ∈ lwg) (kk : zP l X d mt q L (zr (pz_fm X) :: S) M Q) (hq : pc + 3 = q := by rfl) : zP l X d mt pc L S M Q := by
  subst hq
  obtain ⟨r, M9, h, g⟩ := kk
  exact ⟨r, M9, h, go_getsF hd hlk g⟩
theorem p_i2c {a : Int} (q : Nat) (hd : decode mt.2.1 pc = .ok (.i2c, 1)) (h0 : 0 ≤ a) (h1 : a < 65536) (kk : zP l X d mt q L (zi a :: S) M Q) (hq : pc + 1 = q := by rfl) : zP l X d mt pc L (zi a :: S) M Q := by
  subst hq
  obtain ⟨r, M9, h, g⟩ := kk
  exact ⟨r, M9, h, go_i2c hd h0 h1 g⟩
theorem p_tret {a : Int} {ty : FieldType} (hd : decode mt.2.1 pc = .ok (.ireturn, 1)) (hr : mt.2.2.2.1 = some ty) (ha : narrow ty (.int (Int32.ofInt a)) = .int (Int32.ofInt a)) (hQ : Q (some (zi a)) M) : zP l X d mt pc L [zi a] M Q := ⟨_, _, hQ, go_tret hd hr ha⟩
theorem p_callT0i {z : Int} {i idx d' : Nat} {y : MethodName} {mt' : ZT} {Qc : Int → ZM → Prop} {q0 : String × Nat × String} (q : Nat) (hz0 : zstr[i]? = some q0) (hd : decode mt.2.1 pc = .ok (.invokevirtual idx, 3)) (hM : zCi l X d' y mt' [zr (1000 + (i : Int))] M Qc) (hlk : Cond.methodLink mt.1 idx y ∈ lwg) (hmv : zMV y mt' 0) (hC : y.cls = "java/lang/String") (hdd : d' + 1 ≤ d) (hrs : pz_cats S ≤ 8) (kk : ∀ a M', Qc a M' → zP l X d mt q L (zi a :: S) M' Q) (hz : z = 1000 + (i : Int) := by rfl) (hq : pc + 3 = q := by rfl) : zP l X d mt pc L (zr z :: S) M Q := by
  subst hq
  subst hz
  obtain ⟨r1, M1, ⟨a, rfl, hQ1⟩, hM1⟩ := hM
  obtain ⟨r, M9, h, g⟩ := kk a M1 hQ1
  exact ⟨r, M9, h, go_callVS [] S rfl hz0 hd hM1 hlk hmv hC hdd hrs (Nat.le_refl _) g⟩
theorem p_callT1i {z : Int} {i idx d' : Nat} {y : MethodName} {mt' : ZT} {v1 : ZV} {Qc : Int → ZM → Prop} {q0 : String × Nat × String} (q : Nat) (hz0 : zstr[i]? = some q0) (hd : decode mt.2.1 pc = .ok (.invokevirtual idx, 3)) (hM : zCi l X d' y mt' [zr (1000 + (i : Int)), v1] M Qc) (hlk : Cond.methodLink mt.1 idx y ∈ lwg) (hmv : zMV y mt' 1) (hC : y.cls = "java/lang/String") (hdd : d' + 1 ≤ d) (hrs : pz_cats S ≤ 8) (kk : ∀ a M', Qc a M' → zP l X d mt q L (zi a :: S) M' Q) (hz : z = 1000 + (i : Int) := by rfl) (hq : pc + 3 = q := by rfl) : zP l X d mt pc L (v1 :: zr z :: S) M Q := by
  subst hq
  subst hz
  obtain ⟨r1, M1, ⟨a, rfl, hQ1⟩, hM1⟩ := hM
  obtain ⟨r, M9, h, g⟩ := kk a M1 hQ1
  exact ⟨r, M9, h, go_callVS [v1] S rfl hz0 hd hM1 hlk hmv hC hdd hrs (Nat.le_refl _) g⟩
end ZStr2
/-! the String's own methods -/
theorem pz_nc : ∀ k : Nat, k < 123 → (Int32.ofInt (k : Int)).toUInt32.toUInt16.toUInt32.toInt32 = Int32.ofInt (k : Int) := by decide +kernel
theorem pz_nchar {k : Nat} (hk : k < 123) : narrow .char (.int (Int32.ofInt (k : Int))) = .int (Int32.ofInt (k : Int)) := congrArg Value.int (pz_nc k hk)
theorem s_coder {l : Launch} {X : ZX} {M : ZM} {i : Nat} {q0 : String × Nat × String} (hq : zstr[i]? = some q0) : zCi l X 0 yJ0_coder_7d493 tJ0_coder_7d493 [zr (1000 + (i : Int))] M (fun a M' => a = 0 ∧ M' = M) := by
  refine zC.of [some (zr (1000 + (i : Int)))] (by decide +kernel) rfl rfl (Nat.le_of_ble_eq_true rfl) rfl ?_
  refine p_getsC 3 dJ0_coder_7d493_0 fk_J0_38 ?_
  refine p_if_eq 13 6 dJ0_coder_7d493_3 (by decide) (by decide) (fun h3 => absurd h3 (by decide)) (fun h3 => ?_)
  refine p_aload_n 7 dJ0_coder_7d493_6 rfl rfl (by omega) ?_
  refine p_getSc 10 hq dJ0_coder_7d493_7 fk_J0_15 ?_
  refine p_goto 14 dJ0_coder_7d493_10 ?_
  refine p_tret (ty := .byte) dJ0_coder_7d493_14 rfl rfl ?_
  exact ⟨_, rfl, rfl, rfl⟩
theorem s_isLatin1 {l : Launch} {X : ZX} {M : ZM} {i : Nat} {q0 : String × Nat × String} (hq : zstr[i]? = some q0) : zCi l X 0 yJ0_isLatin1_aae02 tJ0_isLatin1_aae02 [zr (1000 + (i : Int))] M (fun a M' => a = 1 ∧ M' = M) := by
  refine zC.of [some (zr (1000 + (i : Int)))] (by decide +kernel) rfl rfl (Nat.le_of_ble_eq_true rfl) rfl ?_
  refine p_getsC 3 dJ0_isLatin1_aae02_0 fk_J0_38 ?_
  refine p_if_eq 17 6 dJ0_isLatin1_aae02_3 (by decide) (by decide) (fun h3 => absurd h3 (by decide)) (fun h3 => ?_)
  refine p_aload_n 7 dJ0_isLatin1_aae02_6 rfl rfl (by omega) ?_
  refine p_getSc 10 hq dJ0_isLatin1_aae02_7 fk_J0_15 ?_
  refine p_if_ne 17 13 dJ0_isLatin1_aae02_10 (by decide) (by decide) (fun h3 => absurd rfl h3) (fun h3 => ?_)
  refine p_iconst 14 dJ0_isLatin1_aae02_13 ?_
  refine p_goto 18 dJ0_isLatin1_aae02_14 ?_
  refine p_zret dJ0_isLatin1_aae02_18 rfl (by decide) ?_
  exact ⟨_, rfl, rfl, rfl⟩
theorem z_ishr0 (a : Int) (h1 : -2147483648 ≤ a) (h2 : a < 2147483648) : z_ishr a 0 = a := by
  have h := w32_id (n := a) h1 h2
  unfold w32 at h
  unfold z_ishr
  show ((Int32.ofInt a).toBitVec.sshiftRight' ((Int32.ofInt 0 &&& 31).toBitVec.smod 32)).toInt = a
  have e : ((Int32.ofInt 0 &&& 31).toBitVec.smod 32) = 0#32 := by decide
  rw [e]
  unfold BitVec.sshiftRight'
  show ((Int32.ofInt a).toBitVec.sshiftRight 0).toInt = a
  rw [BitVec.sshiftRight_zero]
  exact h
theorem s_length {l : Launch} {X : ZX} {M : ZM} {i : Nat} {q0 : String × Nat × String} (hq : zstr[i]? = some q0) (hb : (zbyt.getD i []).length < 100) : zCi l X 1 yJ0_length_8abf5 tJ0_length_8abf5 [zr (1000 + (i : Int))] M (fun a M' => a = ((zbyt.getD i []).length : Int) ∧ M' = M) := by
  refine zC.of [some (zr (1000 + (i : Int)))] (by decide +kernel) rfl rfl (Nat.le_of_ble_eq_true rfl) rfl ?_
  refine p_aload_n 1 dJ0_length_8abf5_0 rfl rfl (by omega) ?_
  refine p_getSv 4 hq dJ0_length_8abf5_1 fk_J0_9 ?_
  refine p_alenS 5 hq dJ0_length_8abf5_4 ?_
  refine p_aload_n 6 dJ0_length_8abf5_5 rfl rfl (by omega) ?_
  refine p_callT0i 9 hq dJ0_length_8abf5_6 (s_coder hq) lk_J0_335 mJ0_coder_7d493 rfl (by decide) (Nat.le_of_ble_eq_true rfl) ?_
  rintro _ _ ⟨rfl, rfl⟩
  refine p_ishr 10 dJ0_length_8abf5_9 ?_
  rw [z_ishr0 _ (by omega) (by omega)]
  refine p_iret dJ0_length_8abf5_10 rfl ?_
  exact ⟨_, rfl, rfl, rfl⟩
theorem s_chk3 {l : Launch} {X : ZX} {M : ZM} {a b z : Int} (h0 : 0 ≤ a) (h1 : a < b) (h2 : b < 2147483648) : zCi l X 0 yJ3_checkIndex_8e157 tJ3_checkIndex_8e157 [zi a, zi b, zr z] M (fun x M' => x = a ∧ M' = M) := by
  refine zC.of [some (zi a), some (zi b), some (zr z)] (by decide +kernel) rfl rfl (Nat.le_of_ble_eq_true rfl) rfl ?_
  refine p_iload_n 1 dJ3_checkIndex_8e157_0 rfl rfl ?_
  refine p_if_lt 9 4 dJ3_checkIndex_8e157_1 (by omega) (by omega) (fun h3 => absurd h3 (by omega)) (fun h3 => ?_)
  refine p_iload_n 5 dJ3_checkIndex_8e157_4 rfl rfl ?_
  refine p_iload_n 6 dJ3_checkIndex_8e157_5 rfl rfl ?_
  refine p_icmp_lt 16 9 dJ3_checkIndex_8e157_6 (by omega) (by omega) (by omega) (by omega) (fun h6 => ?_) (fun h6 => absurd h1 h6)
  refine p_iload_n 17 dJ3_checkIndex_8e157_16 rfl rfl ?_
  refine p_iret dJ3_checkIndex_8e157_17 rfl ?_
  exact ⟨_, rfl, rfl, rfl⟩
theorem s_chk2 {l : Launch} {X : ZX} {M : ZM} {a b : Int} (h0 : 0 ≤ a) (h1 : a < b) (h2 : b < 2147483648) : zCv l X 1 yJ0_checkIndex_df160 tJ0_checkIndex_df160 [zi a, zi b] M (fun M' => M' = M) := by
  refine zC.of [some (zi a), some (zi b)] (by decide +kernel) rfl rfl (Nat.le_of_ble_eq_true rfl) rfl ?_
  refine p_iload_n 1 dJ0_checkIndex_df160_0 rfl rfl ?_
  refine p_iload_n 2 dJ0_checkIndex_df160_1 rfl rfl ?_
  refine p_getsF 5 dJ0_checkIndex_df160_2 fk_J0_1053 ?_
  refine p_callS3i 8 dJ0_checkIndex_df160_5 (s_chk3 h0 h1 h2) lk_J0_1059 mJ3_checkIndex_8e157 (by decide) (Nat.le_of_ble_eq_true rfl) ?_
  rintro _ _ ⟨rfl, rfl⟩
  refine p_popI 9 dJ0_checkIndex_df160_8 ?_
  refine p_vret dJ0_checkIndex_df160_9 rfl ?_
  exact ⟨rfl, rfl⟩
/-- every letter of the constants is one -/
theorem zbyt_bd : ∀ i, i < 45 → (zbyt.getD i []).length < 100 ∧ ∀ j, j < (zbyt.getD i []).length → 32 ≤ ((zbyt.getD i []).getD j 0).toInt ∧ ((zbyt.getD i []).getD j 0).toInt ≤ 122 := by decide +kernel
theorem s_charAt1 {l : Launch} {X : ZX} {M : ZM} {i j : Nat} {q0 : String × Nat × String} (hq : zstr[i]? = some q0) (hi : i < 45) (hj : j < (zbyt.getD i []).length) : zCi l X 2 yJ1_charAt_3b067 tJ1_charAt_3b067 [zr (1000 + ((1000 + i : Nat) : Int)), zi (j : Int)] M (fun a M' => a = ((zbyt.getD i []).getD j 0).toInt ∧ M' = M) := by
  obtain ⟨hb1, hb2⟩ := zbyt_bd i hi
  have hb3 := hb2 j hj
  refine zC.of [some (zr (1000 + ((1000 + i : Nat) : Int))), some (zi (j : Int))] (by decide +kernel) rfl rfl (Nat.le_of_ble_eq_true rfl) rfl ?_
  refine p_iload_n 1 dJ1_charAt_3b067_0 rfl rfl ?_
  refine p_aload_n 2 dJ1_charAt_3b067_1 rfl rfl (by omega) ?_
  refine p_alenS 3 hq dJ1_charAt_3b067_2 ?_
  refine p_callS2v 6 dJ1_charAt_3b067_3 (s_chk2 (by omega) (by omega) (by omega)) lk_J1_9 mJ0_checkIndex_df160 (by decide) (Nat.le_of_ble_eq_true rfl) ?_
  rintro _ rfl
  refine p_aload_n 7 dJ1_charAt_3b067_6 rfl rfl (by omega) ?_
  refine p_iload_n 8 dJ1_charAt_3b067_7 rfl rfl ?_
  refine p_baldS 9 hq hj (by omega) dJ1_charAt_3b067_8 ?_
  refine p_sipush 12 dJ1_charAt_3b067_9 rfl ?_
  refine p_iand 13 dJ1_charAt_3b067_12 ?_
  obtain ⟨k, hk⟩ : ∃ k : Nat, ((zbyt.getD i []).getD j 0).toInt = (k : Int) := ⟨((zbyt.getD i []).getD j 0).toInt.toNat, by omega⟩
  rw [hk]
  have e : z_iand (k : Int) 255 = (k : Int) := by
    have h := z_iand_n k 255 (by omega) (by decide)
    refine h.trans ?_
    rw [show (255 : Nat) = 2 ^ 8 - 1 from rfl, Nat.and_two_pow_sub_one_eq_mod, Nat.mod_eq_of_lt (by show k < 256; omega)]
  rw [e]
  refine p_i2c 14 dJ1_charAt_3b067_13 (by omega) (by omega) ?_
  refine p_tret (ty := .char) dJ1_charAt_3b067_14 rfl (pz_nchar (by omega)) ?_
  exact ⟨_, rfl, rfl, rfl⟩
theorem s_charAt {l : Launch} {X : ZX} {M : ZM} {i j : Nat} {q0 : String × Nat × String} (hq : zstr[i]? = some q0) (hi : i < 45) (hj : j < (zbyt.getD i []).length) : zCi l X 3 yJ0_charAt_5068e tJ0_charAt_5068e [zr (1000 + (i : Int)), zi (j : Int)] M (fun a M' => a = ((zbyt.getD i []).getD j 0).toInt ∧ M' = M) := by
  obtain ⟨hb1, hb2⟩ := zbyt_bd i hi
  have hb3 := hb2 j hj
  refine zC.of [some (zr (1000 + (i : Int))), some (zi (j : Int))] (by decide +kernel) rfl rfl (Nat.le_of_ble_eq_true rfl) rfl ?_
  refine p_aload_n 1 dJ0_charAt_5068e_0 rfl rfl (by omega) ?_
  refine p_callT0i 4 hq dJ0_charAt_5068e_1 (s_isLatin1 hq) lk_J0_492 mJ0_isLatin1_aae02 rfl (by decide) (Nat.le_of_ble_eq_true rfl) ?_
  rintro _ _ ⟨rfl, rfl⟩
  refine p_if_eq 16 7 dJ0_charAt_5068e_4 (by decide) (by decide) (fun h3 => absurd h3 (by decide)) (fun h3 => ?_)
  refine p_aload_n 8 dJ0_charAt_5068e_7 rfl rfl (by omega) ?_
  refine p_getSv 11 hq dJ0_charAt_5068e_8 fk_J0_9 ?_
  refine p_iload_n 12 dJ0_charAt_5068e_11 rfl rfl ?_
  refine p_callS2i 15 dJ0_charAt_5068e_12 (s_charAt1 hq hi hj) lk_J0_495 mJ1_charAt_3b067 (by decide) (Nat.le_of_ble_eq_true rfl) ?_
  rintro _ _ ⟨rfl, rfl⟩
  obtain ⟨k, hk⟩ : ∃ k : Nat, ((zbyt.getD i []).getD j 0).toInt = (k : Int) := ⟨((zbyt.getD i []).getD j 0).toInt.toNat, by omega⟩
  rw [hk]
  refine p_tret (ty := .char) dJ0_charAt_5068e_15 rfl (pz_nchar (by omega)) ?_
  exact ⟨_, rfl, rfl, rfl⟩
