section ZCD
variable {l : Launch} {X : ZX} {d : Nat} {mt : ZT} {pc : Nat} {L : List (Option ZV)} {S : List ZV} {n : Nat} {M : ZM} {out : ZO}
theorem go_callS {r : Option ZV} {n1 d' idx : Nat} {M1 : ZM} {y : MethodName} {mt' : ZT} (As rest : List ZV) (hS0 : S = As.reverse ++ rest) (hd : decode mt.2.1 pc = .ok (.invokestatic idx, 3)) (hM : zMet l X d' y mt' As n M (r, n1, M1)) (hlk : Cond.methodLink mt.1 idx y ∈ lwg) (hmv : zMS y mt' As.length) (hdd : d' + 1 ≤ d) (hrs : pz_cats rest ≤ 8) (hno : n1 ≤ out.2.1) (kk : zGo l X d mt (pc + 3) L (r.toList ++ rest) n1 M1 out) : zGo l X d mt pc L S n M out := by
  intro p e s m args below meth c0 B n0 H locs ls h1 h2 hR hS hL
  subst hS0
  obtain ⟨hnn, hMet⟩ := hM
  obtain ⟨m1, m3, m4, m5, m6⟩ := hmv
  have hE := B.2.2.2.2.2.2.2.1
  refine pz_sz (fun hsz => ?_)
  have hRel := pz_relOf h1 h2.2 hR hE.2.1 hS hsz
  have hts := B.2.2.2.2.2.2.1
  refine pz_after (r := r) (n1 := n1) (M1 := M1) (rest := rest.map (pz_val X)) (va_runS (As := As.map (pz_val X)) (n := As.length) ⟨B.1, B.2.1, B.2.2.2.2.1, B.2.2.2.2.2.1, hts⟩ hMet ⟨callB_of As.length hts (pz_goodC m4) rfl rfl rfl (hts _ m3) (hts _ hlk) m5 ⟨hdd, by show 8 + (mt'.2.2.1 + 11) + 60 * d' ≤ 60 * d; omega⟩, hts _ m1⟩ ⟨pz_blind X _ n M, fun U hU hW => ⟨rfl, hE.move hW (by rw [hU]; exact hS.1) (by rw [hU]; exact hS.2.1), by rw [hU]; exact hRel⟩⟩ rfl (List.length_map ..) (hL.1) (by
      show List.map (pz_val X) (As.reverse ++ rest) = _
      rw [List.map_append, List.map_reverse]) (lv_room (by rw [pz_cats_ok]; exact hrs)) hd (pz_slots h1 hnn hno)) hS (fun H1 locs1 hR1 hS1 => ?_)
  have h := kk p e s m args below meth c0 B n0 H1 locs1 ls (Nat.le_trans h1 hnn) ⟨hno, h2.2⟩ hR1.1 hS1 hL
  obtain ⟨e1, e2⟩ := pz_slots2 h1 hnn
  rw [List.map_append] at h
  show W p l e _ s m args below meth c0 H1 locs1 (n - n0 + (n1 - n)) (pz_ss n - pz_ss n0 + (pz_ss n1 - pz_ss n)) _ _
  rw [e1, e2]
  exact h
theorem go_callSN {r : Option ZV} {n1 d' idx : Nat} {M1 : ZM} {y : MethodName} {mt' : ZT} {host : String} (As rest : List ZV) (hS0 : S = As.reverse ++ rest) (hd : decode mt.2.1 pc = .ok (.invokestatic idx, 3)) (hM : zMet l X d' y mt' As n M (r, n1, M1)) (hlk : Cond.methodLinkNest mt.1 idx y host ∈ lw_tbl) (hmv : zMS y mt' As.length) (hdd : d' + 1 ≤ d) (hrs : pz_cats rest ≤ 8) (hno : n1 ≤ out.2.1) (kk : zGo l X d mt (pc + 3) L (r.toList ++ rest) n1 M1 out) : zGo l X d mt pc L S n M out := by
  intro p e s m args below meth c0 B n0 H locs ls h1 h2 hR hS hL
  subst hS0
  obtain ⟨hnn, hMet⟩ := hM
  obtain ⟨m1, m3, m4, m5, m6⟩ := hmv
  have hE := B.2.2.2.2.2.2.2.1
  refine pz_sz (fun hsz => ?_)
  have hRel := pz_relOf h1 h2.2 hR hE.2.1 hS hsz
  have hts := B.2.2.2.2.2.2.1
  refine pz_after (r := r) (n1 := n1) (M1 := M1) (rest := rest.map (pz_val X)) (va_runSN (As := As.map (pz_val X)) (n := As.length) ⟨B.1, B.2.1, B.2.2.2.2.1, B.2.2.2.2.2.1, hts⟩ hMet ⟨va_cnB As.length hts (pz_goodC m4) rfl rfl rfl (hE.2.2.1 _ _ _ _ hlk) (hts _ m3) m5 ⟨hdd, by show 8 + (mt'.2.2.1 + 11) + 60 * d' ≤ 60 * d; omega⟩, hts _ m1, trivial⟩ ⟨pz_blind X _ n M, fun U hU hW => ⟨rfl, hE.move hW (by rw [hU]; exact hS.1) (by rw [hU]; exact hS.2.1), by rw [hU]; exact hRel⟩⟩ rfl (List.length_map ..) (hL.1) (by
      show List.map (pz_val X) (As.reverse ++ rest) = _
      rw [List.map_append, List.map_reverse]) (lv_room (by rw [pz_cats_ok]; exact hrs)) hd (pz_slots h1 hnn hno)) hS (fun H1 locs1 hR1 hS1 => ?_)
  have h := kk p e s m args below meth c0 B n0 H1 locs1 ls (Nat.le_trans h1 hnn) ⟨hno, h2.2⟩ hR1.1 hS1 hL
  obtain ⟨e1, e2⟩ := pz_slots2 h1 hnn
  rw [List.map_append] at h
  show W p l e _ s m args below meth c0 H1 locs1 (n - n0 + (n1 - n)) (pz_ss n - pz_ss n0 + (pz_ss n1 - pz_ss n)) _ _
  rw [e1, e2]
  exact h
theorem go_callI {n1 d' idx : Nat} {M1 : ZM} {y : MethodName} {own' nm' : String} {b' : ByteArray} {ml' : Nat} {q : Nat ⊕ (Nat × Nat)} (As rest : List ZV) (c : Nat) (hS0 : S = As.reverse ++ zr (c : Int) :: rest) (hd : decode mt.2.1 pc = .ok (.invokespecial idx, 3)) (hM : zMet l X d' y (own', b', ml', none, nm') (zr (c : Int) :: As) n M (none, n1, M1)) (hlk : Cond.methodLink mt.1 idx y ∈ lwg) (hmv : zMI y (own', b', ml', none, nm') As.length) (hc : zTT[c]? = some q) (hdd : d' + 1 ≤ d) (hrs : pz_cats rest ≤ 8) (hno : n1 ≤ out.2.1) (kk : zGo l X d mt (pc + 3) L rest n1 M1 out) : zGo l X d mt pc L S n M out := by
  intro p e s m args below meth c0 B n0 H locs ls h1 h2 hR hS hL
  subst hS0
  obtain ⟨hnn, hMet⟩ := hM
  obtain ⟨m1, m2, -, m3, m4, m5, m6⟩ := hmv
  have hE := B.2.2.2.2.2.2.2.1
  refine pz_sz (fun hsz => ?_)
  have hRel := pz_relOf h1 h2.2 hR hE.2.1 hS hsz
  have hts := B.2.2.2.2.2.2.1
  refine pz_after (r := none) (n1 := n1) (M1 := M1) (rest := rest.map (pz_val X)) (va_runI (As := As.map (pz_val X)) (b := X.1 + c) (n := As.length) ⟨B.1, B.2.1, B.2.2.2.2.1, B.2.2.2.2.2.1, hts⟩ hMet (cwI As.length hts (pz_goodC m4) rfl rfl rfl (hts _ m3) (hts _ hlk) (hts _ m1) m2 m5 ⟨hdd, by show 8 + (ml' + 11) + 60 * d' ≤ 60 * d; have : ml' ≤ 41 := m6; omega⟩) ⟨pz_blind X _ n M, fun U hU hW => ⟨by rw [List.map_cons, pz_val_c X hc], hE.move hW (by rw [hU]; exact hS.1) (by rw [hU]; exact hS.2.1), by rw [hU]; exact hRel⟩⟩ rfl (List.length_map ..) (hL.1) (by
      show List.map (pz_val X) (As.reverse ++ zr (c : Int) :: rest) = _
      rw [List.map_append, List.map_reverse, List.map_cons, pz_val_c X hc]) (lv_room (by rw [pz_cats_ok]; exact hrs)) hd (pz_slots h1 hnn hno)) hS (fun H1 locs1 hR1 hS1 => ?_)
  have h := kk p e s m args below meth c0 B n0 H1 locs1 ls (Nat.le_trans h1 hnn) ⟨hno, h2.2⟩ hR1.1 hS1 hL
  obtain ⟨e1, e2⟩ := pz_slots2 h1 hnn
  show W p l e _ s m args below meth c0 H1 locs1 (n - n0 + (n1 - n)) (pz_ss n - pz_ss n0 + (pz_ss n1 - pz_ss n)) _ _
  rw [e1, e2]
  exact h
theorem go_callIN {n1 d' idx : Nat} {M1 : ZM} {y : MethodName} {own' nm' host : String} {b' : ByteArray} {ml' : Nat} {q : Nat ⊕ (Nat × Nat)} (As rest : List ZV) (c : Nat) (hS0 : S = As.reverse ++ zr (c : Int) :: rest) (hd : decode mt.2.1 pc = .ok (.invokespecial idx, 3)) (hM : zMet l X d' y (own', b', ml', none, nm') (zr (c : Int) :: As) n M (none, n1, M1)) (hlk : Cond.methodLinkNest mt.1 idx y host ∈ lw_tbl) (hmv : zMI y (own', b', ml', none, nm') As.length) (hc : zTT[c]? = some q) (hdd : d' + 1 ≤ d) (hrs : pz_cats rest ≤ 8) (hno : n1 ≤ out.2.1) (kk : zGo l X d mt (pc + 3) L rest n1 M1 out) : zGo l X d mt pc L S n M out := by
  intro p e s m args below meth c0 B n0 H locs ls h1 h2 hR hS hL
  subst hS0
  obtain ⟨hnn, hMet⟩ := hM
  obtain ⟨m1, m2, -, m3, m4, m5, m6⟩ := hmv
  have hE := B.2.2.2.2.2.2.2.1
  refine pz_sz (fun hsz => ?_)
  have hRel := pz_relOf h1 h2.2 hR hE.2.1 hS hsz
  have hts := B.2.2.2.2.2.2.1
  refine pz_after (r := none) (n1 := n1) (M1 := M1) (rest := rest.map (pz_val X)) (va_runIN (As := As.map (pz_val X)) (b := X.1 + c) (n := As.length) ⟨B.1, B.2.1, B.2.2.2.2.1, B.2.2.2.2.2.1, hts⟩ hMet ⟨va_cnB As.length hts (pz_goodC m4) rfl rfl rfl (hE.2.2.1 _ _ _ _ hlk) (hts _ m3) m5 ⟨hdd, by show 8 + (ml' + 11) + 60 * d' ≤ 60 * d; have : ml' ≤ 41 := m6; omega⟩, m2, hts _ m1⟩ ⟨pz_blind X _ n M, fun U hU hW => ⟨by rw [List.map_cons, pz_val_c X hc], hE.move hW (by rw [hU]; exact hS.1) (by rw [hU]; exact hS.2.1), by rw [hU]; exact hRel⟩⟩ rfl (List.length_map ..) (hL.1) (by
      show List.map (pz_val X) (As.reverse ++ zr (c : Int) :: rest) = _
      rw [List.map_append, List.map_reverse, List.map_cons, pz_val_c X hc]) (lv_room (by rw [pz_cats_ok]; exact hrs)) hd (pz_slots h1 hnn hno)) hS (fun H1 locs1 hR1 hS1 => ?_)
  have h := kk p e s m args below meth c0 B n0 H1 locs1 ls (Nat.le_trans h1 hnn) ⟨hno, h2.2⟩ hR1.1 hS1 hL
  obtain ⟨e1, e2⟩ := pz_slots2 h1 hnn
  show W p l e _ s m args below meth c0 H1 locs1 (n - n0 + (n1 - n)) (pz_ss n - pz_ss n0 + (pz_ss n1 - pz_ss n)) _ _
  rw [e1, e2]
  exact h
theorem go_objInit {idx : Nat} {z : Int} (h0 : 0 ≤ z) (hd : decode mt.2.1 pc = .ok (.invokespecial idx, 3)) (hlk : Cond.methodLink mt.1 idx objectInit ∈ lwg) (hdd : 1 ≤ d) (hrs : pz_cats S ≤ 8) (kk : zGo l X d mt (pc + 3) L S n M out) : zGo l X d mt pc L (zr z :: S) n M out := by
  intro p e s m args below meth c0 B n0 H locs ls h1 h2 hR hS hL
  have hts := B.2.2.2.2.2.2.1
  rw [List.map_cons, pz_val_r X h0]
  refine W.objInit B.1 B.2.1 B.2.2.2.2.2.1 (hts _ hlk) (hts _ im_objectInit) (hts _ cd_objectInit) rfl (by rw [B.2.2.2.2.1]; exact hL.1) rfl hd hdd ?_ (kk p e s m args below meth c0 B n0 H locs ls h1 h2 hR hS hL)
  have h9 := lv_room (m := m) (pc := pc) (ls := ls) (rest := Value.ref (pz_adr X z) :: S.map (pz_val X)) (st := S.map (pz_val X)) (by rw [pz_cats_ok]; exact hrs)
  show _ + 12 ≤ 60 * d
  omega
theorem go_alen {z : Int} {t len : Nat} {ty : FieldType} (c : Nat) (hz : z = (c : Int)) (hd : decode mt.2.1 pc = .ok (.arraylength, 1)) (hc : zTT[c]? = some (.inr (t, len))) (hn : c < n) (hty : (pz_tys X)[t]? = some (X.2.2.1 t, ty)) (kk : zGo l X d mt (pc + 1) L (zi (len : Int) :: S) n M out) : zGo l X d mt pc L (zr z :: S) n M out := by
  intro p e s m args below meth c0 B n0 H locs ls h1 h2 hR hS hL
  subst hz
  rw [List.map_cons, pz_val_c X hc]
  have he := pz_ws_get X M hn
  rw [pz_cell_a X M hc] at he
  exact va_alen B.1 B.2.1 B.2.2.2.2.2.2.2.1.1 hR c t he hty rfl hd (kk p e s m args below meth c0 B n0 H locs ls h1 h2 hR hS hL)
/-- what a byte keeps of a number -/
def z_byte (v : Int) : Int := (vp_nar .byte (Int32.ofInt v)).toInt
theorem go_bast {z i v : Int} {len : Nat} (c : Nat) (hz : z = (c : Int)) (hd : decode mt.2.1 pc = .ok (.bastore, 1)) (hc : zTT[c]? = some (.inr (1, len))) (hn : c < n) (hi0 : 0 ≤ i) (hi1 : i < (len : Int)) (kk : zGo l X d mt (pc + 1) L S n (zset M c i.toNat (z_byte v)) out) : zGo l X d mt pc L (zi v :: zi i :: zr z :: S) n M out := by
  intro p e s m args below meth c0 B n0 H locs ls h1 h2 hR hS hL
  subst hz
  rw [List.map_cons, List.map_cons, List.map_cons, pz_val_c X hc]
  have he := pz_ws_get X M hn
  rw [pz_cell_a X M hc] at he
  have hl := pz_TTlen hc
  refine va_bast B.1 B.2.1 B.2.2.2.2.2.2.2.1.1 hR (pz_D X n M) hS c 1 he rfl (pz_in hi0 hi1 hl) hd (fun H1 locs1 hP1 hD1 hS1 => ?_)
  rw [pz_clamp hi0 (by omega), pz_ws_set X hn (M' := zset M c i.toNat (z_byte v)) (fun a ha => zset_ne M ha) (by
    rw [pz_cell_a X _ hc, zset_row]
    show _ = Sum.inl (X.2.2.1 1, len, Sum.inl (fun k => Int32.ofInt (if k = i.toNat then z_byte v else M c k)))
    congr 4
    funext k
    unfold upd
    split
    · exact (Int32.ofInt_toInt _).symm
    · rfl)] at hP1
  exact kk p e s m args below meth c0 B n0 H1 locs1 ls h1 h2 hP1 hS1 hL
theorem go_zast {z i v : Int} {len : Nat} (c : Nat) (hz : z = (c : Int)) (hd : decode mt.2.1 pc = .ok (.bastore, 1)) (hc : zTT[c]? = some (.inr (4, len))) (hn : c < n) (hi0 : 0 ≤ i) (hi1 : i < (len : Int)) (hv : v = 0 ∨ v = 1) (kk : zGo l X d mt (pc + 1) L S n (zset M c i.toNat v) out) : zGo l X d mt pc L (zi v :: zi i :: zr z :: S) n M out := by
  intro p e s m args below meth c0 B n0 H locs ls h1 h2 hR hS hL
  subst hz
  rw [List.map_cons, List.map_cons, List.map_cons, pz_val_c X hc]
  have he := pz_ws_get X M hn
  rw [pz_cell_a X M hc] at he
  have hl := pz_TTlen hc
  have hb : vp_nar .boolean (Int32.ofInt v) = Int32.ofInt v := by rcases hv with rfl | rfl <;> rfl
  refine va_zast B.1 B.2.1 B.2.2.2.2.2.2.2.1.1 hR (pz_D X n M) hS c 4 he rfl (pz_in hi0 hi1 hl) hd (fun H1 locs1 hP1 hD1 hS1 => ?_)
  rw [pz_clamp hi0 (by omega), hb, pz_ws_set X hn (M' := zset M c i.toNat v) (fun a ha => zset_ne M ha) (by
    rw [pz_cell_a X _ hc, zset_row]
    show _ = Sum.inl (X.2.2.1 4, len, Sum.inl (fun k => Int32.ofInt (if k = i.toNat then v else M c k)))
    congr 4
    funext k
    unfold upd
    split <;> rfl)] at hP1
  exact kk p e s m args below meth c0 B n0 H1 locs1 ls h1 h2 hP1 hS1 hL
theorem go_aast {z i v : Int} {len : Nat} (c cv : Nat) (hz : z = (c : Int)) (hv : v = (cv : Int)) (hd : decode mt.2.1 pc = .ok (.aastore, 1)) (hc : zTT[c]? = some (.inr (3, len))) (hcv : zTT[cv]? = some (.inl 3)) (hn : c < n) (hnv : cv < n) (hi0 : 0 ≤ i) (hi1 : i < (len : Int)) (kk : zGo l X d mt (pc + 1) L S n (zset M c i.toNat v) out) : zGo l X d mt pc L (zr v :: zi i :: zr z :: S) n M out := by
  intro p e s m args below meth c0 B n0 H locs ls h1 h2 hR hS hL
  subst hz
  subst hv
  rw [List.map_cons, List.map_cons, List.map_cons, pz_val_c X hc, pz_val_c X hcv]
  have he := pz_ws_get X M hn
  rw [pz_cell_a X M hc] at he
  have hev := pz_ws_get X M hnv
  rw [pz_cell_o X M hcv] at hev
  have hl := pz_TTlen hc
  refine va_astq B.1 B.2.1 B.2.2.2.2.2.2.2.1.1 hR (pz_D X n M) hS c 3 cv 3 he (r := (RX3, TX3, 6)) rfl hev rfl (pz_in hi0 hi1 hl) hd (fun H1 locs1 hP1 hD1 hS1 => ?_)
  rw [pz_clamp hi0 (by omega), pz_ws_set X hn (M' := zset M c i.toNat (cv : Int)) (fun a ha => zset_ne M ha) (by
    rw [pz_cell_a X _ hc, zset_row]
    show _ = Sum.inl (X.2.2.1 3, len, Sum.inr (Sum.inr (Sum.inr (Sum.inr (fun k => if (if k = i.toNat then (cv : Int) else M c k) < 0 then none else some (pz_adr X (if k = i.toNat then (cv : Int) else M c k)))))))
    congr 7
    funext k
    unfold va_up
    by_cases hk : k = i.toNat
    · simp only [if_pos hk]
      rw [if_neg (by omega), pz_adr_c X (pz_TTlt hcv)]
    · simp only [if_neg hk])] at hP1
  exact kk p e s m args below meth c0 B n0 H1 locs1 ls h1 h2 hP1 hS1 hL
end ZCD
