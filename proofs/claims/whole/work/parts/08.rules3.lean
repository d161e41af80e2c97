/-! fields, rows, calls, new cells -/
section ZF
variable {l : Launch} {X : ZX} {d : Nat} {mt : ZT} {pc : Nat} {L : List (Option ZV)} {S : List ZV} {n : Nat} {M : ZM} {out : ZO}
theorem pz_adr_c (X : ZX) {c : Nat} (h : c < 1000) : pz_adr X (c : Int) = X.1 + c := by
  unfold pz_adr
  rw [if_pos (by omega), Int.toNat_natCast]
theorem pz_TTlt {c : Nat} {q : Nat ⊕ (Nat × Nat)} (h : zTT[c]? = some q) : c < 1000 := by
  have h1 := (List.getElem?_eq_some_iff.mp h).1
  have h2 : zTT.length ≤ 1000 := by decide +kernel
  omega
theorem pz_val_c (X : ZX) {c : Nat} {q : Nat ⊕ (Nat × Nat)} (h : zTT[c]? = some q) : pz_val X (zr (c : Int)) = .ref (X.1 + c) := by
  rw [pz_val_r X (by omega), pz_adr_c X (pz_TTlt h)]
theorem go_get {z : Int} {ci k t N idx : Nat} {C : String} {T : u_T} (c : Nat) (hz : z = (c : Int)) (hd : decode mt.2.1 pc = .ok (.getfield idx, 3)) (hc : zTT[c]? = some (.inl ci)) (hn : c < n) (hcl : vwCl[ci]? = some (C, T, N)) (hin : ∀ w ∈ u_ws C T N, w ∈ lwg) (hk : k < N) (hlk : Cond.fieldLink mt.1 idx C (T k).2.1 (T k).2.2.1 ∈ lwg) (hT : (T k).1 = C) (ht : (zft.getD ci [])[k]? = some t) (kk : zGo l X d mt (pc + 3) L (pz_tag t (M c k) :: S) n M out) : zGo l X d mt pc L (zr z :: S) n M out := by
  intro p e s m args below meth c0 B n0 H locs ls h1 h2 hR hS hL
  subst hz
  rw [List.map_cons, pz_val_c X hc]
  have he := pz_ws_get X M hn
  rw [pz_cell_o X M hc] at he
  have hv : (pz_fvs X (zft.getD ci []) 0 (M c))[k]? = some (pz_val X (pz_tag t (M c k))) := by rw [pz_fvs_get, ht, Option.map_some, Nat.zero_add]
  exact va_get B.1 B.2.1 B.2.2.2.2.2.2.1 hin B.2.2.2.2.2.1 B.2.2.2.2.2.2.2.1.1 hR c he hcl k hk (B.2.2.2.2.2.2.1 _ hlk) (by rw [hT]; exact fun _ h => h) hv hd (kk p e s m args below meth c0 B n0 H locs ls h1 h2 hR hS hL)
/-- what may be put into a field of a type -/
def pz_fit (ty : FieldType) (v : ZV) : Prop := match ty, v with
  | .int, .inl _ => True
  | .boolean, .inl a => a = 0 ∨ a = 1
  | .long, .inr (.inl _) => True
  | .object _, .inr (.inr a) => 0 ≤ a
  | .array _, .inr (.inr a) => 0 ≤ a
  | _, _ => False
theorem pz_fit_ok (X : ZX) {ty : FieldType} {v : ZV} (h : pz_fit ty v) : narrow ty (pz_val X v) = pz_val X v ∧ fits ty (pz_val X v) = true := by
  match ty, v, h with
  | .int, .inl _, _ => exact ⟨rfl, rfl⟩
  | .boolean, .inl a, h => rcases h with rfl | rfl <;> exact ⟨rfl, rfl⟩
  | .long, .inr (.inl _), _ => exact ⟨rfl, rfl⟩
  | .object _, .inr (.inr a), h => rw [pz_val_r X h]; exact ⟨rfl, rfl⟩
  | .array _, .inr (.inr a), h => rw [pz_val_r X h]; exact ⟨rfl, rfl⟩
theorem go_put {z v : Int} {ci k t N idx : Nat} {C : String} {T : u_T} {ty0 : Nat → FieldType} (c : Nat) (hz : z = (c : Int)) (hd : decode mt.2.1 pc = .ok (.putfield idx, 3)) (hc : zTT[c]? = some (.inl ci)) (hn : c < n) (hcl : vwCl[ci]? = some (C, T, N)) (hin : ∀ w ∈ u_ws C T N, w ∈ lwg) (hty : ∀ k, k < N → parseFieldDescriptor (T k).2.2.1 = some (ty0 k)) (hnm : ∀ a, a < N → ∀ b, b < N → a ≠ b → (T a).2.1 ≠ (T b).2.1) (hk : k < N) (hlk : Cond.fieldLink mt.1 idx C (T k).2.1 (T k).2.2.1 ∈ lwg) (hT : (T k).1 = C) (hf : (T k).2.2.2 = false) (ht : (zft.getD ci [])[k]? = some t) (hv : pz_fit (ty0 k) (pz_tag t v)) (kk : zGo l X d mt (pc + 3) L S n (zset M c k v) out) : zGo l X d mt pc L (pz_tag t v :: zr z :: S) n M out := by
  intro p e s m args below meth c0 B n0 H locs ls h1 h2 hR hS hL
  subst hz
  rw [List.map_cons, List.map_cons, pz_val_c X hc]
  have he := pz_ws_get X M hn
  rw [pz_cell_o X M hc] at he
  obtain ⟨f1, f2⟩ := pz_fit_ok X hv
  refine va_put B.1 B.2.1 B.2.2.2.2.2.2.1 hin ty0 hty hnm B.2.2.2.2.2.1 B.2.2.2.2.2.2.2.1.1 hR (pz_D X n M) hS c he hcl k hk (B.2.2.2.2.2.2.1 _ hlk) (by rw [hT]; exact fun _ h => h) hf (hty k hk) f1 f2 (by rw [pz_fvs_len]; exact (List.getElem?_eq_some_iff.mp ht).1) hd (fun H1 locs1 hP1 hD1 hS1 => ?_)
  rw [pz_ws_o X M v hn hc ht] at hP1
  exact kk p e s m args below meth c0 B n0 H1 locs1 ls h1 h2 hP1 hS1 hL
theorem go_putF {z v : Int} {ci k t N idx : Nat} {C : String} {T : u_T} {ty0 : Nat → FieldType} (c : Nat) (hz : z = (c : Int)) (hd : decode mt.2.1 pc = .ok (.putfield idx, 3)) (hc : zTT[c]? = some (.inl ci)) (hn : c < n) (hcl : vwCl[ci]? = some (C, T, N)) (hin : ∀ w ∈ u_ws C T N, w ∈ lwg) (hty : ∀ k, k < N → parseFieldDescriptor (T k).2.2.1 = some (ty0 k)) (hnm : ∀ a, a < N → ∀ b, b < N → a ≠ b → (T a).2.1 ≠ (T b).2.1) (hk : k < N) (hlk : Cond.fieldLink mt.1 idx C (T k).2.1 (T k).2.2.1 ∈ lwg) (hT : (T k).1 = C) (hf : (T k).2.2.2 = true) (hi : mt.2.2.2.2 = "<init>") (ho : (T k).1 = mt.1) (ht : (zft.getD ci [])[k]? = some t) (hv : pz_fit (ty0 k) (pz_tag t v)) (kk : zGo l X d mt (pc + 3) L S n (zset M c k v) out) : zGo l X d mt pc L (pz_tag t v :: zr z :: S) n M out := by
  intro p e s m args below meth c0 B n0 H locs ls h1 h2 hR hS hL
  subst hz
  rw [List.map_cons, List.map_cons, pz_val_c X hc]
  have he := pz_ws_get X M hn
  rw [pz_cell_o X M hc] at he
  obtain ⟨f1, f2⟩ := pz_fit_ok X hv
  refine va_putF B.1 B.2.1 B.2.2.2.2.2.2.1 hin ty0 hty hnm B.2.2.2.2.2.1 B.2.2.2.2.2.2.2.1.1 hR (pz_D X n M) hS c he hcl k hk (B.2.2.2.2.2.2.1 _ hlk) (by rw [hT]; exact fun _ h => h) hf (B.2.2.2.2.2.2.2.2.trans hi) ho (hty k hk) f1 f2 (by rw [pz_fvs_len]; exact (List.getElem?_eq_some_iff.mp ht).1) hd (fun H1 locs1 hP1 hD1 hS1 => ?_)
  rw [pz_ws_o X M v hn hc ht] at hP1
  exact kk p e s m args below meth c0 B n0 H1 locs1 ls h1 h2 hP1 hS1 hL
theorem pz_arr0 (X : ZX) {t : Nat} (ht : t = 0 ∨ t = 1 ∨ t = 4) (f : Nat → Int) : pz_arr X t f = .inl (fun i => Int32.ofInt (f i)) := by
  rcases ht with rfl | rfl | rfl <;> rfl
theorem pz_TTlen {c t len : Nat} (h : zTT[c]? = some (.inr (t, len))) : len < 2147483648 := by
  have h1 : ∀ q ∈ zTT, pz_csz q < 2147483648 := by decide +kernel
  exact h1 _ (List.mem_of_getElem? h)
theorem go_iald {z i : Int} {len : Nat} (c : Nat) (hz : z = (c : Int)) (hd : decode mt.2.1 pc = .ok (.iaload, 1)) (hc : zTT[c]? = some (.inr (0, len))) (hn : c < n) (hi0 : 0 ≤ i) (hi1 : i < (len : Int)) (kk : zGo l X d mt (pc + 1) L (zi (M c i.toNat) :: S) n M out) : zGo l X d mt pc L (zi i :: zr z :: S) n M out := by
  intro p e s m args below meth c0 B n0 H locs ls h1 h2 hR hS hL
  subst hz
  rw [List.map_cons, List.map_cons, pz_val_c X hc]
  have he := pz_ws_get X M hn
  rw [pz_cell_a X M hc] at he
  have hl := pz_TTlen hc
  refine va_iald B.1 B.2.1 B.2.2.2.2.2.2.2.1.1 hR c 0 he rfl (pz_in hi0 hi1 hl) hd ?_
  rw [pz_clamp hi0 (by omega)]
  exact kk p e s m args below meth c0 B n0 H locs ls h1 h2 hR hS hL
theorem go_bald {z i : Int} {len : Nat} (c : Nat) (hz : z = (c : Int)) (hd : decode mt.2.1 pc = .ok (.baload, 1)) (hc : zTT[c]? = some (.inr (1, len))) (hn : c < n) (hi0 : 0 ≤ i) (hi1 : i < (len : Int)) (kk : zGo l X d mt (pc + 1) L (zi (M c i.toNat) :: S) n M out) : zGo l X d mt pc L (zi i :: zr z :: S) n M out := by
  intro p e s m args below meth c0 B n0 H locs ls h1 h2 hR hS hL
  subst hz
  rw [List.map_cons, List.map_cons, pz_val_c X hc]
  have he := pz_ws_get X M hn
  rw [pz_cell_a X M hc] at he
  have hl := pz_TTlen hc
  refine va_bald B.1 B.2.1 B.2.2.2.2.2.2.2.1.1 hR c 1 he rfl (pz_in hi0 hi1 hl) hd ?_
  rw [pz_clamp hi0 (by omega)]
  exact kk p e s m args below meth c0 B n0 H locs ls h1 h2 hR hS hL
theorem go_zald {z i : Int} {len : Nat} (c : Nat) (hz : z = (c : Int)) (hd : decode mt.2.1 pc = .ok (.baload, 1)) (hc : zTT[c]? = some (.inr (4, len))) (hn : c < n) (hi0 : 0 ≤ i) (hi1 : i < (len : Int)) (kk : zGo l X d mt (pc + 1) L (zi (M c i.toNat) :: S) n M out) : zGo l X d mt pc L (zi i :: zr z :: S) n M out := by
  intro p e s m args below meth c0 B n0 H locs ls h1 h2 hR hS hL
  subst hz
  rw [List.map_cons, List.map_cons, pz_val_c X hc]
  have he := pz_ws_get X M hn
  rw [pz_cell_a X M hc] at he
  have hl := pz_TTlen hc
  refine va_zald B.1 B.2.1 B.2.2.2.2.2.2.2.1.1 hR c 4 he rfl (pz_in hi0 hi1 hl) hd ?_
  rw [pz_clamp hi0 (by omega)]
  exact kk p e s m args below meth c0 B n0 H locs ls h1 h2 hR hS hL
theorem go_lald {z i : Int} {len : Nat} (c : Nat) (hz : z = (c : Int)) (hd : decode mt.2.1 pc = .ok (.laload, 1)) (hc : zTT[c]? = some (.inr (2, len))) (hn : c < n) (hi0 : 0 ≤ i) (hi1 : i < (len : Int)) (kk : zGo l X d mt (pc + 1) L (zl (M c i.toNat) :: S) n M out) : zGo l X d mt pc L (zi i :: zr z :: S) n M out := by
  intro p e s m args below meth c0 B n0 H locs ls h1 h2 hR hS hL
  subst hz
  rw [List.map_cons, List.map_cons, pz_val_c X hc]
  have he := pz_ws_get X M hn
  rw [pz_cell_a X M hc] at he
  have hl := pz_TTlen hc
  refine va_lald B.1 B.2.1 B.2.2.2.2.2.2.2.1.1 hR c 2 he rfl (pz_in hi0 hi1 hl) hd ?_
  rw [pz_clamp hi0 (by omega)]
  exact kk p e s m args below meth c0 B n0 H locs ls h1 h2 hR hS hL
theorem go_aald {z i : Int} {len : Nat} (c : Nat) (hz : z = (c : Int)) (hd : decode mt.2.1 pc = .ok (.aaload, 1)) (hc : zTT[c]? = some (.inr (3, len))) (hn : c < n) (hi0 : 0 ≤ i) (hi1 : i < (len : Int)) (kk : zGo l X d mt (pc + 1) L (zr (M c i.toNat) :: S) n M out) : zGo l X d mt pc L (zi i :: zr z :: S) n M out := by
  intro p e s m args below meth c0 B n0 H locs ls h1 h2 hR hS hL
  subst hz
  rw [List.map_cons, List.map_cons, pz_val_c X hc]
  have he := pz_ws_get X M hn
  rw [pz_cell_a X M hc] at he
  have hl := pz_TTlen hc
  refine va_aldq B.1 B.2.1 B.2.2.2.2.2.2.2.1.1 hR c 3 he rfl (pz_in hi0 hi1 hl) hd ?_
  rw [pz_clamp hi0 (by omega)]
  have h := kk p e s m args below meth c0 B n0 H locs ls h1 h2 hR hS hL
  have e1 : va_rf (if M c i.toNat < 0 then none else some (pz_adr X (M c i.toNat))) = pz_val X (zr (M c i.toNat)) := by
    show _ = (if M c i.toNat < 0 then Value.null else .ref (pz_adr X (M c i.toNat)))
    by_cases h9 : M c i.toNat < 0
    · rw [if_pos h9, if_pos h9]; rfl
    · rw [if_neg h9, if_neg h9]; rfl
  rw [e1]
  exact h
theorem go_iast {z i v : Int} {len : Nat} (c : Nat) (hz : z = (c : Int)) (hd : decode mt.2.1 pc = .ok (.iastore, 1)) (hc : zTT[c]? = some (.inr (0, len))) (hn : c < n) (hi0 : 0 ≤ i) (hi1 : i < (len : Int)) (kk : zGo l X d mt (pc + 1) L S n (zset M c i.toNat v) out) : zGo l X d mt pc L (zi v :: zi i :: zr z :: S) n M out := by
  intro p e s m args below meth c0 B n0 H locs ls h1 h2 hR hS hL
  subst hz
  rw [List.map_cons, List.map_cons, List.map_cons, pz_val_c X hc]
  have he := pz_ws_get X M hn
  rw [pz_cell_a X M hc] at he
  have hl := pz_TTlen hc
  refine va_iast B.1 B.2.1 B.2.2.2.2.2.2.2.1.1 hR (pz_D X n M) hS c 0 he rfl (pz_in hi0 hi1 hl) hd (fun H1 locs1 hP1 hD1 hS1 => ?_)
  rw [pz_clamp hi0 (by omega), pz_ws_set X hn (M' := zset M c i.toNat v) (fun a ha => zset_ne M ha) (by
    rw [pz_cell_a X _ hc, zset_row]
    show _ = Sum.inl (X.2.2.1 0, len, Sum.inl (fun k => Int32.ofInt (if k = i.toNat then v else M c k)))
    congr 4
    funext k
    unfold upd
    split <;> rfl)] at hP1
  exact kk p e s m args below meth c0 B n0 H1 locs1 ls h1 h2 hP1 hS1 hL
theorem go_last {z i v : Int} {len : Nat} (c : Nat) (hz : z = (c : Int)) (hd : decode mt.2.1 pc = .ok (.lastore, 1)) (hc : zTT[c]? = some (.inr (2, len))) (hn : c < n) (hi0 : 0 ≤ i) (hi1 : i < (len : Int)) (kk : zGo l X d mt (pc + 1) L S n (zset M c i.toNat v) out) : zGo l X d mt pc L (zl v :: zi i :: zr z :: S) n M out := by
  intro p e s m args below meth c0 B n0 H locs ls h1 h2 hR hS hL
  subst hz
  rw [List.map_cons, List.map_cons, List.map_cons, pz_val_c X hc]
  have he := pz_ws_get X M hn
  rw [pz_cell_a X M hc] at he
  have hl := pz_TTlen hc
  refine va_last B.1 B.2.1 B.2.2.2.2.2.2.2.1.1 hR (pz_D X n M) hS c 2 he rfl (pz_in hi0 hi1 hl) hd (fun H1 locs1 hP1 hD1 hS1 => ?_)
  rw [pz_clamp hi0 (by omega), pz_ws_set X hn (M' := zset M c i.toNat v) (fun a ha => zset_ne M ha) (by
    rw [pz_cell_a X _ hc, zset_row]
    show _ = Sum.inl (X.2.2.1 2, len, Sum.inr (Sum.inl (fun k => Int64.ofInt (if k = i.toNat then v else M c k))))
    congr 5
    funext k
    unfold vp_updL
    split <;> rfl)] at hP1
  exact kk p e s m args below meth c0 B n0 H1 locs1 ls h1 h2 hP1 hS1 hL
end ZF
