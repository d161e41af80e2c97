/-! Math.abs, max, min: the library's own rows -/
section ZMath
variable {l : Launch} {X : ZX} {d : Nat} {mt : ZT} {pc : Nat} {L : List (Option ZV)} {S : List ZV} {n : Nat} {M : ZM} {out : ZO}
theorem pz_room13 (X : ZX) {d : Nat} {S : List ZV} (hd : 1 ≤ d) (hs : pz_cats S ≤ 8) : ((S.map (pz_val X)).map fun v => v.category).sum + 13 ≤ 60 * d := by
  rw [pz_cats_ok]
  omega
theorem go_mabs {idx : Nat} {a : Int} (hd : decode mt.2.1 pc = .ok (.invokestatic idx, 3)) (hlk : Cond.methodLink mt.1 idx yJ9_abs_0f7a4 ∈ lwg) (hdd : 1 ≤ d) (hrs : pz_cats S ≤ 8) (kk : zGo l X d mt (pc + 3) L (zi (if 0 ≤ w32 a then a else -a) :: S) n M out) : zGo l X d mt pc L (zi a :: S) n M out := by
  intro p e s m args below meth c0 B n0 H locs ls h1 h2 hR hS hL
  have hts := B.2.2.2.2.2.2.1
  have hsl := pz_slots h1 (Nat.le_refl n) h2.1
  rw [Nat.sub_self, Nat.sub_self, Nat.add_zero, Nat.add_zero] at hsl
  refine va_mabs B.1 B.2.1 (by rw [B.2.2.2.2.1]; exact hL.1.symm) B.2.2.2.2.2.1 (hts _ hlk) (hts _ st_J9_abs_0f7a4) (hts _ nk_J9) (hts _ cd_J9_abs_0f7a4) hdd (pz_room13 X hdd hrs) hsl.1 hsl.2 hd ?_
  have h := kk p e s m args below meth c0 B n0 H locs ls h1 h2 hR hS hL
  have e1 : (if 0 ≤ Int32.ofInt a then Int32.ofInt a else 0 - Int32.ofInt a) = Int32.ofInt (if 0 ≤ w32 a then a else -a) := by
    by_cases h9 : 0 ≤ w32 a
    · rw [if_pos h9, if_pos ((pz_ge0 a).mpr h9)]
    · rw [if_neg h9, if_neg (fun h8 => h9 ((pz_ge0 a).mp h8)), Int32.ofInt_neg, Int32.zero_sub]
  rw [e1]
  exact h
theorem go_mmax {idx : Nat} {a b : Int} (hd : decode mt.2.1 pc = .ok (.invokestatic idx, 3)) (hlk : Cond.methodLink mt.1 idx yJ9_max_7cf53 ∈ lwg) (hdd : 1 ≤ d) (hrs : pz_cats S ≤ 8) (kk : zGo l X d mt (pc + 3) L (zi (if w32 a < w32 b then b else a) :: S) n M out) : zGo l X d mt pc L (zi b :: zi a :: S) n M out := by
  intro p e s m args below meth c0 B n0 H locs ls h1 h2 hR hS hL
  have hts := B.2.2.2.2.2.2.1
  have hsl := pz_slots h1 (Nat.le_refl n) h2.1
  rw [Nat.sub_self, Nat.sub_self, Nat.add_zero, Nat.add_zero] at hsl
  refine va_mmax B.1 B.2.1 (by rw [B.2.2.2.2.1]; exact hL.1.symm) B.2.2.2.2.2.1 (hts _ hlk) (hts _ st_J9_max_7cf53) (hts _ nk_J9) (hts _ cd_J9_max_7cf53) hdd (pz_room13 X hdd hrs) hsl.1 hsl.2 hd ?_
  have h := kk p e s m args below meth c0 B n0 H locs ls h1 h2 hR hS hL
  have e1 : (if Int32.ofInt a < Int32.ofInt b then Int32.ofInt b else Int32.ofInt a) = Int32.ofInt (if w32 a < w32 b then b else a) := by
    by_cases h9 : w32 a < w32 b
    · rw [if_pos h9, if_pos ((pz_lt2 a b).mpr h9)]
    · rw [if_neg h9, if_neg (fun h8 => h9 ((pz_lt2 a b).mp h8))]
  rw [e1]
  exact h
theorem go_mmin {idx : Nat} {a b : Int} (hd : decode mt.2.1 pc = .ok (.invokestatic idx, 3)) (hlk : Cond.methodLink mt.1 idx yJ9_min_7cf53 ∈ lwg) (hdd : 1 ≤ d) (hrs : pz_cats S ≤ 8) (kk : zGo l X d mt (pc + 3) L (zi (if w32 b < w32 a then b else a) :: S) n M out) : zGo l X d mt pc L (zi b :: zi a :: S) n M out := by
  intro p e s m args below meth c0 B n0 H locs ls h1 h2 hR hS hL
  have hts := B.2.2.2.2.2.2.1
  have hsl := pz_slots h1 (Nat.le_refl n) h2.1
  rw [Nat.sub_self, Nat.sub_self, Nat.add_zero, Nat.add_zero] at hsl
  refine va_mmin B.1 B.2.1 (by rw [B.2.2.2.2.1]; exact hL.1.symm) B.2.2.2.2.2.1 (hts _ hlk) (hts _ st_J9_min_7cf53) (hts _ nk_J9) (hts _ cd_J9_min_7cf53) hdd (pz_room13 X hdd hrs) hsl.1 hsl.2 hd ?_
  have h := kk p e s m args below meth c0 B n0 H locs ls h1 h2 hR hS hL
  have e1 : (if Int32.ofInt b < Int32.ofInt a then Int32.ofInt b else Int32.ofInt a) = Int32.ofInt (if w32 b < w32 a then b else a) := by
    by_cases h9 : w32 b < w32 a
    · rw [if_pos h9, if_pos ((pz_lt2 b a).mpr h9)]
    · rw [if_neg h9, if_neg (fun h8 => h9 ((pz_lt2 b a).mp h8))]
  rw [e1]
  exact h
end ZMath
section ZMath2
variable {l : Launch} {X : ZX} {d : Nat} {mt : ZT} {pc : Nat} {L : List (Option ZV)} {S : List ZV} {M : ZM} {Q : Option ZV → ZM → Prop}
theorem p_mabs {idx : Nat} {a : Int} (q : Nat) (hd : decode mt.2.1 pc = .ok (.invokestatic idx, 3)) (hlk : Cond.methodLink mt.1 idx yJ9_abs_0f7a4 ∈ lwg) (hdd : 1 ≤ d) (hrs : pz_cats S ≤ 8) (ha1 : -2147483648 ≤ a) (ha2 : a < 2147483648) (kk : zP l X d mt q L (zi (if 0 ≤ a then a else -a) :: S) M Q) (hq : pc + 3 = q := by rfl) : zP l X d mt pc L (zi a :: S) M Q := by
  subst hq
  obtain ⟨r, M9, h, g⟩ := kk
  exact ⟨r, M9, h, go_mabs hd hlk hdd hrs (by rw [w32_id ha1 ha2]; exact g)⟩
theorem p_mmax {idx : Nat} {a b : Int} (q : Nat) (hd : decode mt.2.1 pc = .ok (.invokestatic idx, 3)) (hlk : Cond.methodLink mt.1 idx yJ9_max_7cf53 ∈ lwg) (hdd : 1 ≤ d) (hrs : pz_cats S ≤ 8) (ha1 : -2147483648 ≤ a) (ha2 : a < 2147483648) (hb1 : -2147483648 ≤ b) (hb2 : b < 2147483648) (kk : zP l X d mt q L (zi (if a < b then b else a) :: S) M Q) (hq : pc + 3 = q := by rfl) : zP l X d mt pc L (zi b :: zi a :: S) M Q := by
  subst hq
  obtain ⟨r, M9, h, g⟩ := kk
  exact ⟨r, M9, h, go_mmax hd hlk hdd hrs (by rw [w32_id ha1 ha2, w32_id hb1 hb2]; exact g)⟩
theorem p_mmin {idx : Nat} {a b : Int} (q : Nat) (hd : decode mt.2.1 pc = .ok (.invokestatic idx, 3)) (hlk : Cond.methodLink mt.1 idx yJ9_min_7cf53 ∈ lwg) (hdd : 1 ≤ d) (hrs : pz_cats S ≤ 8) (ha1 : -2147483648 ≤ a) (ha2 : a < 2147483648) (hb1 : -2147483648 ≤ b) (hb2 : b < 2147483648) (kk : zP l X d mt q L (zi (if b < a then b else a) :: S) M Q) (hq : pc + 3 = q := by rfl) : zP l X d mt pc L (zi b :: zi a :: S) M Q := by
  subst hq
  obtain ⟨r, M9, h, g⟩ := kk
  exact ⟨r, M9, h, go_mmin hd hlk hdd hrs (by rw [w32_id ha1 ha2, w32_id hb1 hb2]; exact g)⟩
end ZMath2
