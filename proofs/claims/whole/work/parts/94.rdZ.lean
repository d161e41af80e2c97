/-! THE READER, the model's: a line -/
theorem q_begs {t : Nat → Int} {n p : Nat} {ρ : Nat → Int} {b cnt room : Int} {N M : ZM} (hb : b = 0 ∧ room ≤ cnt ∨ b = 1 ∧ cnt < room) (hz : ρ 0 = 0 → cnt < room) (h : MX t n (if b = 0 then .inl (5, (q_at t n p : Int)) else if ρ 0 = 0 then .inl (6, (q_at t n p : Int)) else .inr (q_en t n p, ρ)) N M) : (∃ e, (∀ f, q_beg t n p ρ cnt room f = .inl e) ∧ MF e N M) ∨ (cnt < room ∧ (∀ f, q_beg t n p ρ cnt room f = f (q_en t n p)) ∧ MS t n (q_en t n p) ρ N M) := by
  rcases hb with ⟨rfl, hc⟩ | ⟨rfl, hc⟩
  · rw [if_pos rfl] at h
    have h0 : ¬ ρ 0 = 0 := fun g => by have := hz g; omega
    exact Or.inl ⟨_, fun f => by unfold q_beg; rw [if_neg h0, if_pos hc], h⟩
  · rw [if_neg (by decide)] at h
    by_cases h0 : ρ 0 = 0
    · rw [if_pos h0] at h
      exact Or.inl ⟨_, fun f => by unfold q_beg; rw [if_pos h0], h⟩
    · rw [if_neg h0] at h
      exact Or.inr ⟨hc, fun f => by unfold q_beg; rw [if_neg h0, if_neg (by omega)], h⟩
theorem MX.eq {t : Nat → Int} {n : Nat} {r r' : PR} {N M : ZM} (h : MX t n r N M) (e : r' = r) : MX t n r' N M := by rw [e]; exact h
theorem l_rl208 {l : Launch} {X : ZX} {M : ZM} {t : Nat → Int} {n p : Nat} {ρ : Nat → Int} {N : ZM} (hn : n ≤ 900) (ht : ∀ i, i < n → 0 ≤ t i ∧ t i < 256) (hp : p ≤ n) (hS : MS t n p ρ N M) (hP : PI ρ) (hn0 : ¬ q_is t n p 0 = true) (hn3 : ¬ q_is t n p 3 = true) (hn4 : ¬ q_is t n p 4 = true) (hn5 : ¬ q_is t n p 5 = true) (hn6 : ¬ q_is t n p 6 = true) (hn7 : ¬ q_is t n p 7 = true) (hn8 : ¬ q_is t n p 8 = true) : zP l X 10 tX12_readLine 208 [some (zr 124)] [] M (fun r M' => r = none ∧ MX t n (q_line t n p ρ) N M') := by
  obtain ⟨hB, hT, hf0, hr, hfa, hfk⟩ := id hS
  obtain ⟨t4, t5, t6, t8, t7⟩ := id hT
  have hal := q_at_le t hp
  have hel := q_en_le t hp
  have htk := q_tk_cases t n p
  have hnn : nn ρ := hP.1.1
  have bR := hP.1.2.1
  have h0b := hnn 0 (by decide)
  refine p_aload_n 209 dX12_readLine_208 rfl rfl (by decide) ?_
  refine p_iconst 210 dX12_readLine_209 ?_
  refine p_aload_n 211 dX12_readLine_210 rfl rfl (by decide) ?_
  refine p_getI 124 214 dX12_readLine_211 fX12_72 rfl ?_
  rw [t4]
  refine p_callV2v 124 217 dX12_readLine_214 (s_wrongS hn hp hS) lk_X12_118 mX12_wrong rfl rfl (by decide) (Nat.le_of_ble_eq_true rfl) ?_
  intro M9 hF9
  refine p_vret dX12_readLine_217 rfl ?_
  exact ⟨rfl, MX.l (by unfold q_line; rw [if_neg hn0, if_neg hn3, if_neg hn4, if_neg hn5, if_neg hn6, if_neg hn7, if_neg hn8]) hF9⟩
theorem l_rl176 {l : Launch} {X : ZX} {M : ZM} {t : Nat → Int} {n p : Nat} {ρ : Nat → Int} {N : ZM} (hn : n ≤ 900) (ht : ∀ i, i < n → 0 ≤ t i ∧ t i < 256) (hp : p ≤ n) (hS : MS t n p ρ N M) (hP : PI ρ) (hn0 : ¬ q_is t n p 0 = true) (hn3 : ¬ q_is t n p 3 = true) (hn4 : ¬ q_is t n p 4 = true) (hn5 : ¬ q_is t n p 5 = true) (hn6 : ¬ q_is t n p 6 = true) (hn7 : ¬ q_is t n p 7 = true) : zP l X 10 tX12_readLine 176 [some (zr 124)] [] M (fun r M' => r = none ∧ MX t n (q_line t n p ρ) N M') := by
  obtain ⟨hB, hT, hf0, hr, hfa, hfk⟩ := id hS
  obtain ⟨t4, t5, t6, t8, t7⟩ := id hT
  have hal := q_at_le t hp
  have hel := q_en_le t hp
  have htk := q_tk_cases t n p
  have hnn : nn ρ := hP.1.1
  have bR := hP.1.2.1
  have h0b := hnn 0 (by decide)
  have e9c := hnn 7 (by decide)
  have hbg : ∀ b9 : Int, b9 = 0 ∧ 5 ≤ ρ 7 ∨ b9 = 1 ∧ ρ 7 < 5 → zP l X 10 tX12_readLine 195 [some (zr 124)] [zi b9, zr (1000 + ((31 : Nat) : Int)), zr 124] M (fun r M' => r = none ∧ MX t n (q_line t n p ρ) N M') := by
    intro b9 hb9
    refine p_callV2i 124 198 dX12_readLine_195 (s_beginsM hn ht hp hS (i := 8) (k := 31) rfl (by decide) rfl (by omega) (b := b9) (by omega)) lk_X12_190 mX12_begins rfl rfl (by decide) (Nat.le_of_ble_eq_true rfl) ?_
    intro a9 M9 hd
    rcases hd with ⟨hno, ea, em⟩ | ⟨hy, ea, hX⟩
    · subst ea
      have em := em.symm
      subst em
      refine p_if_eq 208 201 dX12_readLine_198 (by decide) (by decide) (fun h198 => ?_) (fun h198 => absurd (h198 rfl) (fun h9 : False => h9))
      exact l_rl208 hn ht hp hS hP hn0 hn3 hn4 hn5 hn6 hn7 hno
    · subst ea
      rcases q_begs hb9 (fun g => by have := hP.2.2.2.2.2.1 g; omega) hX with ⟨e9, hbe, hF9⟩ | ⟨hlt, hbe, hS9⟩
      · refine p_if_eq 208 201 dX12_readLine_198 (by decide) (by decide) (fun h198 => absurd (absurd h198 (by decide)) (fun h9 : False => h9)) (fun h198 => ?_)
        refine p_aload_n 202 dX12_readLine_201 rfl rfl (by decide) ?_
        refine p_callV0v 124 205 dX12_readLine_202 (s_seenLineF hF9) lk_X12_209 mX12_seenLine rfl rfl (by decide) (Nat.le_of_ble_eq_true rfl) ?_
        intro M8 e8
        have e8 := e8.symm
        subst e8
        refine p_goto 217 dX12_readLine_205 ?_
        refine p_vret dX12_readLine_217 rfl ?_
        exact ⟨rfl, MX.l (by unfold q_line; rw [if_neg hn0, if_neg hn3, if_neg hn4, if_neg hn5, if_neg hn6, if_neg hn7, if_pos hy, hbe]) hF9⟩
      · refine p_if_eq 208 201 dX12_readLine_198 (by decide) (by decide) (fun h198 => absurd (absurd h198 (by decide)) (fun h9 : False => h9)) (fun h198 => ?_)
        refine p_aload_n 202 dX12_readLine_201 rfl rfl (by decide) ?_
        refine p_callV0v 124 205 dX12_readLine_202 (s_seenLineS hn ht (q_en_n t hp) hS9 hP hlt) lk_X12_209 mX12_seenLine rfl rfl (by decide) (Nat.le_of_ble_eq_true rfl) ?_
        intro M8 hX8
        refine p_goto 217 dX12_readLine_205 ?_
        refine p_vret dX12_readLine_217 rfl ?_
        exact ⟨rfl, hX8.eq (by unfold q_line; rw [if_neg hn0, if_neg hn3, if_neg hn4, if_neg hn5, if_neg hn6, if_neg hn7, if_pos hy, hbe])⟩
      skip
  refine p_aload_n 177 dX12_readLine_176 rfl rfl (by decide) ?_
  refine p_ldcS 31 179 dX12_readLine_177 rfl ?_
  refine p_aload_n 180 dX12_readLine_179 rfl rfl (by decide) ?_
  refine p_getR 124 183 dX12_readLine_180 fX12_23 rfl (hB.1 (124, 16, 128) (by decide)) ?_
  refine p_bipush 185 dX12_readLine_183 rfl ?_
  refine p_ialdn 128 186 (7) dX12_readLine_185 rfl (by omega) (by omega) ?_
  rw [hr 7 (by decide)]
  refine p_iconst 187 dX12_readLine_186 ?_
  refine p_icmp_ge 194 190 dX12_readLine_187 (by omega) (by omega) (by omega) (by omega) (fun h187 => ?_) (fun h187 => ?_)
  · refine p_iconst 195 dX12_readLine_194 ?_
    exact hbg _ (by omega)
  · refine p_iconst 191 dX12_readLine_190 ?_
    refine p_goto 195 dX12_readLine_191 ?_
    exact hbg _ (by omega)
theorem l_rl143 {l : Launch} {X : ZX} {M : ZM} {t : Nat → Int} {n p : Nat} {ρ : Nat → Int} {N : ZM} (hn : n ≤ 900) (ht : ∀ i, i < n → 0 ≤ t i ∧ t i < 256) (hp : p ≤ n) (hS : MS t n p ρ N M) (hP : PI ρ) (hn0 : ¬ q_is t n p 0 = true) (hn3 : ¬ q_is t n p 3 = true) (hn4 : ¬ q_is t n p 4 = true) (hn5 : ¬ q_is t n p 5 = true) (hn6 : ¬ q_is t n p 6 = true) : zP l X 10 tX12_readLine 143 [some (zr 124)] [] M (fun r M' => r = none ∧ MX t n (q_line t n p ρ) N M') := by
  obtain ⟨hB, hT, hf0, hr, hfa, hfk⟩ := id hS
  obtain ⟨t4, t5, t6, t8, t7⟩ := id hT
  have hal := q_at_le t hp
  have hel := q_en_le t hp
  have htk := q_tk_cases t n p
  have hnn : nn ρ := hP.1.1
  have bR := hP.1.2.1
  have h0b := hnn 0 (by decide)
  have e9c := hnn 6 (by decide)
  have hbg : ∀ b9 : Int, b9 = 0 ∧ 6 ≤ ρ 6 ∨ b9 = 1 ∧ ρ 6 < 6 → zP l X 10 tX12_readLine 163 [some (zr 124)] [zi b9, zr (1000 + ((30 : Nat) : Int)), zr 124] M (fun r M' => r = none ∧ MX t n (q_line t n p ρ) N M') := by
    intro b9 hb9
    refine p_callV2i 124 166 dX12_readLine_163 (s_beginsM hn ht hp hS (i := 7) (k := 30) rfl (by decide) rfl (by omega) (b := b9) (by omega)) lk_X12_190 mX12_begins rfl rfl (by decide) (Nat.le_of_ble_eq_true rfl) ?_
    intro a9 M9 hd
    rcases hd with ⟨hno, ea, em⟩ | ⟨hy, ea, hX⟩
    · subst ea
      have em := em.symm
      subst em
      refine p_if_eq 176 169 dX12_readLine_166 (by decide) (by decide) (fun h166 => ?_) (fun h166 => absurd (h166 rfl) (fun h9 : False => h9))
      exact l_rl176 hn ht hp hS hP hn0 hn3 hn4 hn5 hn6 hno
    · subst ea
      rcases q_begs hb9 (fun g => by have := hP.2.2.2.2.2.1 g; omega) hX with ⟨e9, hbe, hF9⟩ | ⟨hlt, hbe, hS9⟩
      · refine p_if_eq 176 169 dX12_readLine_166 (by decide) (by decide) (fun h166 => absurd (absurd h166 (by decide)) (fun h9 : False => h9)) (fun h166 => ?_)
        refine p_aload_n 170 dX12_readLine_169 rfl rfl (by decide) ?_
        refine p_callV0v 124 173 dX12_readLine_170 (s_orderLineF hF9) lk_X12_206 mX12_orderLine rfl rfl (by decide) (Nat.le_of_ble_eq_true rfl) ?_
        intro M8 e8
        have e8 := e8.symm
        subst e8
        refine p_goto 217 dX12_readLine_173 ?_
        refine p_vret dX12_readLine_217 rfl ?_
        exact ⟨rfl, MX.l (by unfold q_line; rw [if_neg hn0, if_neg hn3, if_neg hn4, if_neg hn5, if_neg hn6, if_pos hy, hbe]) hF9⟩
      · refine p_if_eq 176 169 dX12_readLine_166 (by decide) (by decide) (fun h166 => absurd (absurd h166 (by decide)) (fun h9 : False => h9)) (fun h166 => ?_)
        refine p_aload_n 170 dX12_readLine_169 rfl rfl (by decide) ?_
        refine p_callV0v 124 173 dX12_readLine_170 (s_orderLineS hn ht (q_en_n t hp) hS9 hP hlt) lk_X12_206 mX12_orderLine rfl rfl (by decide) (Nat.le_of_ble_eq_true rfl) ?_
        intro M8 hX8
        refine p_goto 217 dX12_readLine_173 ?_
        refine p_vret dX12_readLine_217 rfl ?_
        exact ⟨rfl, hX8.eq (by unfold q_line; rw [if_neg hn0, if_neg hn3, if_neg hn4, if_neg hn5, if_neg hn6, if_pos hy, hbe])⟩
      skip
  refine p_aload_n 144 dX12_readLine_143 rfl rfl (by decide) ?_
  refine p_ldcS 30 146 dX12_readLine_144 rfl ?_
  refine p_aload_n 147 dX12_readLine_146 rfl rfl (by decide) ?_
  refine p_getR 124 150 dX12_readLine_147 fX12_23 rfl (hB.1 (124, 16, 128) (by decide)) ?_
  refine p_bipush 152 dX12_readLine_150 rfl ?_
  refine p_ialdn 128 153 (6) dX12_readLine_152 rfl (by omega) (by omega) ?_
  rw [hr 6 (by decide)]
  refine p_bipush 155 dX12_readLine_153 rfl ?_
  refine p_icmp_ge 162 158 dX12_readLine_155 (by omega) (by omega) (by omega) (by omega) (fun h155 => ?_) (fun h155 => ?_)
  · refine p_iconst 163 dX12_readLine_162 ?_
    exact hbg _ (by omega)
  · refine p_iconst 159 dX12_readLine_158 ?_
    refine p_goto 163 dX12_readLine_159 ?_
    exact hbg _ (by omega)
theorem l_rl111 {l : Launch} {X : ZX} {M : ZM} {t : Nat → Int} {n p : Nat} {ρ : Nat → Int} {N : ZM} (hn : n ≤ 900) (ht : ∀ i, i < n → 0 ≤ t i ∧ t i < 256) (hp : p ≤ n) (hS : MS t n p ρ N M) (hP : PI ρ) (hn0 : ¬ q_is t n p 0 = true) (hn3 : ¬ q_is t n p 3 = true) (hn4 : ¬ q_is t n p 4 = true) (hn5 : ¬ q_is t n p 5 = true) : zP l X 10 tX12_readLine 111 [some (zr 124)] [] M (fun r M' => r = none ∧ MX t n (q_line t n p ρ) N M') := by
  obtain ⟨hB, hT, hf0, hr, hfa, hfk⟩ := id hS
  obtain ⟨t4, t5, t6, t8, t7⟩ := id hT
  have hal := q_at_le t hp
  have hel := q_en_le t hp
  have htk := q_tk_cases t n p
  have hnn : nn ρ := hP.1.1
  have bR := hP.1.2.1
  have h0b := hnn 0 (by decide)
  have e9c := hnn 5 (by decide)
  have hbg : ∀ b9 : Int, b9 = 0 ∧ 8 ≤ ρ 5 ∨ b9 = 1 ∧ ρ 5 < 8 → zP l X 10 tX12_readLine 130 [some (zr 124)] [zi b9, zr (1000 + ((29 : Nat) : Int)), zr 124] M (fun r M' => r = none ∧ MX t n (q_line t n p ρ) N M') := by
    intro b9 hb9
    refine p_callV2i 124 133 dX12_readLine_130 (s_beginsM hn ht hp hS (i := 6) (k := 29) rfl (by decide) rfl (by omega) (b := b9) (by omega)) lk_X12_190 mX12_begins rfl rfl (by decide) (Nat.le_of_ble_eq_true rfl) ?_
    intro a9 M9 hd
    rcases hd with ⟨hno, ea, em⟩ | ⟨hy, ea, hX⟩
    · subst ea
      have em := em.symm
      subst em
      refine p_if_eq 143 136 dX12_readLine_133 (by decide) (by decide) (fun h133 => ?_) (fun h133 => absurd (h133 rfl) (fun h9 : False => h9))
      exact l_rl143 hn ht hp hS hP hn0 hn3 hn4 hn5 hno
    · subst ea
      rcases q_begs hb9 (fun g => by have := hP.2.2.2.2.2.1 g; omega) hX with ⟨e9, hbe, hF9⟩ | ⟨hlt, hbe, hS9⟩
      · refine p_if_eq 143 136 dX12_readLine_133 (by decide) (by decide) (fun h133 => absurd (absurd h133 (by decide)) (fun h9 : False => h9)) (fun h133 => ?_)
        refine p_aload_n 137 dX12_readLine_136 rfl rfl (by decide) ?_
        refine p_callV0v 124 140 dX12_readLine_137 (s_beforeLineF hF9) lk_X12_203 mX12_beforeLine rfl rfl (by decide) (Nat.le_of_ble_eq_true rfl) ?_
        intro M8 e8
        have e8 := e8.symm
        subst e8
        refine p_goto 217 dX12_readLine_140 ?_
        refine p_vret dX12_readLine_217 rfl ?_
        exact ⟨rfl, MX.l (by unfold q_line; rw [if_neg hn0, if_neg hn3, if_neg hn4, if_neg hn5, if_pos hy, hbe]) hF9⟩
      · refine p_if_eq 143 136 dX12_readLine_133 (by decide) (by decide) (fun h133 => absurd (absurd h133 (by decide)) (fun h9 : False => h9)) (fun h133 => ?_)
        refine p_aload_n 137 dX12_readLine_136 rfl rfl (by decide) ?_
        refine p_callV0v 124 140 dX12_readLine_137 (s_beforeLineS hn ht (q_en_n t hp) hS9 hP) lk_X12_203 mX12_beforeLine rfl rfl (by decide) (Nat.le_of_ble_eq_true rfl) ?_
        intro M8 hX8
        refine p_goto 217 dX12_readLine_140 ?_
        refine p_vret dX12_readLine_217 rfl ?_
        exact ⟨rfl, hX8.eq (by unfold q_line; rw [if_neg hn0, if_neg hn3, if_neg hn4, if_neg hn5, if_pos hy, hbe])⟩
      skip
  refine p_aload_n 112 dX12_readLine_111 rfl rfl (by decide) ?_
  refine p_ldcS 29 114 dX12_readLine_112 rfl ?_
  refine p_aload_n 115 dX12_readLine_114 rfl rfl (by decide) ?_
  refine p_getR 124 118 dX12_readLine_115 fX12_23 rfl (hB.1 (124, 16, 128) (by decide)) ?_
  refine p_iconst 119 dX12_readLine_118 ?_
  refine p_ialdn 128 120 (5) dX12_readLine_119 rfl (by omega) (by omega) ?_
  rw [hr 5 (by decide)]
  refine p_bipush 122 dX12_readLine_120 rfl ?_
  refine p_icmp_ge 129 125 dX12_readLine_122 (by omega) (by omega) (by omega) (by omega) (fun h122 => ?_) (fun h122 => ?_)
  · refine p_iconst 130 dX12_readLine_129 ?_
    exact hbg _ (by omega)
  · refine p_iconst 126 dX12_readLine_125 ?_
    refine p_goto 130 dX12_readLine_126 ?_
    exact hbg _ (by omega)
theorem l_rl79 {l : Launch} {X : ZX} {M : ZM} {t : Nat → Int} {n p : Nat} {ρ : Nat → Int} {N : ZM} (hn : n ≤ 900) (ht : ∀ i, i < n → 0 ≤ t i ∧ t i < 256) (hp : p ≤ n) (hS : MS t n p ρ N M) (hP : PI ρ) (hn0 : ¬ q_is t n p 0 = true) (hn3 : ¬ q_is t n p 3 = true) (hn4 : ¬ q_is t n p 4 = true) : zP l X 10 tX12_readLine 79 [some (zr 124)] [] M (fun r M' => r = none ∧ MX t n (q_line t n p ρ) N M') := by
  obtain ⟨hB, hT, hf0, hr, hfa, hfk⟩ := id hS
  obtain ⟨t4, t5, t6, t8, t7⟩ := id hT
  have hal := q_at_le t hp
  have hel := q_en_le t hp
  have htk := q_tk_cases t n p
  have hnn : nn ρ := hP.1.1
  have bR := hP.1.2.1
  have h0b := hnn 0 (by decide)
  have e9c := hnn 4 (by decide)
  have hbg : ∀ b9 : Int, b9 = 0 ∧ 7 ≤ ρ 4 ∨ b9 = 1 ∧ ρ 4 < 7 → zP l X 10 tX12_readLine 98 [some (zr 124)] [zi b9, zr (1000 + ((28 : Nat) : Int)), zr 124] M (fun r M' => r = none ∧ MX t n (q_line t n p ρ) N M') := by
    intro b9 hb9
    refine p_callV2i 124 101 dX12_readLine_98 (s_beginsM hn ht hp hS (i := 5) (k := 28) rfl (by decide) rfl (by omega) (b := b9) (by omega)) lk_X12_190 mX12_begins rfl rfl (by decide) (Nat.le_of_ble_eq_true rfl) ?_
    intro a9 M9 hd
    rcases hd with ⟨hno, ea, em⟩ | ⟨hy, ea, hX⟩
    · subst ea
      have em := em.symm
      subst em
      refine p_if_eq 111 104 dX12_readLine_101 (by decide) (by decide) (fun h101 => ?_) (fun h101 => absurd (h101 rfl) (fun h9 : False => h9))
      exact l_rl111 hn ht hp hS hP hn0 hn3 hn4 hno
    · subst ea
      rcases q_begs hb9 (fun g => by have := hP.2.2.2.2.2.1 g; omega) hX with ⟨e9, hbe, hF9⟩ | ⟨hlt, hbe, hS9⟩
      · refine p_if_eq 111 104 dX12_readLine_101 (by decide) (by decide) (fun h101 => absurd (absurd h101 (by decide)) (fun h9 : False => h9)) (fun h101 => ?_)
        refine p_aload_n 105 dX12_readLine_104 rfl rfl (by decide) ?_
        refine p_callV0v 124 108 dX12_readLine_105 (s_wordLineF hF9) lk_X12_200 mX12_wordLine rfl rfl (by decide) (Nat.le_of_ble_eq_true rfl) ?_
        intro M8 e8
        have e8 := e8.symm
        subst e8
        refine p_goto 217 dX12_readLine_108 ?_
        refine p_vret dX12_readLine_217 rfl ?_
        exact ⟨rfl, MX.l (by unfold q_line; rw [if_neg hn0, if_neg hn3, if_neg hn4, if_pos hy, hbe]) hF9⟩
      · refine p_if_eq 111 104 dX12_readLine_101 (by decide) (by decide) (fun h101 => absurd (absurd h101 (by decide)) (fun h9 : False => h9)) (fun h101 => ?_)
        refine p_aload_n 105 dX12_readLine_104 rfl rfl (by decide) ?_
        refine p_callV0v 124 108 dX12_readLine_105 (s_wordLineS hn ht (q_en_n t hp) hS9 hP hlt) lk_X12_200 mX12_wordLine rfl rfl (by decide) (Nat.le_of_ble_eq_true rfl) ?_
        intro M8 hX8
        refine p_goto 217 dX12_readLine_108 ?_
        refine p_vret dX12_readLine_217 rfl ?_
        exact ⟨rfl, hX8.eq (by unfold q_line; rw [if_neg hn0, if_neg hn3, if_neg hn4, if_pos hy, hbe])⟩
      skip
  refine p_aload_n 80 dX12_readLine_79 rfl rfl (by decide) ?_
  refine p_ldcS 28 82 dX12_readLine_80 rfl ?_
  refine p_aload_n 83 dX12_readLine_82 rfl rfl (by decide) ?_
  refine p_getR 124 86 dX12_readLine_83 fX12_23 rfl (hB.1 (124, 16, 128) (by decide)) ?_
  refine p_iconst 87 dX12_readLine_86 ?_
  refine p_ialdn 128 88 (4) dX12_readLine_87 rfl (by omega) (by omega) ?_
  rw [hr 4 (by decide)]
  refine p_bipush 90 dX12_readLine_88 rfl ?_
  refine p_icmp_ge 97 93 dX12_readLine_90 (by omega) (by omega) (by omega) (by omega) (fun h90 => ?_) (fun h90 => ?_)
  · refine p_iconst 98 dX12_readLine_97 ?_
    exact hbg _ (by omega)
  · refine p_iconst 94 dX12_readLine_93 ?_
    refine p_goto 98 dX12_readLine_94 ?_
    exact hbg _ (by omega)
theorem l_rl48 {l : Launch} {X : ZX} {M : ZM} {t : Nat → Int} {n p : Nat} {ρ : Nat → Int} {N : ZM} (hn : n ≤ 900) (ht : ∀ i, i < n → 0 ≤ t i ∧ t i < 256) (hp : p ≤ n) (hS : MS t n p ρ N M) (hP : PI ρ) (hn0 : ¬ q_is t n p 0 = true) (hn3 : ¬ q_is t n p 3 = true) : zP l X 10 tX12_readLine 48 [some (zr 124)] [] M (fun r M' => r = none ∧ MX t n (q_line t n p ρ) N M') := by
  obtain ⟨hB, hT, hf0, hr, hfa, hfk⟩ := id hS
  obtain ⟨t4, t5, t6, t8, t7⟩ := id hT
  have hal := q_at_le t hp
  have hel := q_en_le t hp
  have htk := q_tk_cases t n p
  have hnn : nn ρ := hP.1.1
  have bR := hP.1.2.1
  have h0b := hnn 0 (by decide)
  have e9c := hnn 3 (by decide)
  have hbg : ∀ b9 : Int, b9 = 0 ∧ 3 ≤ ρ 3 ∨ b9 = 1 ∧ ρ 3 < 3 → zP l X 10 tX12_readLine 66 [some (zr 124)] [zi b9, zr (1000 + ((27 : Nat) : Int)), zr 124] M (fun r M' => r = none ∧ MX t n (q_line t n p ρ) N M') := by
    intro b9 hb9
    refine p_callV2i 124 69 dX12_readLine_66 (s_beginsM hn ht hp hS (i := 4) (k := 27) rfl (by decide) rfl (by omega) (b := b9) (by omega)) lk_X12_190 mX12_begins rfl rfl (by decide) (Nat.le_of_ble_eq_true rfl) ?_
    intro a9 M9 hd
    rcases hd with ⟨hno, ea, em⟩ | ⟨hy, ea, hX⟩
    · subst ea
      have em := em.symm
      subst em
      refine p_if_eq 79 72 dX12_readLine_69 (by decide) (by decide) (fun h69 => ?_) (fun h69 => absurd (h69 rfl) (fun h9 : False => h9))
      exact l_rl79 hn ht hp hS hP hn0 hn3 hno
    · subst ea
      rcases q_begs hb9 (fun g => by have := hP.2.2.2.2.2.1 g; omega) hX with ⟨e9, hbe, hF9⟩ | ⟨hlt, hbe, hS9⟩
      · refine p_if_eq 79 72 dX12_readLine_69 (by decide) (by decide) (fun h69 => absurd (absurd h69 (by decide)) (fun h9 : False => h9)) (fun h69 => ?_)
        refine p_aload_n 73 dX12_readLine_72 rfl rfl (by decide) ?_
        refine p_callV0v 124 76 dX12_readLine_73 (s_awakeLineF hF9) lk_X12_197 mX12_awakeLine rfl rfl (by decide) (Nat.le_of_ble_eq_true rfl) ?_
        intro M8 e8
        have e8 := e8.symm
        subst e8
        refine p_goto 217 dX12_readLine_76 ?_
        refine p_vret dX12_readLine_217 rfl ?_
        exact ⟨rfl, MX.l (by unfold q_line; rw [if_neg hn0, if_neg hn3, if_pos hy, hbe]) hF9⟩
      · refine p_if_eq 79 72 dX12_readLine_69 (by decide) (by decide) (fun h69 => absurd (absurd h69 (by decide)) (fun h9 : False => h9)) (fun h69 => ?_)
        refine p_aload_n 73 dX12_readLine_72 rfl rfl (by decide) ?_
        refine p_callV0v 124 76 dX12_readLine_73 (s_awakeLineS hn ht (q_en_n t hp) hS9 hP hlt) lk_X12_197 mX12_awakeLine rfl rfl (by decide) (Nat.le_of_ble_eq_true rfl) ?_
        intro M8 hX8
        refine p_goto 217 dX12_readLine_76 ?_
        refine p_vret dX12_readLine_217 rfl ?_
        exact ⟨rfl, hX8.eq (by unfold q_line; rw [if_neg hn0, if_neg hn3, if_pos hy, hbe])⟩
      skip
  refine p_aload_n 49 dX12_readLine_48 rfl rfl (by decide) ?_
  refine p_ldcS 27 51 dX12_readLine_49 rfl ?_
  refine p_aload_n 52 dX12_readLine_51 rfl rfl (by decide) ?_
  refine p_getR 124 55 dX12_readLine_52 fX12_23 rfl (hB.1 (124, 16, 128) (by decide)) ?_
  refine p_iconst 56 dX12_readLine_55 ?_
  refine p_ialdn 128 57 (3) dX12_readLine_56 rfl (by omega) (by omega) ?_
  rw [hr 3 (by decide)]
  refine p_iconst 58 dX12_readLine_57 ?_
  refine p_icmp_ge 65 61 dX12_readLine_58 (by omega) (by omega) (by omega) (by omega) (fun h58 => ?_) (fun h58 => ?_)
  · refine p_iconst 66 dX12_readLine_65 ?_
    exact hbg _ (by omega)
  · refine p_iconst 62 dX12_readLine_61 ?_
    refine p_goto 66 dX12_readLine_62 ?_
    exact hbg _ (by omega)
theorem l_rl16 {l : Launch} {X : ZX} {M : ZM} {t : Nat → Int} {n p : Nat} {ρ : Nat → Int} {N : ZM} (hn : n ≤ 900) (ht : ∀ i, i < n → 0 ≤ t i ∧ t i < 256) (hp : p ≤ n) (hS : MS t n p ρ N M) (hP : PI ρ) (hn0 : ¬ q_is t n p 0 = true) : zP l X 10 tX12_readLine 16 [some (zr 124)] [] M (fun r M' => r = none ∧ MX t n (q_line t n p ρ) N M') := by
  obtain ⟨hB, hT, hf0, hr, hfa, hfk⟩ := id hS
  obtain ⟨t4, t5, t6, t8, t7⟩ := id hT
  have hal := q_at_le t hp
  have hel := q_en_le t hp
  have htk := q_tk_cases t n p
  have hnn : nn ρ := hP.1.1
  have bR := hP.1.2.1
  have h0b := hnn 0 (by decide)
  have e9c := hnn 2 (by decide)
  have hbg : ∀ b9 : Int, b9 = 0 ∧ 7 ≤ ρ 2 ∨ b9 = 1 ∧ ρ 2 < 7 → zP l X 10 tX12_readLine 35 [some (zr 124)] [zi b9, zr (1000 + ((26 : Nat) : Int)), zr 124] M (fun r M' => r = none ∧ MX t n (q_line t n p ρ) N M') := by
    intro b9 hb9
    refine p_callV2i 124 38 dX12_readLine_35 (s_beginsM hn ht hp hS (i := 3) (k := 26) rfl (by decide) rfl (by omega) (b := b9) (by omega)) lk_X12_190 mX12_begins rfl rfl (by decide) (Nat.le_of_ble_eq_true rfl) ?_
    intro a9 M9 hd
    rcases hd with ⟨hno, ea, em⟩ | ⟨hy, ea, hX⟩
    · subst ea
      have em := em.symm
      subst em
      refine p_if_eq 48 41 dX12_readLine_38 (by decide) (by decide) (fun h38 => ?_) (fun h38 => absurd (h38 rfl) (fun h9 : False => h9))
      exact l_rl48 hn ht hp hS hP hn0 hno
    · subst ea
      rcases q_begs hb9 (fun g => by have := hP.2.2.2.2.2.1 g; omega) hX with ⟨e9, hbe, hF9⟩ | ⟨hlt, hbe, hS9⟩
      · refine p_if_eq 48 41 dX12_readLine_38 (by decide) (by decide) (fun h38 => absurd (absurd h38 (by decide)) (fun h9 : False => h9)) (fun h38 => ?_)
        refine p_aload_n 42 dX12_readLine_41 rfl rfl (by decide) ?_
        refine p_callV0v 124 45 dX12_readLine_42 (s_sleeperLineF hF9) lk_X12_194 mX12_sleeperLine rfl rfl (by decide) (Nat.le_of_ble_eq_true rfl) ?_
        intro M8 e8
        have e8 := e8.symm
        subst e8
        refine p_goto 217 dX12_readLine_45 ?_
        refine p_vret dX12_readLine_217 rfl ?_
        exact ⟨rfl, MX.l (by unfold q_line; rw [if_neg hn0, if_pos hy, hbe]) hF9⟩
      · refine p_if_eq 48 41 dX12_readLine_38 (by decide) (by decide) (fun h38 => absurd (absurd h38 (by decide)) (fun h9 : False => h9)) (fun h38 => ?_)
        refine p_aload_n 42 dX12_readLine_41 rfl rfl (by decide) ?_
        refine p_callV0v 124 45 dX12_readLine_42 (s_sleeperLineS hn ht (q_en_n t hp) hS9 hP hlt) lk_X12_194 mX12_sleeperLine rfl rfl (by decide) (Nat.le_of_ble_eq_true rfl) ?_
        intro M8 hX8
        refine p_goto 217 dX12_readLine_45 ?_
        refine p_vret dX12_readLine_217 rfl ?_
        exact ⟨rfl, hX8.eq (by unfold q_line; rw [if_neg hn0, if_pos hy, hbe])⟩
      skip
  refine p_aload_n 17 dX12_readLine_16 rfl rfl (by decide) ?_
  refine p_ldcS 26 19 dX12_readLine_17 rfl ?_
  refine p_aload_n 20 dX12_readLine_19 rfl rfl (by decide) ?_
  refine p_getR 124 23 dX12_readLine_20 fX12_23 rfl (hB.1 (124, 16, 128) (by decide)) ?_
  refine p_iconst 24 dX12_readLine_23 ?_
  refine p_ialdn 128 25 (2) dX12_readLine_24 rfl (by omega) (by omega) ?_
  rw [hr 2 (by decide)]
  refine p_bipush 27 dX12_readLine_25 rfl ?_
  refine p_icmp_ge 34 30 dX12_readLine_27 (by omega) (by omega) (by omega) (by omega) (fun h27 => ?_) (fun h27 => ?_)
  · refine p_iconst 35 dX12_readLine_34 ?_
    exact hbg _ (by omega)
  · refine p_iconst 31 dX12_readLine_30 ?_
    refine p_goto 35 dX12_readLine_31 ?_
    exact hbg _ (by omega)
theorem s_readLineS {l : Launch} {X : ZX} {M : ZM} {t : Nat → Int} {n p : Nat} {ρ : Nat → Int} {N : ZM} (hn : n ≤ 900) (ht : ∀ i, i < n → 0 ≤ t i ∧ t i < 256) (hp : p ≤ n) (hS : MS t n p ρ N M) (hP : PI ρ) : zCv l X 10 yX12_readLine tX12_readLine [zr 124] M (fun M' => MX t n (q_line t n p ρ) N M') := by
  obtain ⟨hB, hT, hf0, hr, hfa, hfk⟩ := id hS
  obtain ⟨t4, t5, t6, t8, t7⟩ := id hT
  have hal := q_at_le t hp
  have hel := q_en_le t hp
  have htk := q_tk_cases t n p
  have hnn : nn ρ := hP.1.1
  have bR := hP.1.2.1
  have h0b := hnn 0 (by decide)
  refine zC.of [some (zr 124)] (by decide +kernel) rfl rfl (Nat.le_of_ble_eq_true rfl) rfl ?_
  refine p_aload_n 1 dX12_readLine_0 rfl rfl (by decide) ?_
  refine p_ldcS 23 3 dX12_readLine_1 rfl ?_
  refine p_callV1i 124 6 dX12_readLine_3 (s_isWordM hn ht hp hS (i := 0) (k := 23) rfl (by decide) rfl) lk_X12_108 mX12_isWord rfl rfl (by decide) (Nat.le_of_ble_eq_true rfl) ?_
  rintro _ _ ⟨rfl, e9⟩
  have e9 := e9.symm
  subst e9
  refine p_if_eq 16 9 dX12_readLine_6 (by split <;> omega) (by split <;> omega) (fun h6 => ?_) (fun h6 => ?_)
  · have hn0 := if_eq0 h6
    exact l_rl16 hn ht hp hS hP hn0
  · have hy := if_neq0 h6
    refine p_aload_n 10 dX12_readLine_9 rfl rfl (by decide) ?_
    refine p_callV0v 124 13 dX12_readLine_10 (s_countyLineS hn ht hp hS hP) lk_X12_187 mX12_countyLine rfl rfl (by decide) (Nat.le_of_ble_eq_true rfl) ?_
    intro M8 hX8
    refine p_goto 217 dX12_readLine_13 ?_
    refine p_vret dX12_readLine_217 rfl ?_
    exact ⟨rfl, hX8.eq (by unfold q_line; rw [if_pos hy])⟩
