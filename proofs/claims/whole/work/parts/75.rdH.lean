/-! THE READER, the class's: a line -/
theorem PL.bd {t : Nat → Int} {n c : Nat} {N M : ZM} {r : PR} {x : Int} (h : PL t n c N r x M) : 0 ≤ x ∧ x ≤ 1 := by
  cases r with
  | inl e =>
    have h1 : x = 0 := h.1
    omega
  | inr q =>
    have h1 : x = 1 := h.1
    omega
theorem PL.eq {t : Nat → Int} {n c : Nat} {N M : ZM} {r r' : PR} {x : Int} (h : PL t n c N r x M) (e : r' = r) : PL t n c N r' x M := by
  rw [e]
  exact h
theorem s_takeLine {l : Launch} {X : ZX} {M : ZM} {t : Nat → Int} {n c : Nat} (hn : n ≤ 900) (ht : ∀ i, i < n → 0 ≤ t i ∧ t i < 256) (hc : isC c) {p : Nat} (hp : p ≤ n) {ρ : Nat → Int} {N : ZM} (hS : RS t n c p ρ N M) (hP : PI ρ) : zCi l X 8 yX6_takeLine tX6_takeLine [zr 48] M (fun a M' => PL t n c N (q_line t n p ρ) a M') := by
  have hR := hP.1
  have e2 : ρ 2 = (q_n ρ 2 : Int) := hR.n (by decide)
  have e3 : ρ 3 = (q_n ρ 3 : Int) := hR.n (by decide)
  have e4 : ρ 4 = (q_n ρ 4 : Int) := hR.n (by decide)
  have e5 : ρ 5 = (q_n ρ 5 : Int) := hR.n (by decide)
  have e6 : ρ 6 = (q_n ρ 6 : Int) := hR.n (by decide)
  have e7 : ρ 7 = (q_n ρ 7 : Int) := hR.n (by decide)
  have hcl := hc.lt
  have b := hR.2.1
  have hp1 := q_en_n t hp
  refine zC.of [some (zr 48)] (by decide +kernel) rfl rfl (Nat.le_of_ble_eq_true rfl) rfl ?_
  refine p_aload_n 1 dX6_takeLine_0 rfl rfl (by decide) ?_
  refine p_ldcS 0 3 dX6_takeLine_1 rfl ?_
  refine p_callV1i 48 6 dX6_takeLine_3 (s_spells hn ht hc hp hS.w (i := 0) rfl (by decide)) lk_X6_94 mX6_spells rfl rfl (by decide) (Nat.le_of_ble_eq_true rfl) ?_
  rintro _ _ ⟨rfl, e9⟩
  have e9 := e9.symm
  subst e9
  refine p_if_eq 14 9 dX6_takeLine_6 (by split <;> omega) (by split <;> omega) (fun h6 => ?_) (fun h6 => ?_)
  · have n0 := if_eq0 h6
    refine p_aload_n 15 dX6_takeLine_14 rfl rfl (by decide) ?_
    refine p_ldcS 3 17 dX6_takeLine_15 rfl ?_
    refine p_callV1i 48 20 dX6_takeLine_17 (s_spells hn ht hc hp hS.w (i := 3) rfl (by decide)) lk_X6_94 mX6_spells rfl rfl (by decide) (Nat.le_of_ble_eq_true rfl) ?_
    rintro _ _ ⟨rfl, e9⟩
    have e9 := e9.symm
    subst e9
    refine p_if_eq 55 23 dX6_takeLine_20 (by split <;> omega) (by split <;> omega) (fun h20 => ?_) (fun h20 => ?_)
    · have n3 := if_eq0 h20
      refine p_aload_n 56 dX6_takeLine_55 rfl rfl (by decide) ?_
      refine p_ldcS 4 58 dX6_takeLine_56 rfl ?_
      refine p_callV1i 48 61 dX6_takeLine_58 (s_spells hn ht hc hp hS.w (i := 4) rfl (by decide)) lk_X6_94 mX6_spells rfl rfl (by decide) (Nat.le_of_ble_eq_true rfl) ?_
      rintro _ _ ⟨rfl, e9⟩
      have e9 := e9.symm
      subst e9
      refine p_if_eq 95 64 dX6_takeLine_61 (by split <;> omega) (by split <;> omega) (fun h61 => ?_) (fun h61 => ?_)
      · have n4 := if_eq0 h61
        refine p_aload_n 96 dX6_takeLine_95 rfl rfl (by decide) ?_
        refine p_ldcS 5 98 dX6_takeLine_96 rfl ?_
        refine p_callV1i 48 101 dX6_takeLine_98 (s_spells hn ht hc hp hS.w (i := 5) rfl (by decide)) lk_X6_94 mX6_spells rfl rfl (by decide) (Nat.le_of_ble_eq_true rfl) ?_
        rintro _ _ ⟨rfl, e9⟩
        have e9 := e9.symm
        subst e9
        refine p_if_eq 136 104 dX6_takeLine_101 (by split <;> omega) (by split <;> omega) (fun h101 => ?_) (fun h101 => ?_)
        · have n5 := if_eq0 h101
          refine p_aload_n 137 dX6_takeLine_136 rfl rfl (by decide) ?_
          refine p_ldcS 6 139 dX6_takeLine_137 rfl ?_
          refine p_callV1i 48 142 dX6_takeLine_139 (s_spells hn ht hc hp hS.w (i := 6) rfl (by decide)) lk_X6_94 mX6_spells rfl rfl (by decide) (Nat.le_of_ble_eq_true rfl) ?_
          rintro _ _ ⟨rfl, e9⟩
          have e9 := e9.symm
          subst e9
          refine p_if_eq 177 145 dX6_takeLine_142 (by split <;> omega) (by split <;> omega) (fun h142 => ?_) (fun h142 => ?_)
          · have n6 := if_eq0 h142
            refine p_aload_n 178 dX6_takeLine_177 rfl rfl (by decide) ?_
            refine p_ldcS 7 180 dX6_takeLine_178 rfl ?_
            refine p_callV1i 48 183 dX6_takeLine_180 (s_spells hn ht hc hp hS.w (i := 7) rfl (by decide)) lk_X6_94 mX6_spells rfl rfl (by decide) (Nat.le_of_ble_eq_true rfl) ?_
            rintro _ _ ⟨rfl, e9⟩
            have e9 := e9.symm
            subst e9
            refine p_if_eq 218 186 dX6_takeLine_183 (by split <;> omega) (by split <;> omega) (fun h183 => ?_) (fun h183 => ?_)
            · have n7 := if_eq0 h183
              refine p_aload_n 219 dX6_takeLine_218 rfl rfl (by decide) ?_
              refine p_ldcS 8 221 dX6_takeLine_219 rfl ?_
              refine p_callV1i 48 224 dX6_takeLine_221 (s_spells hn ht hc hp hS.w (i := 8) rfl (by decide)) lk_X6_94 mX6_spells rfl rfl (by decide) (Nat.le_of_ble_eq_true rfl) ?_
              rintro _ _ ⟨rfl, e9⟩
              have e9 := e9.symm
              subst e9
              refine p_if_eq 258 227 dX6_takeLine_224 (by split <;> omega) (by split <;> omega) (fun h224 => ?_) (fun h224 => ?_)
              · have n8 := if_eq0 h224
                refine p_aload_n 259 dX6_takeLine_258 rfl rfl (by decide) ?_
                refine p_iconst 260 dX6_takeLine_259 ?_
                refine p_callV1i 48 263 dX6_takeLine_260 (s_failR hn ht hc hp hS.w) lk_X6_47 mX6_fail rfl rfl (by decide) (Nat.le_of_ble_eq_true rfl) ?_
                rintro _ M9 ⟨rfl, hF⟩
                have hX := PL.l (t := t) (n := n) (c := c) (N := N) (r := q_line t n p ρ) (by
                  unfold q_line
                  rw [if_neg n0, if_neg n3, if_neg n4, if_neg n5, if_neg n6, if_neg n7, if_neg n8]) hF
                refine p_zret dX6_takeLine_263 rfl (by decide) ?_
                exact ⟨_, rfl, hX⟩
              · have y8 := if_neq0 h224
                refine p_aload_n 228 dX6_takeLine_227 rfl rfl (by decide) ?_
                refine p_aload_n 229 dX6_takeLine_228 rfl rfl (by decide) ?_
                refine p_getR 48 232 dX6_takeLine_229 fX6_19 rfl hS.1.2.2.2.1 ?_
                refine p_getR (c) 235 dX6_takeLine_232 fX6_150 (tt_c hc) (wi_0_6 hc hS.1.1) ?_
                refine p_getI (c + 17) 238 dX6_takeLine_235 fX6_160 (tt_17 hc) ?_
                rw [hS.2.2.1.1.1.2.2.2.2.2.2.2.2]
                refine p_iconst 239 dX6_takeLine_238 ?_
                refine p_callV2i 48 242 dX6_takeLine_239 (s_begin hn ht hc hp hS (cn := ρ 7) (rm := 5) (by omega) (by decide)) lk_X6_117 mX6_begin rfl rfl (by decide) (Nat.le_of_ble_eq_true rfl) ?_
                intro a1 M1 hd1
                have ha1 : 0 ≤ a1 ∧ a1 ≤ 1 := by
                  rcases hd1 with ⟨-, -, h, -⟩ | ⟨_, -, h, -⟩ <;> omega
                refine p_if_eq 256 245 dX6_takeLine_242 (by omega) (by omega) (fun h242 => ?_) (fun h242 => ?_)
                · obtain ⟨e, hq, -, hF⟩ := hd1.resolve_left (fun g => by have := g.2.2.1; omega)
                  have hX := PL.l (t := t) (n := n) (c := c) (N := N) (r := q_line t n p ρ) (e := e) (by
                    unfold q_line
                    rw [if_neg n0, if_neg n3, if_neg n4, if_neg n5, if_neg n6, if_neg n7, if_pos y8]
                    unfold q_beg
                    rcases hq with ⟨g1, rfl⟩ | ⟨g1, g2, rfl⟩
                    · rw [if_pos g1]
                    · rw [if_neg g1, if_pos g2]) hF
                  refine p_iconst 257 dX6_takeLine_256 ?_
                  refine p_zret dX6_takeLine_257 rfl (by decide) ?_
                  exact ⟨_, rfl, hX⟩
                · obtain ⟨g0, grm, -, kk, hT9⟩ := hd1.resolve_right (fun g => by obtain ⟨_, _, g, _⟩ := g; omega)
                  have hS := hS.adv hc kk hT9
                  have hz : q_line t n p ρ = q_lseen t n (q_en t n p) ρ := by
                    unfold q_line
                    rw [if_neg n0, if_neg n3, if_neg n4, if_neg n5, if_neg n6, if_neg n7, if_pos y8]
                    unfold q_beg
                    rw [if_neg g0, if_neg grm]
                  refine p_aload_n 246 dX6_takeLine_245 rfl rfl (by decide) ?_
                  refine p_callV0i 48 249 dX6_takeLine_246 (s_takeSeen hn ht hc hp1 hS hP (by omega)) lk_X6_163 mX6_takeSeen rfl rfl (by decide) (Nat.le_of_ble_eq_true rfl) ?_
                  intro a2 M9 h2
                  have ha2 := h2.bd
                  have h2 := h2.eq hz
                  refine p_if_eq 256 252 dX6_takeLine_249 (by omega) (by omega) (fun h249 => ?_) (fun h249 => ?_)
                  · rw [h249] at h2
                    have hX := h2
                    refine p_iconst 257 dX6_takeLine_256 ?_
                    refine p_zret dX6_takeLine_257 rfl (by decide) ?_
                    exact ⟨_, rfl, hX⟩
                  · have h1 : a2 = 1 := by omega
                    rw [h1] at h2
                    have hX := h2
                    refine p_iconst 253 dX6_takeLine_252 ?_
                    refine p_goto 257 dX6_takeLine_253 ?_
                    refine p_zret dX6_takeLine_257 rfl (by decide) ?_
                    exact ⟨_, rfl, hX⟩
            · have y7 := if_neq0 h183
              refine p_aload_n 187 dX6_takeLine_186 rfl rfl (by decide) ?_
              refine p_aload_n 188 dX6_takeLine_187 rfl rfl (by decide) ?_
              refine p_getR 48 191 dX6_takeLine_188 fX6_19 rfl hS.1.2.2.2.1 ?_
              refine p_getR (c) 194 dX6_takeLine_191 fX6_150 (tt_c hc) (wi_0_6 hc hS.1.1) ?_
              refine p_getI (c + 17) 197 dX6_takeLine_194 fX6_154 (tt_17 hc) ?_
              rw [hS.2.2.1.1.1.2.2.2.2.2.2.2.1]
              refine p_bipush 199 dX6_takeLine_197 rfl ?_
              refine p_callV2i 48 202 dX6_takeLine_199 (s_begin hn ht hc hp hS (cn := ρ 6) (rm := 6) (by omega) (by decide)) lk_X6_117 mX6_begin rfl rfl (by decide) (Nat.le_of_ble_eq_true rfl) ?_
              intro a1 M1 hd1
              have ha1 : 0 ≤ a1 ∧ a1 ≤ 1 := by
                rcases hd1 with ⟨-, -, h, -⟩ | ⟨_, -, h, -⟩ <;> omega
              refine p_if_eq 216 205 dX6_takeLine_202 (by omega) (by omega) (fun h202 => ?_) (fun h202 => ?_)
              · obtain ⟨e, hq, -, hF⟩ := hd1.resolve_left (fun g => by have := g.2.2.1; omega)
                have hX := PL.l (t := t) (n := n) (c := c) (N := N) (r := q_line t n p ρ) (e := e) (by
                  unfold q_line
                  rw [if_neg n0, if_neg n3, if_neg n4, if_neg n5, if_neg n6, if_pos y7]
                  unfold q_beg
                  rcases hq with ⟨g1, rfl⟩ | ⟨g1, g2, rfl⟩
                  · rw [if_pos g1]
                  · rw [if_neg g1, if_pos g2]) hF
                refine p_iconst 217 dX6_takeLine_216 ?_
                refine p_zret dX6_takeLine_217 rfl (by decide) ?_
                exact ⟨_, rfl, hX⟩
              · obtain ⟨g0, grm, -, kk, hT9⟩ := hd1.resolve_right (fun g => by obtain ⟨_, _, g, _⟩ := g; omega)
                have hS := hS.adv hc kk hT9
                have hz : q_line t n p ρ = q_lorder t n (q_en t n p) ρ := by
                  unfold q_line
                  rw [if_neg n0, if_neg n3, if_neg n4, if_neg n5, if_neg n6, if_pos y7]
                  unfold q_beg
                  rw [if_neg g0, if_neg grm]
                refine p_aload_n 206 dX6_takeLine_205 rfl rfl (by decide) ?_
                refine p_callV0i 48 209 dX6_takeLine_206 (s_takeOrder hn ht hc hp1 hS hP (by omega)) lk_X6_157 mX6_takeOrder rfl rfl (by decide) (Nat.le_of_ble_eq_true rfl) ?_
                intro a2 M9 h2
                have ha2 := h2.bd
                have h2 := h2.eq hz
                refine p_if_eq 216 212 dX6_takeLine_209 (by omega) (by omega) (fun h209 => ?_) (fun h209 => ?_)
                · rw [h209] at h2
                  have hX := h2
                  refine p_iconst 217 dX6_takeLine_216 ?_
                  refine p_zret dX6_takeLine_217 rfl (by decide) ?_
                  exact ⟨_, rfl, hX⟩
                · have h1 : a2 = 1 := by omega
                  rw [h1] at h2
                  have hX := h2
                  refine p_iconst 213 dX6_takeLine_212 ?_
                  refine p_goto 217 dX6_takeLine_213 ?_
                  refine p_zret dX6_takeLine_217 rfl (by decide) ?_
                  exact ⟨_, rfl, hX⟩
          · have y6 := if_neq0 h142
            refine p_aload_n 146 dX6_takeLine_145 rfl rfl (by decide) ?_
            refine p_aload_n 147 dX6_takeLine_146 rfl rfl (by decide) ?_
            refine p_getR 48 150 dX6_takeLine_147 fX6_19 rfl hS.1.2.2.2.1 ?_
            refine p_getR (c) 153 dX6_takeLine_150 fX6_134 (tt_c hc) (wi_0_5 hc hS.1.1) ?_
            refine p_getI (c + 11) 156 dX6_takeLine_153 fX6_144 (tt_11 hc) ?_
            rw [hS.2.2.1.1.1.2.2.2.2.2.2.1]
            refine p_bipush 158 dX6_takeLine_156 rfl ?_
            refine p_callV2i 48 161 dX6_takeLine_158 (s_begin hn ht hc hp hS (cn := ρ 5) (rm := 8) (by omega) (by decide)) lk_X6_117 mX6_begin rfl rfl (by decide) (Nat.le_of_ble_eq_true rfl) ?_
            intro a1 M1 hd1
            have ha1 : 0 ≤ a1 ∧ a1 ≤ 1 := by
              rcases hd1 with ⟨-, -, h, -⟩ | ⟨_, -, h, -⟩ <;> omega
            refine p_if_eq 175 164 dX6_takeLine_161 (by omega) (by omega) (fun h161 => ?_) (fun h161 => ?_)
            · obtain ⟨e, hq, -, hF⟩ := hd1.resolve_left (fun g => by have := g.2.2.1; omega)
              have hX := PL.l (t := t) (n := n) (c := c) (N := N) (r := q_line t n p ρ) (e := e) (by
                unfold q_line
                rw [if_neg n0, if_neg n3, if_neg n4, if_neg n5, if_pos y6]
                unfold q_beg
                rcases hq with ⟨g1, rfl⟩ | ⟨g1, g2, rfl⟩
                · rw [if_pos g1]
                · rw [if_neg g1, if_pos g2]) hF
              refine p_iconst 176 dX6_takeLine_175 ?_
              refine p_zret dX6_takeLine_176 rfl (by decide) ?_
              exact ⟨_, rfl, hX⟩
            · obtain ⟨g0, grm, -, kk, hT9⟩ := hd1.resolve_right (fun g => by obtain ⟨_, _, g, _⟩ := g; omega)
              have hS := hS.adv hc kk hT9
              have hz : q_line t n p ρ = q_lbefore t n (q_en t n p) ρ := by
                unfold q_line
                rw [if_neg n0, if_neg n3, if_neg n4, if_neg n5, if_pos y6]
                unfold q_beg
                rw [if_neg g0, if_neg grm]
              refine p_aload_n 165 dX6_takeLine_164 rfl rfl (by decide) ?_
              refine p_callV0i 48 168 dX6_takeLine_165 (s_takeBefore hn ht hc hp1 hS hP) lk_X6_147 mX6_takeBefore rfl rfl (by decide) (Nat.le_of_ble_eq_true rfl) ?_
              intro a2 M9 h2
              have ha2 := h2.bd
              have h2 := h2.eq hz
              refine p_if_eq 175 171 dX6_takeLine_168 (by omega) (by omega) (fun h168 => ?_) (fun h168 => ?_)
              · rw [h168] at h2
                have hX := h2
                refine p_iconst 176 dX6_takeLine_175 ?_
                refine p_zret dX6_takeLine_176 rfl (by decide) ?_
                exact ⟨_, rfl, hX⟩
              · have h1 : a2 = 1 := by omega
                rw [h1] at h2
                have hX := h2
                refine p_iconst 172 dX6_takeLine_171 ?_
                refine p_goto 176 dX6_takeLine_172 ?_
                refine p_zret dX6_takeLine_176 rfl (by decide) ?_
                exact ⟨_, rfl, hX⟩
        · have y5 := if_neq0 h101
          refine p_aload_n 105 dX6_takeLine_104 rfl rfl (by decide) ?_
          refine p_aload_n 106 dX6_takeLine_105 rfl rfl (by decide) ?_
          refine p_getR 48 109 dX6_takeLine_106 fX6_19 rfl hS.1.2.2.2.1 ?_
          refine p_getR (c) 112 dX6_takeLine_109 fX6_134 (tt_c hc) (wi_0_5 hc hS.1.1) ?_
          refine p_getI (c + 11) 115 dX6_takeLine_112 fX6_138 (tt_11 hc) ?_
          rw [hS.2.2.1.1.1.2.2.2.2.2.1]
          refine p_bipush 117 dX6_takeLine_115 rfl ?_
          refine p_callV2i 48 120 dX6_takeLine_117 (s_begin hn ht hc hp hS (cn := ρ 4) (rm := 7) (by omega) (by decide)) lk_X6_117 mX6_begin rfl rfl (by decide) (Nat.le_of_ble_eq_true rfl) ?_
          intro a1 M1 hd1
          have ha1 : 0 ≤ a1 ∧ a1 ≤ 1 := by
            rcases hd1 with ⟨-, -, h, -⟩ | ⟨_, -, h, -⟩ <;> omega
          refine p_if_eq 134 123 dX6_takeLine_120 (by omega) (by omega) (fun h120 => ?_) (fun h120 => ?_)
          · obtain ⟨e, hq, -, hF⟩ := hd1.resolve_left (fun g => by have := g.2.2.1; omega)
            have hX := PL.l (t := t) (n := n) (c := c) (N := N) (r := q_line t n p ρ) (e := e) (by
              unfold q_line
              rw [if_neg n0, if_neg n3, if_neg n4, if_pos y5]
              unfold q_beg
              rcases hq with ⟨g1, rfl⟩ | ⟨g1, g2, rfl⟩
              · rw [if_pos g1]
              · rw [if_neg g1, if_pos g2]) hF
            refine p_iconst 135 dX6_takeLine_134 ?_
            refine p_zret dX6_takeLine_135 rfl (by decide) ?_
            exact ⟨_, rfl, hX⟩
          · obtain ⟨g0, grm, -, kk, hT9⟩ := hd1.resolve_right (fun g => by obtain ⟨_, _, g, _⟩ := g; omega)
            have hS := hS.adv hc kk hT9
            have hz : q_line t n p ρ = q_lword t n (q_en t n p) ρ := by
              unfold q_line
              rw [if_neg n0, if_neg n3, if_neg n4, if_pos y5]
              unfold q_beg
              rw [if_neg g0, if_neg grm]
            refine p_aload_n 124 dX6_takeLine_123 rfl rfl (by decide) ?_
            refine p_callV0i 48 127 dX6_takeLine_124 (s_takeWordLine hn ht hc hp1 hS hP (by omega)) lk_X6_141 mX6_takeWordLine rfl rfl (by decide) (Nat.le_of_ble_eq_true rfl) ?_
            intro a2 M9 h2
            have ha2 := h2.bd
            have h2 := h2.eq hz
            refine p_if_eq 134 130 dX6_takeLine_127 (by omega) (by omega) (fun h127 => ?_) (fun h127 => ?_)
            · rw [h127] at h2
              have hX := h2
              refine p_iconst 135 dX6_takeLine_134 ?_
              refine p_zret dX6_takeLine_135 rfl (by decide) ?_
              exact ⟨_, rfl, hX⟩
            · have h1 : a2 = 1 := by omega
              rw [h1] at h2
              have hX := h2
              refine p_iconst 131 dX6_takeLine_130 ?_
              refine p_goto 135 dX6_takeLine_131 ?_
              refine p_zret dX6_takeLine_135 rfl (by decide) ?_
              exact ⟨_, rfl, hX⟩
      · have y4 := if_neq0 h61
        refine p_aload_n 65 dX6_takeLine_64 rfl rfl (by decide) ?_
        refine p_aload_n 66 dX6_takeLine_65 rfl rfl (by decide) ?_
        refine p_getR 48 69 dX6_takeLine_66 fX6_19 rfl hS.1.2.2.2.1 ?_
        refine p_getR (c) 72 dX6_takeLine_69 fX6_124 (tt_c hc) (wi_0_4 hc hS.1.1) ?_
        refine p_getI (c + 6) 75 dX6_takeLine_72 fX6_128 (tt_6 hc) ?_
        rw [hS.2.2.1.1.1.2.2.2.2.1]
        refine p_iconst 76 dX6_takeLine_75 ?_
        refine p_callV2i 48 79 dX6_takeLine_76 (s_begin hn ht hc hp hS (cn := ρ 3) (rm := 3) (by omega) (by decide)) lk_X6_117 mX6_begin rfl rfl (by decide) (Nat.le_of_ble_eq_true rfl) ?_
        intro a1 M1 hd1
        have ha1 : 0 ≤ a1 ∧ a1 ≤ 1 := by
          rcases hd1 with ⟨-, -, h, -⟩ | ⟨_, -, h, -⟩ <;> omega
        refine p_if_eq 93 82 dX6_takeLine_79 (by omega) (by omega) (fun h79 => ?_) (fun h79 => ?_)
        · obtain ⟨e, hq, -, hF⟩ := hd1.resolve_left (fun g => by have := g.2.2.1; omega)
          have hX := PL.l (t := t) (n := n) (c := c) (N := N) (r := q_line t n p ρ) (e := e) (by
            unfold q_line
            rw [if_neg n0, if_neg n3, if_pos y4]
            unfold q_beg
            rcases hq with ⟨g1, rfl⟩ | ⟨g1, g2, rfl⟩
            · rw [if_pos g1]
            · rw [if_neg g1, if_pos g2]) hF
          refine p_iconst 94 dX6_takeLine_93 ?_
          refine p_zret dX6_takeLine_94 rfl (by decide) ?_
          exact ⟨_, rfl, hX⟩
        · obtain ⟨g0, grm, -, kk, hT9⟩ := hd1.resolve_right (fun g => by obtain ⟨_, _, g, _⟩ := g; omega)
          have hS := hS.adv hc kk hT9
          have hz : q_line t n p ρ = q_lawake t n (q_en t n p) ρ := by
            unfold q_line
            rw [if_neg n0, if_neg n3, if_pos y4]
            unfold q_beg
            rw [if_neg g0, if_neg grm]
          refine p_aload_n 83 dX6_takeLine_82 rfl rfl (by decide) ?_
          refine p_callV0i 48 86 dX6_takeLine_83 (s_takeHelper hn ht hc hp1 hS hP (by omega)) lk_X6_131 mX6_takeHelper rfl rfl (by decide) (Nat.le_of_ble_eq_true rfl) ?_
          intro a2 M9 h2
          have ha2 := h2.bd
          have h2 := h2.eq hz
          refine p_if_eq 93 89 dX6_takeLine_86 (by omega) (by omega) (fun h86 => ?_) (fun h86 => ?_)
          · rw [h86] at h2
            have hX := h2
            refine p_iconst 94 dX6_takeLine_93 ?_
            refine p_zret dX6_takeLine_94 rfl (by decide) ?_
            exact ⟨_, rfl, hX⟩
          · have h1 : a2 = 1 := by omega
            rw [h1] at h2
            have hX := h2
            refine p_iconst 90 dX6_takeLine_89 ?_
            refine p_goto 94 dX6_takeLine_90 ?_
            refine p_zret dX6_takeLine_94 rfl (by decide) ?_
            exact ⟨_, rfl, hX⟩
    · have y3 := if_neq0 h20
      refine p_aload_n 24 dX6_takeLine_23 rfl rfl (by decide) ?_
      refine p_aload_n 25 dX6_takeLine_24 rfl rfl (by decide) ?_
      refine p_getR 48 28 dX6_takeLine_25 fX6_19 rfl hS.1.2.2.2.1 ?_
      refine p_getR (c) 31 dX6_takeLine_28 fX6_51 (tt_c hc) (wi_0_3 hc hS.1.1) ?_
      refine p_getI (c + 1) 34 dX6_takeLine_31 fX6_55 (tt_1 hc) ?_
      rw [hS.2.2.1.1.1.2.2.2.1]
      refine p_bipush 36 dX6_takeLine_34 rfl ?_
      refine p_callV2i 48 39 dX6_takeLine_36 (s_begin hn ht hc hp hS (cn := ρ 2) (rm := 7) (by omega) (by decide)) lk_X6_117 mX6_begin rfl rfl (by decide) (Nat.le_of_ble_eq_true rfl) ?_
      intro a1 M1 hd1
      have ha1 : 0 ≤ a1 ∧ a1 ≤ 1 := by
        rcases hd1 with ⟨-, -, h, -⟩ | ⟨_, -, h, -⟩ <;> omega
      refine p_if_eq 53 42 dX6_takeLine_39 (by omega) (by omega) (fun h39 => ?_) (fun h39 => ?_)
      · obtain ⟨e, hq, -, hF⟩ := hd1.resolve_left (fun g => by have := g.2.2.1; omega)
        have hX := PL.l (t := t) (n := n) (c := c) (N := N) (r := q_line t n p ρ) (e := e) (by
          unfold q_line
          rw [if_neg n0, if_pos y3]
          unfold q_beg
          rcases hq with ⟨g1, rfl⟩ | ⟨g1, g2, rfl⟩
          · rw [if_pos g1]
          · rw [if_neg g1, if_pos g2]) hF
        refine p_iconst 54 dX6_takeLine_53 ?_
        refine p_zret dX6_takeLine_54 rfl (by decide) ?_
        exact ⟨_, rfl, hX⟩
      · obtain ⟨g0, grm, -, kk, hT9⟩ := hd1.resolve_right (fun g => by obtain ⟨_, _, g, _⟩ := g; omega)
        have hS := hS.adv hc kk hT9
        have hz : q_line t n p ρ = q_lsleeper t n (q_en t n p) ρ := by
          unfold q_line
          rw [if_neg n0, if_pos y3]
          unfold q_beg
          rw [if_neg g0, if_neg grm]
        refine p_aload_n 43 dX6_takeLine_42 rfl rfl (by decide) ?_
        refine p_callV0i 48 46 dX6_takeLine_43 (s_takeSleeper hn ht hc hp1 hS hP (by omega)) lk_X6_121 mX6_takeSleeper rfl rfl (by decide) (Nat.le_of_ble_eq_true rfl) ?_
        intro a2 M9 h2
        have ha2 := h2.bd
        have h2 := h2.eq hz
        refine p_if_eq 53 49 dX6_takeLine_46 (by omega) (by omega) (fun h46 => ?_) (fun h46 => ?_)
        · rw [h46] at h2
          have hX := h2
          refine p_iconst 54 dX6_takeLine_53 ?_
          refine p_zret dX6_takeLine_54 rfl (by decide) ?_
          exact ⟨_, rfl, hX⟩
        · have h1 : a2 = 1 := by omega
          rw [h1] at h2
          have hX := h2
          refine p_iconst 50 dX6_takeLine_49 ?_
          refine p_goto 54 dX6_takeLine_50 ?_
          refine p_zret dX6_takeLine_54 rfl (by decide) ?_
          exact ⟨_, rfl, hX⟩
  · have y0 := if_neq0 h6
    refine p_aload_n 10 dX6_takeLine_9 rfl rfl (by decide) ?_
    refine p_callV0i 48 13 dX6_takeLine_10 (s_takeCounty hn ht hc hp hS hP) lk_X6_114 mX6_takeCounty rfl rfl (by decide) (Nat.le_of_ble_eq_true rfl) ?_
    intro a1 M9 h2
    have ha1 := h2.bd
    have hX := h2.eq (r' := q_line t n p ρ) (by
      unfold q_line
      rw [if_pos y0])
    refine p_zret dX6_takeLine_13 rfl (by omega) ?_
    exact ⟨_, rfl, hX⟩
