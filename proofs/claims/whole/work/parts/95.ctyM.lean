/-! THE READER, the model's: the act of telling -/
def MZ (t : Nat → Int) (n : Nat) (r : (Int × Int) ⊕ (Nat → Int)) (N M : ZM) : Prop := match r with
  | .inl e => MF e N M
  | .inr ρ => ∃ p, MS t n p ρ N M
theorem zwm124 : ∀ q ∈ zwM, q.1 = 124 := by decide +kernel
theorem zWm.row {M : ZM} {c k : Nat} {v : Int} (h : zWm M) (hc : c ≠ 124) : zWm (zset M c k v) := by
  intro q hq
  rw [zset_ne _ (by rw [zwm124 q hq]; exact fun g => hc g.symm)]
  exact h q hq
theorem zWm.eq {N M : ZM} (h : zWm N) (e : M 124 = N 124) : zWm M := by
  intro q hq
  have g := h q hq
  rw [zwm124 q hq] at g ⊢
  rw [e]
  exact g
theorem l_ctyL {l : Launch} {X : ZX} {t : Nat → Int} {n : Nat} {N : ZM} {v : Int} (hn : n ≤ 900) (ht : ∀ i, i < n → 0 ≤ t i ∧ t i < 256) {Q : Option ZV → ZM → Prop} : ∀ (f p : Nat) (ρ : Nat → Int) (M9 : ZM), n ≤ p + f → p ≤ n → PI ρ → MX t n (q_line t n p ρ) N M9 → (∀ M', MZ t n (q_lines t n (f + 1) p ρ) N M' → zP l X 11 tX12_county 162 [some (zr 124), some (zi v), some (zi 421)] [] M' Q) → zP l X 11 tX12_county 77 [some (zr 124), some (zi v), some (zi 421)] [] M9 Q := by
  intro f
  induction f with
  | zero =>
    intro p ρ M9 hnp hp hP hX hQ
    rcases hX.cases with ⟨e1, hz, hF⟩ | ⟨p1, ρ1, hz, hS⟩
    · refine p_aload_n 78 dX12_county_77 rfl rfl (by decide) ?_
      refine p_getI 124 81 dX12_county_78 fX12_91 rfl ?_
      rw [hF.2.1]
      refine p_if_ne 104 84 dX12_county_81 (by decide) (by decide) (fun h81 => ?_) (fun h81 => absurd (h81 (by decide)) (fun h9 : False => h9))
      refine p_aload_n 105 dX12_county_104 rfl rfl (by decide) ?_
      refine p_getI 124 108 dX12_county_105 fX12_91 rfl ?_
      rw [hF.2.1]
      refine p_if_ne 127 111 dX12_county_108 (by decide) (by decide) (fun h108 => ?_) (fun h108 => absurd (h108 (by decide)) (fun h9 : False => h9))
      refine p_aload_n 128 dX12_county_127 rfl rfl (by decide) ?_
      refine p_getI 124 131 dX12_county_128 fX12_91 rfl ?_
      rw [hF.2.1]
      refine p_if_ne 162 134 dX12_county_131 (by decide) (by decide) (fun h131 => ?_) (fun h131 => absurd (h131 (by decide)) (fun h9 : False => h9))
      exact hQ _ (by rw [q_lines_s, hz]; exact hF)
    · obtain ⟨hP1, hpp, hp1, h10⟩ := q_line_ok hp hP hz
      have htk := q_tk_cases t n p1
      have b0 := hP1.1.1 0 (by decide)
      have b2 := hP1.1.1 2 (by decide)
      have bR := hP1.1.2.1
      refine p_aload_n 78 dX12_county_77 rfl rfl (by decide) ?_
      refine p_getI 124 81 dX12_county_78 fX12_91 rfl ?_
      rw [hS.2.2.1]
      refine p_if_ne 104 84 dX12_county_81 (by decide) (by decide) (fun h81 => absurd (absurd rfl h81) (fun h9 : False => h9)) (fun h81 => ?_)
      refine p_aload_n 85 dX12_county_84 rfl rfl (by decide) ?_
      refine p_getI 124 88 dX12_county_85 fX12_81 rfl ?_
      rw [hS.2.1.2.2.1]
      refine p_bipush 90 dX12_county_88 rfl ?_
      refine p_icmp_ne 104 93 dX12_county_90 (by omega) (by omega) (by omega) (by omega) (fun h90 => ?_) (fun h90 => ?_)
      · have hc59 : ¬ q_tk t n p1 = 59 := by omega
        refine p_aload_n 105 dX12_county_104 rfl rfl (by decide) ?_
        refine p_getI 124 108 dX12_county_105 fX12_91 rfl ?_
        rw [hS.2.2.1]
        refine p_if_ne 127 111 dX12_county_108 (by decide) (by decide) (fun h108 => absurd (absurd rfl h108) (fun h9 : False => h9)) (fun h108 => ?_)
        refine p_aload_n 112 dX12_county_111 rfl rfl (by decide) ?_
        refine p_getI 124 115 dX12_county_112 fX12_81 rfl ?_
        rw [hS.2.1.2.2.1]
        refine p_if_eq 127 118 dX12_county_115 (by omega) (by omega) (fun h115 => ?_) (fun h115 => ?_)
        · have hc0 : ¬ q_tk t n p1 ≠ 0 := by omega
          refine p_aload_n 128 dX12_county_127 rfl rfl (by decide) ?_
          refine p_getI 124 131 dX12_county_128 fX12_91 rfl ?_
          rw [hS.2.2.1]
          refine p_if_ne 162 134 dX12_county_131 (by decide) (by decide) (fun h131 => absurd (absurd rfl h131) (fun h9 : False => h9)) (fun h131 => ?_)
          refine p_aload_n 135 dX12_county_134 rfl rfl (by decide) ?_
          refine p_getR 124 138 dX12_county_135 fX12_23 rfl (hS.1.1 (124, 16, 128) (by decide)) ?_
          refine p_iconst 139 dX12_county_138 ?_
          refine p_ialdn 128 140 (0) dX12_county_139 rfl (by omega) (by omega) ?_
          rw [hS.2.2.2.1 0 (by decide)]
          refine p_if_eq 152 143 dX12_county_140 (by omega) (by omega) (fun h140 => ?_) (fun h140 => ?_)
          · refine p_aload_n 153 dX12_county_152 rfl rfl (by decide) ?_
            refine p_bipush 155 dX12_county_153 rfl ?_
            refine p_aload_n 156 dX12_county_155 rfl rfl (by decide) ?_
            refine p_getI 124 159 dX12_county_156 fX12_72 rfl ?_
            rw [hS.2.1.1]
            refine p_callV2v 124 162 dX12_county_159 (s_wrongS hn hp1 hS) lk_X12_118 mX12_wrong rfl rfl (by decide) (Nat.le_of_ble_eq_true rfl) ?_
            intro M8 hF9
            first
              | exact hQ _ (by
                  rw [q_lines_s, hz]
                  show MZ t n (if q_tk t n p1 = 59 then _ else if q_tk t n p1 ≠ 0 then _ else if ρ1 0 = 0 ∨ ρ1 2 = 0 then _ else _) N _
                  rw [if_neg hc59, if_neg hc0, if_neg (fun g => g.elim (by omega) (by omega))]; exact ⟨p1, hS⟩)
              | exact hQ _ (by
                  rw [q_lines_s, hz]
                  show MZ t n (if q_tk t n p1 = 59 then _ else if q_tk t n p1 ≠ 0 then _ else if ρ1 0 = 0 ∨ ρ1 2 = 0 then _ else _) N _
                  rw [if_neg hc59, if_neg hc0, if_pos (by omega)]; exact hF9)
          · refine p_aload_n 144 dX12_county_143 rfl rfl (by decide) ?_
            refine p_getR 124 147 dX12_county_144 fX12_23 rfl (hS.1.1 (124, 16, 128) (by decide)) ?_
            refine p_iconst 148 dX12_county_147 ?_
            refine p_ialdn 128 149 (2) dX12_county_148 rfl (by omega) (by omega) ?_
            rw [hS.2.2.2.1 2 (by decide)]
            refine p_if_ne 162 152 dX12_county_149 (by omega) (by omega) (fun h149 => ?_) (fun h149 => ?_)
            · first
                | exact hQ _ (by
                    rw [q_lines_s, hz]
                    show MZ t n (if q_tk t n p1 = 59 then _ else if q_tk t n p1 ≠ 0 then _ else if ρ1 0 = 0 ∨ ρ1 2 = 0 then _ else _) N _
                    rw [if_neg hc59, if_neg hc0, if_neg (fun g => g.elim (by omega) (by omega))]; exact ⟨p1, hS⟩)
                | exact hQ _ (by
                    rw [q_lines_s, hz]
                    show MZ t n (if q_tk t n p1 = 59 then _ else if q_tk t n p1 ≠ 0 then _ else if ρ1 0 = 0 ∨ ρ1 2 = 0 then _ else _) N _
                    rw [if_neg hc59, if_neg hc0, if_pos (by omega)]; exact hF9)
            · refine p_aload_n 153 dX12_county_152 rfl rfl (by decide) ?_
              refine p_bipush 155 dX12_county_153 rfl ?_
              refine p_aload_n 156 dX12_county_155 rfl rfl (by decide) ?_
              refine p_getI 124 159 dX12_county_156 fX12_72 rfl ?_
              rw [hS.2.1.1]
              refine p_callV2v 124 162 dX12_county_159 (s_wrongS hn hp1 hS) lk_X12_118 mX12_wrong rfl rfl (by decide) (Nat.le_of_ble_eq_true rfl) ?_
              intro M8 hF9
              first
                | exact hQ _ (by
                    rw [q_lines_s, hz]
                    show MZ t n (if q_tk t n p1 = 59 then _ else if q_tk t n p1 ≠ 0 then _ else if ρ1 0 = 0 ∨ ρ1 2 = 0 then _ else _) N _
                    rw [if_neg hc59, if_neg hc0, if_neg (fun g => g.elim (by omega) (by omega))]; exact ⟨p1, hS⟩)
                | exact hQ _ (by
                    rw [q_lines_s, hz]
                    show MZ t n (if q_tk t n p1 = 59 then _ else if q_tk t n p1 ≠ 0 then _ else if ρ1 0 = 0 ∨ ρ1 2 = 0 then _ else _) N _
                    rw [if_neg hc59, if_neg hc0, if_pos (by omega)]; exact hF9)
        · have hc0 : q_tk t n p1 ≠ 0 := by omega
          refine p_aload_n 119 dX12_county_118 rfl rfl (by decide) ?_
          refine p_iconst 120 dX12_county_119 ?_
          refine p_aload_n 121 dX12_county_120 rfl rfl (by decide) ?_
          refine p_getI 124 124 dX12_county_121 fX12_72 rfl ?_
          rw [hS.2.1.1]
          refine p_callV2v 124 127 dX12_county_124 (s_wrongS hn hp1 hS) lk_X12_118 mX12_wrong rfl rfl (by decide) (Nat.le_of_ble_eq_true rfl) ?_
          intro M8 hF9
          refine p_aload_n 128 dX12_county_127 rfl rfl (by decide) ?_
          refine p_getI 124 131 dX12_county_128 fX12_91 rfl ?_
          rw [hF9.2.1]
          refine p_if_ne 162 134 dX12_county_131 (by decide) (by decide) (fun h131 => ?_) (fun h131 => absurd (h131 (by decide)) (fun h9 : False => h9))
          exact hQ _ (by
            rw [q_lines_s, hz]
            show MZ t n (if q_tk t n p1 = 59 then _ else if q_tk t n p1 ≠ 0 then _ else if ρ1 0 = 0 ∨ ρ1 2 = 0 then _ else _) N _
            rw [if_neg hc59, if_pos hc0]
            exact hF9)
      · have hc59 : q_tk t n p1 = 59 := by omega
        have hat := q_tk_lt (t := t) (n := n) (p := p1) (by omega)
        have hal := q_at_le t hp1
        have hel := q_en_le t hp1
        exact absurd hat (by omega)
  | succ f ih =>
    intro p ρ M9 hnp hp hP hX hQ
    rcases hX.cases with ⟨e1, hz, hF⟩ | ⟨p1, ρ1, hz, hS⟩
    · refine p_aload_n 78 dX12_county_77 rfl rfl (by decide) ?_
      refine p_getI 124 81 dX12_county_78 fX12_91 rfl ?_
      rw [hF.2.1]
      refine p_if_ne 104 84 dX12_county_81 (by decide) (by decide) (fun h81 => ?_) (fun h81 => absurd (h81 (by decide)) (fun h9 : False => h9))
      refine p_aload_n 105 dX12_county_104 rfl rfl (by decide) ?_
      refine p_getI 124 108 dX12_county_105 fX12_91 rfl ?_
      rw [hF.2.1]
      refine p_if_ne 127 111 dX12_county_108 (by decide) (by decide) (fun h108 => ?_) (fun h108 => absurd (h108 (by decide)) (fun h9 : False => h9))
      refine p_aload_n 128 dX12_county_127 rfl rfl (by decide) ?_
      refine p_getI 124 131 dX12_county_128 fX12_91 rfl ?_
      rw [hF.2.1]
      refine p_if_ne 162 134 dX12_county_131 (by decide) (by decide) (fun h131 => ?_) (fun h131 => absurd (h131 (by decide)) (fun h9 : False => h9))
      exact hQ _ (by rw [q_lines_s, hz]; exact hF)
    · obtain ⟨hP1, hpp, hp1, h10⟩ := q_line_ok hp hP hz
      have htk := q_tk_cases t n p1
      have b0 := hP1.1.1 0 (by decide)
      have b2 := hP1.1.1 2 (by decide)
      have bR := hP1.1.2.1
      refine p_aload_n 78 dX12_county_77 rfl rfl (by decide) ?_
      refine p_getI 124 81 dX12_county_78 fX12_91 rfl ?_
      rw [hS.2.2.1]
      refine p_if_ne 104 84 dX12_county_81 (by decide) (by decide) (fun h81 => absurd (absurd rfl h81) (fun h9 : False => h9)) (fun h81 => ?_)
      refine p_aload_n 85 dX12_county_84 rfl rfl (by decide) ?_
      refine p_getI 124 88 dX12_county_85 fX12_81 rfl ?_
      rw [hS.2.1.2.2.1]
      refine p_bipush 90 dX12_county_88 rfl ?_
      refine p_icmp_ne 104 93 dX12_county_90 (by omega) (by omega) (by omega) (by omega) (fun h90 => ?_) (fun h90 => ?_)
      · have hc59 : ¬ q_tk t n p1 = 59 := by omega
        refine p_aload_n 105 dX12_county_104 rfl rfl (by decide) ?_
        refine p_getI 124 108 dX12_county_105 fX12_91 rfl ?_
        rw [hS.2.2.1]
        refine p_if_ne 127 111 dX12_county_108 (by decide) (by decide) (fun h108 => absurd (absurd rfl h108) (fun h9 : False => h9)) (fun h108 => ?_)
        refine p_aload_n 112 dX12_county_111 rfl rfl (by decide) ?_
        refine p_getI 124 115 dX12_county_112 fX12_81 rfl ?_
        rw [hS.2.1.2.2.1]
        refine p_if_eq 127 118 dX12_county_115 (by omega) (by omega) (fun h115 => ?_) (fun h115 => ?_)
        · have hc0 : ¬ q_tk t n p1 ≠ 0 := by omega
          refine p_aload_n 128 dX12_county_127 rfl rfl (by decide) ?_
          refine p_getI 124 131 dX12_county_128 fX12_91 rfl ?_
          rw [hS.2.2.1]
          refine p_if_ne 162 134 dX12_county_131 (by decide) (by decide) (fun h131 => absurd (absurd rfl h131) (fun h9 : False => h9)) (fun h131 => ?_)
          refine p_aload_n 135 dX12_county_134 rfl rfl (by decide) ?_
          refine p_getR 124 138 dX12_county_135 fX12_23 rfl (hS.1.1 (124, 16, 128) (by decide)) ?_
          refine p_iconst 139 dX12_county_138 ?_
          refine p_ialdn 128 140 (0) dX12_county_139 rfl (by omega) (by omega) ?_
          rw [hS.2.2.2.1 0 (by decide)]
          refine p_if_eq 152 143 dX12_county_140 (by omega) (by omega) (fun h140 => ?_) (fun h140 => ?_)
          · refine p_aload_n 153 dX12_county_152 rfl rfl (by decide) ?_
            refine p_bipush 155 dX12_county_153 rfl ?_
            refine p_aload_n 156 dX12_county_155 rfl rfl (by decide) ?_
            refine p_getI 124 159 dX12_county_156 fX12_72 rfl ?_
            rw [hS.2.1.1]
            refine p_callV2v 124 162 dX12_county_159 (s_wrongS hn hp1 hS) lk_X12_118 mX12_wrong rfl rfl (by decide) (Nat.le_of_ble_eq_true rfl) ?_
            intro M8 hF9
            first
              | exact hQ _ (by
                  rw [q_lines_s, hz]
                  show MZ t n (if q_tk t n p1 = 59 then _ else if q_tk t n p1 ≠ 0 then _ else if ρ1 0 = 0 ∨ ρ1 2 = 0 then _ else _) N _
                  rw [if_neg hc59, if_neg hc0, if_neg (fun g => g.elim (by omega) (by omega))]; exact ⟨p1, hS⟩)
              | exact hQ _ (by
                  rw [q_lines_s, hz]
                  show MZ t n (if q_tk t n p1 = 59 then _ else if q_tk t n p1 ≠ 0 then _ else if ρ1 0 = 0 ∨ ρ1 2 = 0 then _ else _) N _
                  rw [if_neg hc59, if_neg hc0, if_pos (by omega)]; exact hF9)
          · refine p_aload_n 144 dX12_county_143 rfl rfl (by decide) ?_
            refine p_getR 124 147 dX12_county_144 fX12_23 rfl (hS.1.1 (124, 16, 128) (by decide)) ?_
            refine p_iconst 148 dX12_county_147 ?_
            refine p_ialdn 128 149 (2) dX12_county_148 rfl (by omega) (by omega) ?_
            rw [hS.2.2.2.1 2 (by decide)]
            refine p_if_ne 162 152 dX12_county_149 (by omega) (by omega) (fun h149 => ?_) (fun h149 => ?_)
            · first
                | exact hQ _ (by
                    rw [q_lines_s, hz]
                    show MZ t n (if q_tk t n p1 = 59 then _ else if q_tk t n p1 ≠ 0 then _ else if ρ1 0 = 0 ∨ ρ1 2 = 0 then _ else _) N _
                    rw [if_neg hc59, if_neg hc0, if_neg (fun g => g.elim (by omega) (by omega))]; exact ⟨p1, hS⟩)
                | exact hQ _ (by
                    rw [q_lines_s, hz]
                    show MZ t n (if q_tk t n p1 = 59 then _ else if q_tk t n p1 ≠ 0 then _ else if ρ1 0 = 0 ∨ ρ1 2 = 0 then _ else _) N _
                    rw [if_neg hc59, if_neg hc0, if_pos (by omega)]; exact hF9)
            · refine p_aload_n 153 dX12_county_152 rfl rfl (by decide) ?_
              refine p_bipush 155 dX12_county_153 rfl ?_
              refine p_aload_n 156 dX12_county_155 rfl rfl (by decide) ?_
              refine p_getI 124 159 dX12_county_156 fX12_72 rfl ?_
              rw [hS.2.1.1]
              refine p_callV2v 124 162 dX12_county_159 (s_wrongS hn hp1 hS) lk_X12_118 mX12_wrong rfl rfl (by decide) (Nat.le_of_ble_eq_true rfl) ?_
              intro M8 hF9
              first
                | exact hQ _ (by
                    rw [q_lines_s, hz]
                    show MZ t n (if q_tk t n p1 = 59 then _ else if q_tk t n p1 ≠ 0 then _ else if ρ1 0 = 0 ∨ ρ1 2 = 0 then _ else _) N _
                    rw [if_neg hc59, if_neg hc0, if_neg (fun g => g.elim (by omega) (by omega))]; exact ⟨p1, hS⟩)
                | exact hQ _ (by
                    rw [q_lines_s, hz]
                    show MZ t n (if q_tk t n p1 = 59 then _ else if q_tk t n p1 ≠ 0 then _ else if ρ1 0 = 0 ∨ ρ1 2 = 0 then _ else _) N _
                    rw [if_neg hc59, if_neg hc0, if_pos (by omega)]; exact hF9)
        · have hc0 : q_tk t n p1 ≠ 0 := by omega
          refine p_aload_n 119 dX12_county_118 rfl rfl (by decide) ?_
          refine p_iconst 120 dX12_county_119 ?_
          refine p_aload_n 121 dX12_county_120 rfl rfl (by decide) ?_
          refine p_getI 124 124 dX12_county_121 fX12_72 rfl ?_
          rw [hS.2.1.1]
          refine p_callV2v 124 127 dX12_county_124 (s_wrongS hn hp1 hS) lk_X12_118 mX12_wrong rfl rfl (by decide) (Nat.le_of_ble_eq_true rfl) ?_
          intro M8 hF9
          refine p_aload_n 128 dX12_county_127 rfl rfl (by decide) ?_
          refine p_getI 124 131 dX12_county_128 fX12_91 rfl ?_
          rw [hF9.2.1]
          refine p_if_ne 162 134 dX12_county_131 (by decide) (by decide) (fun h131 => ?_) (fun h131 => absurd (h131 (by decide)) (fun h9 : False => h9))
          exact hQ _ (by
            rw [q_lines_s, hz]
            show MZ t n (if q_tk t n p1 = 59 then _ else if q_tk t n p1 ≠ 0 then _ else if ρ1 0 = 0 ∨ ρ1 2 = 0 then _ else _) N _
            rw [if_neg hc59, if_pos hc0]
            exact hF9)
      · have hc59 : q_tk t n p1 = 59 := by omega
        have hat := q_tk_lt (t := t) (n := n) (p := p1) (by omega)
        have hal := q_at_le t hp1
        have hel := q_en_le t hp1
        refine p_aload_n 94 dX12_county_93 rfl rfl (by decide) ?_
        refine p_callV0v 124 97 dX12_county_94 (s_goOn hn ht hS.1 (p := q_en t n p1) (q_en_n t hp1) hS.2.1.2.1) lk_X12_112 mX12_goOn rfl rfl (by decide) (Nat.le_of_ble_eq_true rfl) ?_
        rintro M7 ⟨kk9, hT9⟩
        have hS := hS.adv kk9 hT9
        refine p_aload_n 98 dX12_county_97 rfl rfl (by decide) ?_
        refine p_callV0v 124 101 dX12_county_98 (s_readLineS hn ht (q_en_n t hp1) hS hP1) lk_X12_171 mX12_readLine rfl rfl (by decide) (Nat.le_of_ble_eq_true rfl) ?_
        intro M8 hX8
        refine p_goto 77 dX12_county_101 ?_
        refine ih (q_en t n p1) ρ1 M8 (by omega) (q_en_n t hp1) hP1 hX8 (fun M6 hZ => hQ M6 ?_)
        rw [q_lines_s, hz]
        show MZ t n (if q_tk t n p1 = 59 then _ else _) N M6
        rw [if_pos hc59]
        exact hZ
theorem l_clr39 {l : Launch} {X : ZX} {N : ZM} {v : Int} (hW : zWm N) {Q : Option ZV → ZM → Prop} (hQ : ∀ M' : ZM, (∀ a, a ≠ 128 → M' a = N a) → (∀ k, k < 421 → M' 128 k = 0) → (∀ k, 421 ≤ k → M' 128 k = N 128 k) → zP l X 11 tX12_county 59 [some (zr 124), some (zi v), some (zi 421)] [] M' Q) : ∀ (j i : Nat), i + j = 421 → ∀ M9 : ZM, (∀ a, a ≠ 128 → M9 a = N a) → (∀ k, k < i → M9 128 k = 0) → (∀ k, 421 ≤ k → M9 128 k = N 128 k) → zP l X 11 tX12_county 39 [some (zr 124), some (zi v), some (zi (i : Int))] [] M9 Q := by
  intro j
  induction j with
  | zero =>
    intro i hi M9 h1 h2 h3
    rw [Nat.add_zero] at hi
    subst hi
    refine p_iload_n 40 dX12_county_39 rfl rfl ?_
    refine p_sipush 43 dX12_county_40 rfl ?_
    refine p_icmp_ge 59 46 dX12_county_43 (by omega) (by omega) (by omega) (by omega) (fun h43 => ?_) (fun h43 => absurd (by omega) (fun h9 : False => h9))
    exact hQ M9 h1 h2 h3
  | succ j ih =>
    intro i hi M9 h1 h2 h3
    refine p_iload_n 40 dX12_county_39 rfl rfl ?_
    refine p_sipush 43 dX12_county_40 rfl ?_
    refine p_icmp_ge 59 46 dX12_county_43 (by omega) (by omega) (by omega) (by omega) (fun h43 => absurd (by omega) (fun h9 : False => h9)) (fun h43 => ?_)
    refine p_aload_n 47 dX12_county_46 rfl rfl (by decide) ?_
    refine p_getR 124 50 dX12_county_47 fX12_23 rfl ((hW.eq (h1 124 (by decide))) (124, 16, 128) (by decide)) ?_
    refine p_iload_n 51 dX12_county_50 rfl rfl ?_
    refine p_iconst 52 dX12_county_51 ?_
    refine p_iastn 128 53 (i) dX12_county_52 rfl (by omega) (by omega) ?_
    refine p_iinc 56 dX12_county_53 rfl rfl rfl ?_
    dsimp only [List.set]
    refine p_goto 39 dX12_county_56 ?_
    exact ih (i + 1) (by omega) _ (fun a ha => (zset_ne M9 ha).trans (h1 a ha)) (fun k hk => by
      by_cases e : k = i
      · subst e; exact zset_at _ _ _ _
      · rw [zset_k e]; exact h2 k (by omega)) (fun k hk => by rw [zset_k (by omega)]; exact h3 k hk)
theorem l_clr193 {l : Launch} {X : ZX} {N : ZM} {v : Int} (hW : zWm N) {Q : Option ZV → ZM → Prop} (hQ : ∀ M' : ZM, (∀ a, a ≠ 129 → M' a = N a) → (∀ k, k < 18 → M' 129 k = 0) → (∀ k, 18 ≤ k → M' 129 k = N 129 k) → zP l X 11 tX12_county 212 [some (zr 124), some (zi v), some (zi 18)] [] M' Q) : ∀ (j i : Nat), i + j = 18 → ∀ M9 : ZM, (∀ a, a ≠ 129 → M9 a = N a) → (∀ k, k < i → M9 129 k = 0) → (∀ k, 18 ≤ k → M9 129 k = N 129 k) → zP l X 11 tX12_county 193 [some (zr 124), some (zi v), some (zi (i : Int))] [] M9 Q := by
  intro j
  induction j with
  | zero =>
    intro i hi M9 h1 h2 h3
    rw [Nat.add_zero] at hi
    subst hi
    refine p_iload_n 194 dX12_county_193 rfl rfl ?_
    refine p_bipush 196 dX12_county_194 rfl ?_
    refine p_icmp_ge 212 199 dX12_county_196 (by omega) (by omega) (by omega) (by omega) (fun h196 => ?_) (fun h196 => absurd (by omega) (fun h9 : False => h9))
    exact hQ M9 h1 h2 h3
  | succ j ih =>
    intro i hi M9 h1 h2 h3
    refine p_iload_n 194 dX12_county_193 rfl rfl ?_
    refine p_bipush 196 dX12_county_194 rfl ?_
    refine p_icmp_ge 212 199 dX12_county_196 (by omega) (by omega) (by omega) (by omega) (fun h196 => absurd (by omega) (fun h9 : False => h9)) (fun h196 => ?_)
    refine p_aload_n 200 dX12_county_199 rfl rfl (by decide) ?_
    refine p_getR 124 203 dX12_county_200 fX12_26 rfl ((hW.eq (h1 124 (by decide))) (124, 17, 129) (by decide)) ?_
    refine p_iload_n 204 dX12_county_203 rfl rfl ?_
    refine p_iconst 205 dX12_county_204 ?_
    refine p_iastn 129 206 (i) dX12_county_205 rfl (by omega) (by omega) ?_
    refine p_iinc 209 dX12_county_206 rfl rfl rfl ?_
    dsimp only [List.set]
    refine p_goto 193 dX12_county_209 ?_
    exact ih (i + 1) (by omega) _ (fun a ha => (zset_ne M9 ha).trans (h1 a ha)) (fun k hk => by
      by_cases e : k = i
      · subst e; exact zset_at _ _ _ _
      · rw [zset_k e]; exact h2 k (by omega)) (fun k hk => by rw [zset_k (by omega)]; exact h3 k hk)
theorem ctyS {t : Nat → Int} {n : Nat} {N M3 : ZM} (hB : MB t n N) (kk : MK N M3) (hT : TM t n 0 M3) (h13 : N 124 13 = 0) (h128 : ∀ i, i < 421 → N 128 i = 0) : MS t n 0 (fun _ => 0) N M3 :=
  ⟨hB.of kk, hT, (kk.2 13 (by omega)).trans h13, fun i hi => by rw [kk.1 128 (by decide) (by decide)]; exact h128 i hi, fun a g1 g2 _ => kk.1 a g1 g2, fun k k0 _ => kk.2 k k0⟩
theorem cty_o {M M1 : ZM} {n : Nat} (h1 : ∀ a, a ≠ 128 → M1 a = (zset (zset (zset (zset (zset M 124 0 0) 124 11 0) 124 2 0) 124 9 0) 124 13 0) a) : (∀ a, a ≠ 124 → a ≠ 128 → (zset (zset M1 124 3 (n : Int)) 124 5 0) a = M a) ∧ (zset (zset M1 124 3 (n : Int)) 124 5 0) 124 2 = 0 ∧ (zset (zset M1 124 3 (n : Int)) 124 5 0) 124 9 = 0 ∧ (zset (zset M1 124 3 (n : Int)) 124 5 0) 124 11 = 0 ∧ ∀ k, k ≠ 0 → k ≠ 2 → k ≠ 3 → k ≠ 5 → k ≠ 9 → k ≠ 11 → k ≠ 13 → (zset (zset M1 124 3 (n : Int)) 124 5 0) 124 k = M 124 k := by
  have e : M1 124 = (zset (zset (zset (zset (zset M 124 0 0) 124 11 0) 124 2 0) 124 9 0) 124 13 0) 124 := h1 124 (by decide)
  refine ⟨fun a g1 g2 => by rw [zset_ne _ g1, zset_ne _ g1, h1 a g2, zset_ne _ g1, zset_ne _ g1, zset_ne _ g1, zset_ne _ g1, zset_ne _ g1], ?_, ?_, ?_, fun k k0 k2 k3 k5 k9 k11 k13 => ?_⟩
  · rw [zset_k (by decide), zset_k (by decide), e]; rfl
  · rw [zset_k (by decide), zset_k (by decide), e]; rfl
  · rw [zset_k (by decide), zset_k (by decide), e]; rfl
  · rw [zset_k k5, zset_k k3, e, zset_k k13, zset_k k9, zset_k k2, zset_k k11, zset_k k0]
theorem ctyF {M M1 M5 : ZM} {n : Nat} (hW : zWm M) (h1 : ∀ a, a ≠ 128 → M1 a = (zset (zset (zset (zset (zset M 124 0 0) 124 11 0) 124 2 0) 124 9 0) 124 13 0) a) (hz : 0 ≤ (n : Int) ∧ (n : Int) ≤ M 124 2) {e : Int × Int} (hq : q_parse (M 125) n = .inl e) (hF : MF e (zset (zset M1 124 3 (n : Int)) 124 5 0) M5) : MA M (ga_county M (n : Int)) (-1) (zset M5 124 11 4) := by
  have hg : ga_county M (n : Int) = (-1, q_bad M e) := ga_county_l hz.2 hq
  obtain ⟨o1, o2, o3, o4, o5⟩ := cty_o h1 (n := n)
  obtain ⟨f1, f2, f3, f4, f5, f6, f7⟩ := hF
  have r : ∀ a, a ≠ 124 → a ≠ 126 → a ≠ 128 → zset M5 124 11 4 a = M a := fun a g1 g2 g3 => by rw [zset_ne _ g1, f6 a g1 g2 g3, o1 a g1 g3]
  have b : ∀ a, a ≠ 124 → q_bad M e a = M a := fun a g => by unfold q_bad; rw [zset_ne _ g, zset_ne _ g, zset_ne _ g, zset_ne _ g]
  have s : ∀ k, k = 14 ∨ k = 20 ∨ k = 21 → zset M5 124 11 4 124 k = q_bad M e 124 k := fun k hk => by
    unfold q_bad
    rw [zset_k (by omega), f7 k (by omega) (by omega) (by omega) (by omega), o5 k (by omega) (by omega) (by omega) (by omega) (by omega) (by omega) (by omega), zset_k (by omega), zset_k (by omega), zset_k (by omega), zset_k (by omega)]
  rw [hg]
  refine ⟨rfl, fun k hk => r k (by omega) (by omega) (by omega), f1.set (by decide +kernel), ?_⟩
  show Obs (q_bad M e) _
  refine ⟨?_, ?_, ?_, ?_, ?_, ?_, ?_, ?_, ?_, s 14 (by omega), s 20 (by omega), s 21 (by omega)⟩
  · rw [r _ (by decide) (by decide) (by decide), b _ (by decide)]
  · rw [r _ (by decide) (by decide) (by decide), b _ (by decide)]
  · rw [r _ (by decide) (by decide) (by decide), b _ (by decide)]
  · rw [r _ (by decide) (by decide) (by decide), b _ (by decide)]
  · rw [r _ (by decide) (by decide) (by decide), b _ (by decide)]
  · rw [zset_k (by decide), f7 2 (by omega) (by omega) (by omega) (by omega), o2]; unfold q_bad; rw [zset_k (by decide), zset_k (by decide), zset_k (by decide), zset_at]
  · rw [zset_k (by decide), f3]; unfold q_bad; rw [zset_k (by decide), zset_k (by decide), zset_at]
  · rw [zset_k (by decide), f4]; unfold q_bad; rw [zset_k (by decide), zset_at]
  · rw [zset_at]; unfold q_bad; rw [zset_at]
theorem ctyG {M M1 M5 : ZM} {n : Nat} (hW : zWm M) (h1 : ∀ a, a ≠ 128 → M1 a = (zset (zset (zset (zset (zset M 124 0 0) 124 11 0) 124 2 0) 124 9 0) 124 13 0) a) (hz : 0 ≤ (n : Int) ∧ (n : Int) ≤ M 124 2) {p : Nat} {ρ : Nat → Int} (hq : q_parse (M 125) n = .inr ρ) (hS : MS (M 125) n p ρ (zset (zset M1 124 3 (n : Int)) 124 5 0) M5) {M7 : ZM} (g1 : ∀ a, a ≠ 129 → M7 a = zcopy M5 128 0 127 0 421 a) (g2 : ∀ k, k < 18 → M7 129 k = 0) (g3 : ∀ k, 18 ≤ k → M7 129 k = zcopy M5 128 0 127 0 421 129 k) : MA M (ga_county M (n : Int)) (zset (zset (zset M7 124 14 1) 124 20 0) 124 21 0 127 2) (zset (zset (zset M7 124 14 1) 124 20 0) 124 21 0) := by
  have hg : ga_county M (n : Int) = (ρ 2, q_cty M ρ) := ga_county_r hz.2 hq
  obtain ⟨o1, o2, o3, o4, o5⟩ := cty_o h1 (n := n)
  obtain ⟨sB, sT, s13, sr, sa, sk⟩ := hS
  have q0 : ∀ a, a ≠ 124 → zset (zset (zset M7 124 14 1) 124 20 0) 124 21 0 a = M7 a := fun a g => by rw [zset_ne _ g, zset_ne _ g, zset_ne _ g]
  have r : ∀ a, a ≠ 124 → a ≠ 126 → a ≠ 127 → a ≠ 128 → a ≠ 129 → zset (zset (zset M7 124 14 1) 124 20 0) 124 21 0 a = M a := fun a h4 h6 h7 h8 h9 => by rw [q0 a h4, g1 a h9, zcopy_ne _ h7, sa a h4 h6 h8, o1 a h4 h8]
  have r127 : M7 127 = fun b => if b < 421 then ρ b else M 127 b := by
    funext b
    rw [g1 127 (by decide)]
    show (if 127 = 127 ∧ 0 ≤ b ∧ b < 0 + 421 then M5 128 (0 + (b - 0)) else M5 127 b) = _
    by_cases hb : b < 421
    · rw [if_pos ⟨rfl, by omega, by omega⟩, if_pos hb, show 0 + (b - 0) = b by omega, sr b hb]
    · rw [if_neg (fun g => hb (by omega)), if_neg hb, sa 127 (by decide) (by decide) (by decide), o1 127 (by decide) (by decide)]
  have r129 : M7 129 = fun b => if b < 18 then 0 else M 129 b := by
    funext b
    show M7 129 b = if b < 18 then 0 else M 129 b
    by_cases hb : b < 18
    · rw [if_pos hb]; exact g2 b hb
    · rw [if_neg hb, g3 b (by omega), zcopy_ne _ (by decide), sa 129 (by decide) (by decide) (by decide), o1 129 (by decide) (by decide)]
  have s7 : ∀ k, k < 4 ∨ 8 < k → k ≠ 13 → M7 124 k = (zset (zset M1 124 3 (n : Int)) 124 5 0) 124 k := fun k k0 k1 => by rw [g1 124 (by decide), zcopy_ne _ (by decide)]; exact sk k k0 k1
  have hW7 : zWm M7 := sB.1.eq (by rw [g1 124 (by decide), zcopy_ne _ (by decide)])
  rw [hg]
  refine ⟨?_, fun k hk => r k (by omega) (by omega) (by omega) (by omega) (by omega), ((hW7.set (by decide +kernel)).set (by decide +kernel)).set (by decide +kernel), ?_⟩
  · rw [q0 127 (by decide), r127]; rfl
  show Obs (q_cty M ρ) _
  refine ⟨?_, ?_, ?_, ?_, ?_, ?_, ?_, ?_, ?_, ?_, ?_, ?_⟩
  · rw [r _ (by decide) (by decide) (by decide) (by decide) (by decide)]; rfl
  · rw [q0 127 (by decide), r127]; rfl
  · rw [q0 129 (by decide), r129]; rfl
  · rw [r _ (by decide) (by decide) (by decide) (by decide) (by decide)]; rfl
  · rw [r _ (by decide) (by decide) (by decide) (by decide) (by decide)]; rfl
  · rw [zset_k (by decide), zset_k (by decide), zset_k (by decide), s7 2 (by omega) (by omega), o2]; rfl
  · rw [zset_k (by decide), zset_k (by decide), zset_k (by decide), s7 9 (by omega) (by omega), o3]; rfl
  · rw [zset_k (by decide), zset_k (by decide), zset_k (by decide), s7 10 (by omega) (by omega), o5 10 (by omega) (by omega) (by omega) (by omega) (by omega) (by omega) (by omega)]; rfl
  · rw [zset_k (by decide), zset_k (by decide), zset_k (by decide), s7 11 (by omega) (by omega), o4]; rfl
  · rw [zset_k (by decide), zset_k (by decide), zset_at]; rfl
  · rw [zset_k (by decide), zset_at]; rfl
  · rw [zset_at]; rfl
theorem m_county {l : Launch} {X : ZX} {M : ZM} (hW : zWm M) (hF : WF M) {v : Int} (hv1 : -2147483648 ≤ v) (hv2 : v < 2147483648) : zCi l X 11 yX12_county tX12_county [zr 124, zi v] M (MA M (ga_county M v)) := by
  have htp := hF.1
  have htx := hF.2.1
  refine zC.of [some (zr 124), some (zi v), none] (by decide +kernel) rfl rfl (Nat.le_of_ble_eq_true rfl) rfl ?_
  refine p_aload_n 1 dX12_county_0 rfl rfl (by decide) ?_
  refine p_callV0v 124 4 dX12_county_1 s_good lk_X12_165 mX12_good rfl rfl (by decide) (Nat.le_of_ble_eq_true rfl) ?_
  rintro _ rfl
  refine p_iload_n 5 dX12_county_4 rfl rfl ?_
  refine p_iconst 6 dX12_county_5 ?_
  refine p_aload_n 7 dX12_county_6 rfl rfl (by decide) ?_
  refine p_getI 124 10 dX12_county_7 fX12_59 rfl ?_
  rw [zset_k (by decide), zset_k (by decide)]
  refine p_callS3i 13 dX12_county_10 (s_in (by omega) (by omega) (by omega) (by omega) (by omega) (by omega)) lk_X12_146 mX12_in (by decide) (Nat.le_of_ble_eq_true rfl) ?_
  rintro _ _ ⟨rfl, e9⟩
  have e9 := e9.symm
  subst e9
  refine p_if_ne 22 16 dX12_county_13 (by split <;> omega) (by split <;> omega) (fun h13 => ?_) (fun h13 => ?_)
  · have hin := if_ne0 h13
    obtain ⟨n, rfl⟩ : ∃ k : Nat, v = (k : Int) := ⟨v.toNat, by omega⟩
    have hz := hin
    have hn : n ≤ 900 := by omega
    have ht : ∀ i, i < n → 0 ≤ M 125 i ∧ M 125 i < 256 := fun i hi => htx i (by omega)
    refine p_aload_n 23 dX12_county_22 rfl rfl (by decide) ?_
    refine p_iconst 24 dX12_county_23 ?_
    refine p_putI 124 27 dX12_county_24 wX12_59 rfl ?_
    refine p_aload_n 28 dX12_county_27 rfl rfl (by decide) ?_
    refine p_iconst 29 dX12_county_28 ?_
    refine p_putI 124 32 dX12_county_29 wX12_95 rfl ?_
    refine p_aload_n 33 dX12_county_32 rfl rfl (by decide) ?_
    refine p_iconst 34 dX12_county_33 ?_
    refine p_putZ 124 37 dX12_county_34 wX12_91 rfl (by decide) ?_
    refine p_iconst 38 dX12_county_37 ?_
    refine p_istore_n 39 dX12_county_38 rfl (Nat.le_of_ble_eq_true rfl) rfl rfl ?_
    dsimp only [List.set]
    have hWN : zWm (zset (zset (zset (zset (zset M 124 0 0) 124 11 0) 124 2 0) 124 9 0) 124 13 0) := ((((hW.set (by decide +kernel)).set (by decide +kernel)).set (by decide +kernel)).set (by decide +kernel)).set (by decide +kernel)
    refine l_clr39 hWN (fun M1 h1 h2 h3 => ?_) 421 0 (by omega) _ (fun _ _ => rfl) (fun k hk => absurd hk (by omega)) (fun _ _ => rfl)
    refine p_aload_n 60 dX12_county_59 rfl rfl (by decide) ?_
    refine p_iload_n 61 dX12_county_60 rfl rfl ?_
    refine p_putI 124 64 dX12_county_61 wX12_62 rfl ?_
    refine p_aload_n 65 dX12_county_64 rfl rfl (by decide) ?_
    refine p_iconst 66 dX12_county_65 ?_
    refine p_putI 124 69 dX12_county_66 wX12_65 rfl ?_
    have hW1 : zWm M1 := hWN.eq (h1 124 (by decide))
    have hB2 : MB (M 125) n (zset (zset M1 124 3 (n : Int)) 124 5 0) := ⟨(hW1.set (by decide +kernel)).set (by decide +kernel), by rw [zset_k (by decide), zset_at], fun i hi => by rw [zset_ne _ (by decide), zset_ne _ (by decide), h1 125 (by decide)]; rfl⟩
    refine p_aload_n 70 dX12_county_69 rfl rfl (by decide) ?_
    refine p_callV0v 124 73 dX12_county_70 (s_goOn hn ht hB2 (p := 0) (Nat.zero_le n) (zset_at _ _ _ _)) lk_X12_112 mX12_goOn rfl rfl (by decide) (Nat.le_of_ble_eq_true rfl) ?_
    rintro M3 ⟨kk, hT⟩
    have hS := ctyS hB2 kk hT (by rw [zset_k (by decide), zset_k (by decide), h1 124 (by decide)]; rfl) (fun i hi => by rw [zset_ne _ (by decide), zset_ne _ (by decide)]; exact h2 i hi)
    refine p_aload_n 74 dX12_county_73 rfl rfl (by decide) ?_
    refine p_callV0v 124 77 dX12_county_74 (s_readLineS hn ht (Nat.zero_le n) hS PI.zero) lk_X12_171 mX12_readLine rfl rfl (by decide) (Nat.le_of_ble_eq_true rfl) ?_
    intro M4 hX
    refine l_ctyL hn ht n 0 _ M4 (by omega) (Nat.zero_le n) PI.zero hX (fun M5 hZ => ?_)
    rcases hq : q_parse (M 125) n with e | ρ
    · have hF5 : MF e (zset (zset M1 124 3 (n : Int)) 124 5 0) M5 := by
        have hZ : MZ (M 125) n (q_parse (M 125) n) (zset (zset M1 124 3 (n : Int)) 124 5 0) M5 := hZ
        rw [hq] at hZ
        exact hZ
      refine p_aload_n 163 dX12_county_162 rfl rfl (by decide) ?_
      refine p_getI 124 166 dX12_county_163 fX12_91 rfl ?_
      rw [hF5.2.1]
      refine p_if_eq 175 169 dX12_county_166 (by decide) (by decide) (fun h166 => absurd (absurd h166 (by decide)) (fun h9 : False => h9)) (fun h166 => ?_)
      refine p_aload_n 170 dX12_county_169 rfl rfl (by decide) ?_
      refine p_iconst 171 dX12_county_170 ?_
      refine p_callV1i 124 174 dX12_county_171 s_no lk_X12_168 mX12_no rfl rfl (by decide) (Nat.le_of_ble_eq_true rfl) ?_
      rintro _ _ ⟨rfl, rfl⟩
      refine p_iret dX12_county_174 rfl ?_
      exact ⟨_, rfl, ctyF hW h1 hz hq hF5⟩
    · obtain ⟨p5, hS5⟩ : ∃ p, MS (M 125) n p ρ (zset (zset M1 124 3 (n : Int)) 124 5 0) M5 := by
        have hZ : MZ (M 125) n (q_parse (M 125) n) (zset (zset M1 124 3 (n : Int)) 124 5 0) M5 := hZ
        rw [hq] at hZ
        exact hZ
      refine p_aload_n 163 dX12_county_162 rfl rfl (by decide) ?_
      refine p_getI 124 166 dX12_county_163 fX12_91 rfl ?_
      rw [hS5.2.2.1]
      refine p_if_eq 175 169 dX12_county_166 (by decide) (by decide) (fun h166 => ?_) (fun h166 => absurd (h166 rfl) (fun h9 : False => h9))
      refine p_aload_n 176 dX12_county_175 rfl rfl (by decide) ?_
      refine p_getR 124 179 dX12_county_176 fX12_23 rfl (hS5.1.1 (124, 16, 128) (by decide)) ?_
      refine p_iconst 180 dX12_county_179 ?_
      refine p_aload_n 181 dX12_county_180 rfl rfl (by decide) ?_
      refine p_getR 124 184 dX12_county_181 fX12_20 rfl (hS5.1.1 (124, 15, 127) (by decide)) ?_
      refine p_iconst 185 dX12_county_184 ?_
      refine p_sipush 188 dX12_county_185 rfl ?_
      refine p_callS5v 191 dX12_county_188 (s_copy (f := 128) (t := 127) (lf := 421) (lt := 421) (a := 0) (i := 0) (m := 421) rfl rfl (by decide) (by decide) (by decide) (by decide)) lk_X12_174 mX12_copy (by decide) (Nat.le_of_ble_eq_true rfl) ?_
      rintro _ rfl
      refine p_iconst 192 dX12_county_191 ?_
      refine p_istore_n 193 dX12_county_192 rfl (Nat.le_of_ble_eq_true rfl) rfl rfl ?_
      dsimp only [List.set]
      have hW6 : zWm (zcopy M5 128 0 127 0 421) := hS5.1.1.eq (zcopy_ne M5 (by decide))
      refine l_clr193 hW6 (fun M7 g1 g2 g3 => ?_) 18 0 (by omega) _ (fun _ _ => rfl) (fun k hk => absurd hk (by omega)) (fun _ _ => rfl)
      have hW7 : zWm M7 := hW6.eq (g1 124 (by decide))
      refine p_aload_n 213 dX12_county_212 rfl rfl (by decide) ?_
      refine p_iconst 214 dX12_county_213 ?_
      refine p_putZ 124 217 dX12_county_214 wX12_178 rfl (by decide) ?_
      refine p_aload_n 218 dX12_county_217 rfl rfl (by decide) ?_
      refine p_iconst 219 dX12_county_218 ?_
      refine p_putI 124 222 dX12_county_219 wX12_181 rfl ?_
      refine p_aload_n 223 dX12_county_222 rfl rfl (by decide) ?_
      refine p_iconst 224 dX12_county_223 ?_
      refine p_putI 124 227 dX12_county_224 wX12_184 rfl ?_
      refine p_aload_n 228 dX12_county_227 rfl rfl (by decide) ?_
      refine p_getR 124 231 dX12_county_228 fX12_20 rfl (((hW7.set (by decide +kernel)).set (by decide +kernel) |>.set (by decide +kernel)) (124, 15, 127) (by decide)) ?_
      refine p_iconst 232 dX12_county_231 ?_
      refine p_ialdn 127 233 (2) dX12_county_232 rfl (by omega) (by omega) ?_
      refine p_iret dX12_county_233 rfl ?_
      exact ⟨_, rfl, ctyG hW h1 hz hq hS5 g1 g2 g3⟩
  · have hin := if_nne0 h13
    refine p_aload_n 17 dX12_county_16 rfl rfl (by decide) ?_
    refine p_iconst 18 dX12_county_17 ?_
    refine p_callV1i 124 21 dX12_county_18 s_no lk_X12_168 mX12_no rfl rfl (by decide) (Nat.le_of_ble_eq_true rfl) ?_
    rintro _ _ ⟨rfl, rfl⟩
    refine p_iret dX12_county_21 rfl ?_
    exact ⟨_, rfl, MA.no2 hW (by unfold ga_county; rw [if_pos (by omega)])⟩
