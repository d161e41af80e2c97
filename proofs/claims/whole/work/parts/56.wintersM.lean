/-- how far the model's winter is, behind k days -/
def DYs (ρ τ : Nat → Int) (v : Nat) (m : Int) (M N : ZM) (k : Nat) : Prop := Hid M N ∧ N 124 11 = M 124 11 ∧ (∀ x, x < q_n ρ 2 → N 133 x = (q_te ρ x : Int)) ∧ N 124 36 = ((q_hdy ρ τ v k * q_eh ρ : Nat) : Int) ∧ N 124 37 = q_abv ρ τ v m k ∧ ∀ x, x < q_n ρ 2 → N 137 x = τ x + ((q_hdy ρ τ v k * q_harm (q_n ρ) (q_tst ρ) x : Nat) : Int)
theorem q_bs2 {ρ τ : Nat → Int} (hR : wfR ρ) (hT : wfT ρ τ) : q_sum (fun s => (τ s).toNat) (q_n ρ 2) = q_bs τ := (q_harmed7 hR hT).symm
theorem hid_zset {M N : ZM} {k : Nat} {v : Int} (h : Hid M N) (hk : q_hid 124 k = true) : Hid M (zset N 124 k v) := h.set (c := 124) (k := k) (Or.inl hk) (by decide)
theorem hid_137 {M N : ZM} {k : Nat} {v : Int} (h : Hid M N) : Hid M (zset N 137 k v) := h.set (c := 137) (k := k) (Or.inl (by simp [q_hid])) (by decide)
theorem l_winI {l : Launch} {X : ZX} {M : ZM} {ρ : Nat → Int} (hR : wfR ρ) (hR1 : wfR1 ρ) {τ : Nat → Int} (hT : wfT ρ τ) {N : ZM} (hW : zWm N) (hE : ∀ i, i < 421 → N 127 i = ρ i) (hU : ∀ i, i < 18 → N 129 i = τ i) {v n : Nat} {m bb : Int} (hv : v ≤ 65536) (hn : n ≤ 90) (hm0 : 0 ≤ m) (hm1 : m ≤ 9999) {i0 : Nat} (hi0 : i0 < n) (hk : ∀ x, x < q_n ρ 2 → N 133 x = (q_te ρ x : Int)) (hsn : q_draw v (i0 + 1) % 100 < q_n ρ 1) (hw : ¬ 0 < τ 16) {Q : Option ZV → ZM → Prop} (hQ : ∀ (M : ZM) (o8 o9 : Option ZV), (∀ a, a ≠ 124 → a ≠ 137 → M a = N a) → (∀ k, k ≠ 36 → M 124 k = N 124 k) → M 124 36 = N 124 36 + (q_eh ρ : Int) → (∀ x, x < q_n ρ 2 → M 137 x = N 137 x + (q_harm (q_n ρ) (q_tst ρ) x : Int)) → zP l X 13 tX12_winterWhy 215 [some (zr 124), some (zi bb), some (zi m), some (zi (v : Int)), some (zi (n : Int)), some (zi (q_bs τ : Int)), some (zi (q_draw v (i0 + 1) : Int)), some (zi ((i0 : Int) + 1)), o8, o9] [] M Q) : ∀ (j i : Nat), i + j = q_n ρ 2 → ∀ (M : ZM) (o9 : Option ZV), (∀ a, a ≠ 124 → a ≠ 137 → M a = N a) → (∀ k, k ≠ 36 → M 124 k = N 124 k) → M 124 36 = N 124 36 + (q_sum (q_harm (q_n ρ) (q_tst ρ)) i : Int) → (∀ x, x < q_n ρ 2 → M 137 x = N 137 x + (if x < i then (q_harm (q_n ρ) (q_tst ρ) x : Int) else 0)) → zP l X 13 tX12_winterWhy 138 [some (zr 124), some (zi bb), some (zi m), some (zi (v : Int)), some (zi (n : Int)), some (zi (q_bs τ : Int)), some (zi (q_draw v (i0 + 1) : Int)), some (zi ((i0 : Int) + 1)), some (zi (i : Int)), o9] [] M (Q) := by
  have e1 : ρ 1 = (q_n ρ 1 : Int) := hR.n (by decide)
  have b1 := hR.2.1.2.1
  have e2 : ρ 2 = (q_n ρ 2 : Int) := hR.n (by decide)
  have b2 := hR.2.1.2.2.1
  have t160 := hT.1 16 (by decide)
  have t161 := hT.2.2.2.2.1
  have hel := q_eh_le hR
  have hbl := q_bs_le hT
  intro j
  induction j with
  | zero =>
    intro i hi M o9 f1 f2 f3 f4
    have hE9 : ∀ i, i < 421 → M 127 i = ρ i := fun i hi => by rw [f1 127 (by decide) (by decide)]; exact hE i hi
    have hW9 : zWm M := hW.hid (fun a b g1 g2 g3 => by
      by_cases e : a = 124
      · subst e
        exact f2 b (fun e => by subst e; revert g1; decide)
      · exact congrFun (f1 a e (fun e => by subst e; revert g1; simp [q_hid])) b)
    refine p_iload 140 dX12_winterWhy_138 rfl ?_
    refine p_aload_n 141 dX12_winterWhy_140 rfl rfl (by decide) ?_
    refine p_getR 124 144 dX12_winterWhy_141 fX12_20 rfl (hW9 (124, 15, 127) (by decide)) ?_
    refine p_iconst 145 dX12_winterWhy_144 ?_
    refine p_ialdn 127 146 (2) dX12_winterWhy_145 rfl (by omega) (by omega) ?_
    rw [hE9 2 (by decide)]
    refine p_icmp_ge 215 149 dX12_winterWhy_146 (by omega) (by omega) (by omega) (by omega) (fun h146 => ?_) (fun h146 => absurd (by omega) (fun h9 : False => h9))
    rw [Nat.add_zero] at hi
    subst hi
    exact hQ M _ _ f1 f2 f3 (fun x hx => by rw [f4 x hx, if_pos hx])
  | succ j ih =>
    intro i hi M o9 f1 f2 f3 f4
    have hE9 : ∀ i, i < 421 → M 127 i = ρ i := fun i hi => by rw [f1 127 (by decide) (by decide)]; exact hE i hi
    have hW9 : zWm M := hW.hid (fun a b g1 g2 g3 => by
      by_cases e : a = 124
      · subst e
        exact f2 b (fun e => by subst e; revert g1; decide)
      · exact congrFun (f1 a e (fun e => by subst e; revert g1; simp [q_hid])) b)
    have hd1 := q_draw_le hv (i0 + 1)
    have hmd : q_draw v (i0 + 1) % 100 < 100 := Nat.mod_lt _ (by decide)
    refine p_iload 140 dX12_winterWhy_138 rfl ?_
    refine p_aload_n 141 dX12_winterWhy_140 rfl rfl (by decide) ?_
    refine p_getR 124 144 dX12_winterWhy_141 fX12_20 rfl (hW9 (124, 15, 127) (by decide)) ?_
    refine p_iconst 145 dX12_winterWhy_144 ?_
    refine p_ialdn 127 146 (2) dX12_winterWhy_145 rfl (by omega) (by omega) ?_
    rw [hE9 2 (by decide)]
    refine p_icmp_ge 215 149 dX12_winterWhy_146 (by omega) (by omega) (by omega) (by omega) (fun h146 => absurd (by omega) (fun h9 : False => h9)) (fun h146 => ?_)
    refine p_iload 151 dX12_winterWhy_149 rfl ?_
    refine p_bipush 153 dX12_winterWhy_151 rfl ?_
    refine p_irem 154 dX12_winterWhy_153 (by decide) ?_
    rw [z_rem100 (by omega)]
    refine p_aload_n 155 dX12_winterWhy_154 rfl rfl (by decide) ?_
    refine p_getR 124 158 dX12_winterWhy_155 fX12_20 rfl (hW9 (124, 15, 127) (by decide)) ?_
    refine p_iconst 159 dX12_winterWhy_158 ?_
    refine p_ialdn 127 160 (1) dX12_winterWhy_159 rfl (by omega) (by omega) ?_
    rw [hE9 1 (by decide)]
    refine p_icmp_ge 215 163 dX12_winterWhy_160 (by omega) (by omega) (by omega) (by omega) (fun h160 => absurd (by omega) (fun h9 : False => h9)) (fun h160 => ?_)
    refine p_aload_n 164 dX12_winterWhy_163 rfl rfl (by decide) ?_
    refine p_getR 124 167 dX12_winterWhy_164 fX12_26 rfl (hW9 (124, 17, 129) (by decide)) ?_
    refine p_bipush 169 dX12_winterWhy_167 rfl ?_
    refine p_ialdn 129 170 (16) dX12_winterWhy_169 rfl (by omega) (by omega) ?_
    rw [f1 129 (by decide) (by decide), hU 16 (by decide)]
    refine p_if_ne 215 173 dX12_winterWhy_170 (by omega) (by omega) (fun h170 => absurd (by omega) (fun h9 : False => h9)) (fun h170 => ?_)
    refine p_aload_n 174 dX12_winterWhy_173 rfl rfl (by decide) ?_
    refine p_aload_n 175 dX12_winterWhy_174 rfl rfl (by decide) ?_
    refine p_getR 124 178 dX12_winterWhy_175 fX12_38 rfl (hW9 (124, 23, 133) (by decide)) ?_
    refine p_iconst 179 dX12_winterWhy_178 ?_
    refine p_iload 181 dX12_winterWhy_179 rfl ?_
    refine p_callV3i 124 184 dX12_winterWhy_181 (s_harmByR hW9 hE9 hR (v := fun i => (q_te ρ i : Int)) (fun i hi => by rw [Nat.zero_add, f1 133 (by decide) (by decide)]; exact hk i hi) (fun i hi => by show (0 : Int) ≤ ((q_te ρ i : Nat) : Int); omega) (fun i hi => by have := q_te_le hR i; show ((q_te ρ i : Nat) : Int) ≤ 1000; omega) (S := q_tst ρ) (fun i hi => q_tst_bit hi) (s := i) (by omega)) lk_X12_290 mX12_harmBy rfl rfl (by decide) (Nat.le_of_ble_eq_true rfl) ?_
    rintro _ _ ⟨rfl, e9⟩
    have e9 := e9.symm
    subst e9
    refine p_istore 186 dX12_winterWhy_184 (Nat.le_of_ble_eq_true rfl) rfl rfl ?_
    dsimp only [List.set]
    refine p_aload_n 187 dX12_winterWhy_186 rfl rfl (by decide) ?_
    refine p_getR 124 190 dX12_winterWhy_187 fX12_50 rfl (hW9 (124, 35, 137) (by decide +kernel)) ?_
    refine p_iload 192 dX12_winterWhy_190 rfl ?_
    refine p_dup2 193 dX12_winterWhy_192 ?_
    refine p_ialdn 137 194 (i) dX12_winterWhy_193 rfl (by omega) (by omega) ?_
    rw [f4 i (by omega), if_neg (by omega), Int.add_zero]
    refine p_iload 196 dX12_winterWhy_194 rfl ?_
    refine p_iadd 197 dX12_winterWhy_196 ?_
    refine p_iastn 137 198 (i) dX12_winterWhy_197 rfl (by omega) (by omega) ?_
    refine p_aload_n 199 dX12_winterWhy_198 rfl rfl (by decide) ?_
    refine p_dupR 200 dX12_winterWhy_199 ?_
    refine p_getI 124 203 dX12_winterWhy_200 fX12_420 rfl ?_
    rw [zset_ne _ (by decide), f3]
    refine p_iload 205 dX12_winterWhy_203 rfl ?_
    refine p_iadd 206 dX12_winterWhy_205 ?_
    refine p_putI 124 209 dX12_winterWhy_206 wX12_420 rfl ?_
    refine p_iinc 212 dX12_winterWhy_209 rfl rfl rfl ?_
    dsimp only [List.set]
    refine p_goto 138 dX12_winterWhy_212 ?_
    refine ih (i + 1) (by omega) _ _ (fun a g1 g2 => by rw [zset_ne _ g1, zset_ne _ g2]; exact f1 a g1 g2) (fun k g1 => by rw [zset_k g1, zset_ne _ (by decide)]; exact f2 k g1) ?_ (fun x hx => ?_)
    · rw [zset_at]
      show _ = _ + (((q_sum (q_harm (q_n ρ) (q_tst ρ)) i + q_harm (q_n ρ) (q_tst ρ) i : Nat)) : Int)
      omega
    · rw [zset_ne _ (by decide)]
      by_cases e : x = i
      · subst e
        rw [zset_at, if_pos (by omega)]
      · rw [zset_k e, f4 x hx]
        by_cases g : x < i
        · rw [if_pos g, if_pos (by omega)]
        · rw [if_neg g, if_neg (by omega)]
theorem l_winD {l : Launch} {X : ZX} {M : ZM} {ρ : Nat → Int} (hR : wfR ρ) (hR1 : wfR1 ρ) {τ : Nat → Int} (hT : wfT ρ τ) (hW : zWm M) (hE : ∀ i, i < 421 → M 127 i = ρ i) (hU : ∀ i, i < 18 → M 129 i = τ i) {v n : Nat} {m bb : Int} (hv : v ≤ 65536) (hn : n ≤ 90) (hm0 : 0 ≤ m) (hm1 : m ≤ 9999) : ∀ (j i : Nat), i + j = n → ∀ (N : ZM) (o8 o9 : Option ZV), DYs ρ τ v m M N i → zP l X 13 tX12_winterWhy 114 [some (zr 124), some (zi bb), some (zi m), some (zi (v : Int)), some (zi (n : Int)), some (zi (q_bs τ : Int)), some (zi (q_draw v i : Int)), some (zi ((i : Int) + 1)), o8, o9] [] N (fun r M' => r = some (zi 0) ∧ DYs ρ τ v m M M' n) := by
  have e1 : ρ 1 = (q_n ρ 1 : Int) := hR.n (by decide)
  have b1 := hR.2.1.2.1
  have e2 : ρ 2 = (q_n ρ 2 : Int) := hR.n (by decide)
  have b2 := hR.2.1.2.2.1
  have t160 := hT.1 16 (by decide)
  have t161 := hT.2.2.2.2.1
  have hel := q_eh_le hR
  have hbl := q_bs_le hT
  have hr2 := hR1.2.1
  intro j
  induction j with
  | zero =>
    intro i hi N o8 o9 hD
    have hW9 : zWm N := hD.1.wm hW
    refine p_iload 116 dX12_winterWhy_114 rfl ?_
    refine p_iload 118 dX12_winterWhy_116 rfl ?_
    refine p_icmp_gt 245 121 dX12_winterWhy_118 (by omega) (by omega) (by omega) (by omega) (fun h118 => ?_) (fun h118 => absurd (by omega) (fun h9 : False => h9))
    refine p_iconst 246 dX12_winterWhy_245 ?_
    refine p_iret dX12_winterWhy_246 rfl ?_
    rw [Nat.add_zero] at hi
    subst hi
    exact ⟨rfl, hD⟩
  | succ j ih =>
    intro i hi N o8 o9 hD
    obtain ⟨k1, k11, k133, k36, k37, k137⟩ := hD
    have hW9 : zWm N := k1.wm hW
    have hE9 : ∀ i, i < 421 → N 127 i = ρ i := fun i hi => (k1.2 127 i (by simp [q_hid]) (by omega) (by omega)).trans (hE i hi)
    have hU9 : ∀ i, i < 18 → N 129 i = τ i := fun i hi => (k1.2 129 i (by simp [q_hid]) (by omega) (by omega)).trans (hU i hi)
    have hd0 := q_draw_le hv i
    have hd1 := q_draw_le hv (i + 1)
    have hmd : q_draw v (i + 1) % 100 < 100 := Nat.mod_lt _ (by decide)
    have hav := q_abv_le ρ τ v m i
    have hhl := q_hdy_le ρ τ v (i + 1)
    have hpl : q_hdy ρ τ v (i + 1) * q_eh ρ ≤ 91 * 280 := Nat.mul_le_mul (by omega) hel
    have ea : q_abv ρ τ v m (i + 1) = if q_abv ρ τ v m i = 0 ∧ m < ((q_bs τ + q_hdy ρ τ v (i + 1) * q_eh ρ : Nat) : Int) then (i : Int) + 1 else q_abv ρ τ v m i := rfl
    have htail : ∀ (N : ZM) (o8 o9 : Option ZV), Hid M N → N 124 11 = M 124 11 → (∀ x, x < q_n ρ 2 → N 133 x = (q_te ρ x : Int)) → N 124 36 = ((q_hdy ρ τ v (i + 1) * q_eh ρ : Nat) : Int) → N 124 37 = q_abv ρ τ v m i → (∀ x, x < q_n ρ 2 → N 137 x = τ x + ((q_hdy ρ τ v (i + 1) * q_harm (q_n ρ) (q_tst ρ) x : Nat) : Int)) → zP l X 13 tX12_winterWhy 215 [some (zr 124), some (zi bb), some (zi m), some (zi (v : Int)), some (zi (n : Int)), some (zi (q_bs τ : Int)), some (zi (q_draw v (i + 1) : Int)), some (zi ((i : Int) + 1)), o8, o9] [] N (fun r M' => r = some (zi 0) ∧ DYs ρ τ v m M M' n) := by
      intro N o8 o9 k1 k11 k133 k36 k37 k137
      have hW8 : zWm N := k1.wm hW
      refine p_aload_n 216 dX12_winterWhy_215 rfl rfl (by decide) ?_
      refine p_getI 124 219 dX12_winterWhy_216 fX12_423 rfl ?_
      rw [k37]
      refine p_if_ne 239 222 dX12_winterWhy_219 (by omega) (by omega) (fun h219 => ?_) (fun h219 => ?_)
      · refine p_iinc 242 dX12_winterWhy_239 rfl rfl rfl ?_
        dsimp only [List.set]
        refine p_goto 114 dX12_winterWhy_242 ?_
        first
          | (refine ih (i + 1) (by omega) _ _ _ ⟨hid_zset k1 (by decide), by rw [zset_k (by decide)]; exact k11, fun x hx => by rw [zset_ne _ (by decide)]; exact k133 x hx, by rw [zset_k (by decide)]; exact k36, ?_, fun x hx => by rw [zset_ne _ (by decide)]; exact k137 x hx⟩
             rw [zset_at, ea, if_pos (by omega)])
          | (refine ih (i + 1) (by omega) _ _ _ ⟨k1, k11, k133, k36, ?_, k137⟩
             rw [k37, ea, if_neg (by omega)])
      · refine p_iload 224 dX12_winterWhy_222 rfl ?_
        refine p_aload_n 225 dX12_winterWhy_224 rfl rfl (by decide) ?_
        refine p_getI 124 228 dX12_winterWhy_225 fX12_420 rfl ?_
        rw [k36]
        refine p_iadd 229 dX12_winterWhy_228 ?_
        refine p_iload_n 230 dX12_winterWhy_229 rfl rfl ?_
        refine p_icmp_le 239 233 dX12_winterWhy_230 (by omega) (by omega) (by omega) (by omega) (fun h230 => ?_) (fun h230 => ?_)
        · refine p_iinc 242 dX12_winterWhy_239 rfl rfl rfl ?_
          dsimp only [List.set]
          refine p_goto 114 dX12_winterWhy_242 ?_
          first
            | (refine ih (i + 1) (by omega) _ _ _ ⟨hid_zset k1 (by decide), by rw [zset_k (by decide)]; exact k11, fun x hx => by rw [zset_ne _ (by decide)]; exact k133 x hx, by rw [zset_k (by decide)]; exact k36, ?_, fun x hx => by rw [zset_ne _ (by decide)]; exact k137 x hx⟩
               rw [zset_at, ea, if_pos (by omega)])
            | (refine ih (i + 1) (by omega) _ _ _ ⟨k1, k11, k133, k36, ?_, k137⟩
               rw [k37, ea, if_neg (by omega)])
        · refine p_aload_n 234 dX12_winterWhy_233 rfl rfl (by decide) ?_
          refine p_iload 236 dX12_winterWhy_234 rfl ?_
          refine p_putI 124 239 dX12_winterWhy_236 wX12_423 rfl ?_
          refine p_iinc 242 dX12_winterWhy_239 rfl rfl rfl ?_
          dsimp only [List.set]
          refine p_goto 114 dX12_winterWhy_242 ?_
          first
            | (refine ih (i + 1) (by omega) _ _ _ ⟨hid_zset k1 (by decide), by rw [zset_k (by decide)]; exact k11, fun x hx => by rw [zset_ne _ (by decide)]; exact k133 x hx, by rw [zset_k (by decide)]; exact k36, ?_, fun x hx => by rw [zset_ne _ (by decide)]; exact k137 x hx⟩
               rw [zset_at, ea, if_pos (by omega)])
            | (refine ih (i + 1) (by omega) _ _ _ ⟨k1, k11, k133, k36, ?_, k137⟩
               rw [k37, ea, if_neg (by omega)])
    refine p_iload 116 dX12_winterWhy_114 rfl ?_
    refine p_iload 118 dX12_winterWhy_116 rfl ?_
    refine p_icmp_gt 245 121 dX12_winterWhy_118 (by omega) (by omega) (by omega) (by omega) (fun h118 => absurd (by omega) (fun h9 : False => h9)) (fun h118 => ?_)
    refine p_bipush 123 dX12_winterWhy_121 rfl ?_
    refine p_iload 125 dX12_winterWhy_123 rfl ?_
    refine p_imul 126 dX12_winterWhy_125 ?_
    refine p_bipush 128 dX12_winterWhy_126 rfl ?_
    refine p_iadd 129 dX12_winterWhy_128 ?_
    refine p_ldcw (z := 65537) 132 dX12_winterWhy_129 kk_X12_426 rfl ?_
    refine p_irem 133 dX12_winterWhy_132 (by decide) ?_
    rw [z_draw (by omega), show (75 * q_draw v i + 74) % 65537 = q_draw v (i + 1) from rfl]
    refine p_istore 135 dX12_winterWhy_133 (Nat.le_of_ble_eq_true rfl) rfl rfl ?_
    dsimp only [List.set]
    refine p_iconst 136 dX12_winterWhy_135 ?_
    refine p_istore 138 dX12_winterWhy_136 (Nat.le_of_ble_eq_true rfl) rfl rfl ?_
    dsimp only [List.set]
    by_cases hsn : q_draw v (i + 1) % 100 < q_n ρ 1 ∧ ¬ 0 < τ 16
    · refine l_winI (l := l) (X := X) (M := M) hR hR1 hT hW9 hE9 hU9 hv hn hm0 hm1 (i0 := i) (by omega) k133 hsn.1 hsn.2 (fun N9 o8 o9 f1 f2 f3 f4 => ?_) (q_n ρ 2) 0 (Nat.zero_add _) N _ (fun _ _ _ => rfl) (fun _ _ => rfl) (by show N 124 36 = N 124 36 + ((0 : Nat) : Int); omega) (fun x hx => by rw [if_neg (by omega)]; omega)
      have hs1 := q_hdy_snow (ρ := ρ) (τ := τ) (v := v) (k := i) hsn.1 hsn.2
      refine htail N9 o8 o9 (k1.trans ⟨fun a b ha => by rw [f1 a (by omega) (by omega)], fun a b g1 g2 g3 => ?_⟩) (by rw [f2 11 (by decide)]; exact k11) (fun x hx => by rw [f1 133 (by decide) (by decide)]; exact k133 x hx) ?_ (by rw [f2 37 (by decide)]; exact k37) (fun x hx => ?_)
      · by_cases e : a = 124
        · subst e
          exact f2 b (fun e => by subst e; revert g1; decide)
        · exact congrFun (f1 a e (fun e => by subst e; revert g1; simp [q_hid])) b
      · rw [f3, k36, hs1, Nat.add_mul, Nat.one_mul]
        rfl
      · rw [f4 x hx, k137 x hx, hs1, Nat.add_mul, Nat.one_mul, Int.natCast_add, Int.add_assoc]
    · have hs1 : q_hdy ρ τ v (i + 1) = q_hdy ρ τ v i := by
        by_cases hw : 0 < τ 16
        · rw [q_hdy_awake hw, q_hdy_awake hw]
        · exact q_hdy_dry (fun g => hsn ⟨g, hw⟩)
      refine p_iload 140 dX12_winterWhy_138 rfl ?_
      refine p_aload_n 141 dX12_winterWhy_140 rfl rfl (by decide) ?_
      refine p_getR 124 144 dX12_winterWhy_141 fX12_20 rfl (hW9 (124, 15, 127) (by decide)) ?_
      refine p_iconst 145 dX12_winterWhy_144 ?_
      refine p_ialdn 127 146 (2) dX12_winterWhy_145 rfl (by omega) (by omega) ?_
      rw [hE9 2 (by decide)]
      refine p_icmp_ge 215 149 dX12_winterWhy_146 (by omega) (by omega) (by omega) (by omega) (fun h146 => absurd (by omega) (fun h9 : False => h9)) (fun h146 => ?_)
      refine p_iload 151 dX12_winterWhy_149 rfl ?_
      refine p_bipush 153 dX12_winterWhy_151 rfl ?_
      refine p_irem 154 dX12_winterWhy_153 (by decide) ?_
      rw [z_rem100 (by omega)]
      refine p_aload_n 155 dX12_winterWhy_154 rfl rfl (by decide) ?_
      refine p_getR 124 158 dX12_winterWhy_155 fX12_20 rfl (hW9 (124, 15, 127) (by decide)) ?_
      refine p_iconst 159 dX12_winterWhy_158 ?_
      refine p_ialdn 127 160 (1) dX12_winterWhy_159 rfl (by omega) (by omega) ?_
      rw [hE9 1 (by decide)]
      refine p_icmp_ge 215 163 dX12_winterWhy_160 (by omega) (by omega) (by omega) (by omega) (fun h160 => ?_) (fun h160 => ?_)
      · exact htail N _ _ k1 k11 k133 (by rw [hs1]; exact k36) k37 (fun x hx => by rw [hs1]; exact k137 x hx)
      · refine p_aload_n 164 dX12_winterWhy_163 rfl rfl (by decide) ?_
        refine p_getR 124 167 dX12_winterWhy_164 fX12_26 rfl (hW9 (124, 17, 129) (by decide)) ?_
        refine p_bipush 169 dX12_winterWhy_167 rfl ?_
        refine p_ialdn 129 170 (16) dX12_winterWhy_169 rfl (by omega) (by omega) ?_
        rw [hU9 16 (by decide)]
        refine p_if_ne 215 173 dX12_winterWhy_170 (by omega) (by omega) (fun h170 => ?_) (fun h170 => ?_)
        · exact htail N _ _ k1 k11 k133 (by rw [hs1]; exact k36) k37 (fun x hx => by rw [hs1]; exact k137 x hx)
        · exact absurd ⟨by omega, by omega⟩ hsn
theorem l_winA {l : Launch} {X : ZX} {M : ZM} {ρ : Nat → Int} (hR : wfR ρ) (hR1 : wfR1 ρ) {τ : Nat → Int} (hT : wfT ρ τ) (hW : zWm M) (hE : ∀ i, i < 421 → M 127 i = ρ i) (hU : ∀ i, i < 18 → M 129 i = τ i) {v n : Nat} {m bb : Int} (hv : v ≤ 65536) (hn : n ≤ 90) (hm0 : 0 ≤ m) (hm1 : m ≤ 9999) (h137 : ∀ x, x < 7 → M 137 x = τ x) {Q : Option ZV → ZM → Prop} (hQ : zP l X 13 tX12_winterWhy 108 [some (zr 124), some (zi bb), some (zi m), some (zi (v : Int)), some (zi (n : Int)), some (zi (q_bs τ : Int)), some (zi (q_n ρ 2 : Int)), none, none, none] [] M Q) : ∀ (j i : Nat), i + j = q_n ρ 2 → zP l X 13 tX12_winterWhy 79 [some (zr 124), some (zi bb), some (zi m), some (zi (v : Int)), some (zi (n : Int)), some (zi (q_sum (fun s => (τ s).toNat) i : Int)), some (zi (i : Int)), none, none, none] [] M (Q) := by
  have e1 : ρ 1 = (q_n ρ 1 : Int) := hR.n (by decide)
  have b1 := hR.2.1.2.1
  have e2 : ρ 2 = (q_n ρ 2 : Int) := hR.n (by decide)
  have b2 := hR.2.1.2.2.1
  have t160 := hT.1 16 (by decide)
  have t161 := hT.2.2.2.2.1
  have hel := q_eh_le hR
  have hbl := q_bs_le hT
  intro j
  induction j with
  | zero =>
    intro i hi
    refine p_iload 81 dX12_winterWhy_79 rfl ?_
    refine p_aload_n 82 dX12_winterWhy_81 rfl rfl (by decide) ?_
    refine p_getR 124 85 dX12_winterWhy_82 fX12_20 rfl (hW (124, 15, 127) (by decide)) ?_
    refine p_iconst 86 dX12_winterWhy_85 ?_
    refine p_ialdn 127 87 (2) dX12_winterWhy_86 rfl (by omega) (by omega) ?_
    rw [hE 2 (by decide)]
    refine p_icmp_ge 108 90 dX12_winterWhy_87 (by omega) (by omega) (by omega) (by omega) (fun h87 => ?_) (fun h87 => absurd (by omega) (fun h9 : False => h9))
    rw [Nat.add_zero] at hi
    subst hi
    rw [q_bs2 hR hT]
    exact hQ
  | succ j ih =>
    intro i hi
    have t0 := hT.1 i (by omega)
    refine p_iload 81 dX12_winterWhy_79 rfl ?_
    refine p_aload_n 82 dX12_winterWhy_81 rfl rfl (by decide) ?_
    refine p_getR 124 85 dX12_winterWhy_82 fX12_20 rfl (hW (124, 15, 127) (by decide)) ?_
    refine p_iconst 86 dX12_winterWhy_85 ?_
    refine p_ialdn 127 87 (2) dX12_winterWhy_86 rfl (by omega) (by omega) ?_
    rw [hE 2 (by decide)]
    refine p_icmp_ge 108 90 dX12_winterWhy_87 (by omega) (by omega) (by omega) (by omega) (fun h87 => absurd (by omega) (fun h9 : False => h9)) (fun h87 => ?_)
    refine p_iload 92 dX12_winterWhy_90 rfl ?_
    refine p_aload_n 93 dX12_winterWhy_92 rfl rfl (by decide) ?_
    refine p_getR 124 96 dX12_winterWhy_93 fX12_50 rfl (hW (124, 35, 137) (by decide)) ?_
    refine p_iload 98 dX12_winterWhy_96 rfl ?_
    refine p_ialdn 137 99 (i) dX12_winterWhy_98 rfl (by omega) (by omega) ?_
    rw [h137 i (by omega), show τ i = ((τ i).toNat : Int) by omega]
    refine p_iadd 100 dX12_winterWhy_99 ?_
    refine p_istore 102 dX12_winterWhy_100 (Nat.le_of_ble_eq_true rfl) rfl rfl ?_
    dsimp only [List.set]
    refine p_iinc 105 dX12_winterWhy_102 rfl rfl rfl ?_
    dsimp only [List.set]
    refine p_goto 79 dX12_winterWhy_105 ?_
    exact ih (i + 1) (by omega)
theorem s_winterWhy {l : Launch} {X : ZX} {M : ZM} {ρ : Nat → Int} (hR : wfR ρ) {τ : Nat → Int} (hT : wfT ρ τ) (hW : zWm M) (hE : ∀ i, i < 421 → M 127 i = ρ i) (hU : ∀ i, i < 18 → M 129 i = τ i) {b m v n : Int} (hb : b = 0 ∨ b = 1) (hR1 : b = 1 → wfR1 ρ) (hm1 : -2147483648 ≤ m) (hm2 : m < 2147483648) (hv1 : -2147483648 ≤ v) (hv2 : v < 2147483648) (hn1 : -2147483648 ≤ n) (hn2 : n < 2147483648) : zCi l X 13 yX12_winterWhy tX12_winterWhy [zr 124, zi b, zi m, zi v, zi n] M (fun a M' => a = (if b = 0 then 1 else if (0 ≤ m ∧ m ≤ 9999) ∧ 0 ≤ v ∧ v ≤ 65536 ∧ 0 ≤ n ∧ n ≤ 90 then 0 else 2) ∧ (a ≠ 0 → M' = M) ∧ (a = 0 → DYs ρ τ v.toNat m M M' n.toNat)) := by
  have e1 : ρ 1 = (q_n ρ 1 : Int) := hR.n (by decide)
  have b1 := hR.2.1.2.1
  have e2 : ρ 2 = (q_n ρ 2 : Int) := hR.n (by decide)
  have b2 := hR.2.1.2.2.1
  have t160 := hT.1 16 (by decide)
  have t161 := hT.2.2.2.2.1
  have hel := q_eh_le hR
  have hbl := q_bs_le hT
  refine zC.of [some (zr 124), some (zi b), some (zi m), some (zi v), some (zi n), none, none, none, none, none] (by decide +kernel) rfl rfl (Nat.le_of_ble_eq_true rfl) rfl ?_
  refine p_iload_n 1 dX12_winterWhy_0 rfl rfl ?_
  refine p_if_ne 6 4 dX12_winterWhy_1 (by omega) (by omega) (fun h1 => ?_) (fun h1 => ?_)
  · have hR1 := hR1 (by omega)
    refine p_iload_n 7 dX12_winterWhy_6 rfl rfl ?_
    refine p_iconst 8 dX12_winterWhy_7 ?_
    refine p_sipush 11 dX12_winterWhy_8 rfl ?_
    refine p_callS3i 14 dX12_winterWhy_11 (s_in (by omega) (by omega) (by omega) (by omega) (by omega) (by omega)) lk_X12_146 mX12_in (by decide) (Nat.le_of_ble_eq_true rfl) ?_
    rintro _ _ ⟨rfl, e9⟩
    have e9 := e9.symm
    subst e9
    refine p_if_eq 39 17 dX12_winterWhy_14 (by split <;> omega) (by split <;> omega) (fun h14 => ?_) (fun h14 => ?_)
    · have h14 := if_eq0 h14
      refine p_iconst 40 dX12_winterWhy_39 ?_
      refine p_iret dX12_winterWhy_40 rfl ?_
      exact ⟨_, rfl, by rw [if_neg (by omega), if_neg (by omega)], fun _ => rfl, fun g => absurd g (by decide)⟩
    · have h14 := if_neq0 h14
      refine p_iload_n 18 dX12_winterWhy_17 rfl rfl ?_
      refine p_iconst 19 dX12_winterWhy_18 ?_
      refine p_ldcw (z := 65536) 22 dX12_winterWhy_19 kk_X12_419 rfl ?_
      refine p_callS3i 25 dX12_winterWhy_22 (s_in (by omega) (by omega) (by omega) (by omega) (by omega) (by omega)) lk_X12_146 mX12_in (by decide) (Nat.le_of_ble_eq_true rfl) ?_
      rintro _ _ ⟨rfl, e9⟩
      have e9 := e9.symm
      subst e9
      refine p_if_eq 39 28 dX12_winterWhy_25 (by split <;> omega) (by split <;> omega) (fun h25 => ?_) (fun h25 => ?_)
      · have h25 := if_eq0 h25
        refine p_iconst 40 dX12_winterWhy_39 ?_
        refine p_iret dX12_winterWhy_40 rfl ?_
        exact ⟨_, rfl, by rw [if_neg (by omega), if_neg (by omega)], fun _ => rfl, fun g => absurd g (by decide)⟩
      · have h25 := if_neq0 h25
        refine p_iload 30 dX12_winterWhy_28 rfl ?_
        refine p_iconst 31 dX12_winterWhy_30 ?_
        refine p_bipush 33 dX12_winterWhy_31 rfl ?_
        refine p_callS3i 36 dX12_winterWhy_33 (s_in (by omega) (by omega) (by omega) (by omega) (by omega) (by omega)) lk_X12_146 mX12_in (by decide) (Nat.le_of_ble_eq_true rfl) ?_
        rintro _ _ ⟨rfl, e9⟩
        have e9 := e9.symm
        subst e9
        refine p_if_ne 41 39 dX12_winterWhy_36 (by split <;> omega) (by split <;> omega) (fun h36 => ?_) (fun h36 => ?_)
        · have h36 := if_ne0 h36
          obtain ⟨vn, rfl⟩ : ∃ k : Nat, v = (k : Int) := ⟨v.toNat, by omega⟩
          obtain ⟨nn, rfl⟩ : ∃ k : Nat, n = (k : Int) := ⟨n.toNat, by omega⟩
          refine p_aload_n 42 dX12_winterWhy_41 rfl rfl (by decide) ?_
          refine p_iconst 43 dX12_winterWhy_42 ?_
          refine p_iconst 44 dX12_winterWhy_43 ?_
          refine p_callV2i 124 47 dX12_winterWhy_44 (s_seekTending (ρ := ρ) hR hW hE (wo := -1) (mo := -1) (by decide) (by decide) (by decide) (by decide)) lk_X12_306 mX12_seekTending rfl rfl (by decide) (Nat.le_of_ble_eq_true rfl) ?_
          rintro a9 M9 ⟨rfl, hh9, k11, k133⟩
          have hW9 : zWm M9 := hh9.wm hW
          have hE9 : ∀ i, i < 421 → M9 127 i = ρ i := fun i hi => (hh9.2 127 i (by simp [q_hid]) (by omega) (by omega)).trans (hE i hi)
          have hU9 : ∀ i, i < 18 → M9 129 i = τ i := fun i hi => (hh9.2 129 i (by simp [q_hid]) (by omega) (by omega)).trans (hU i hi)
          have k133 : ∀ x, x < q_n ρ 2 → M9 133 x = (q_te ρ x : Int) := fun x hx => by
            rw [k133 x hx, q_tends_congr (q_n ρ 2) q_hw_all]
            rfl
          refine p_popI 48 dX12_winterWhy_47 ?_
          refine p_aload_n 49 dX12_winterWhy_48 rfl rfl (by decide) ?_
          refine p_getR 124 52 dX12_winterWhy_49 fX12_26 rfl (hW9 (124, 17, 129) (by decide +kernel)) ?_
          refine p_iconst 53 dX12_winterWhy_52 ?_
          refine p_aload_n 54 dX12_winterWhy_53 rfl rfl (by decide) ?_
          refine p_getR 124 57 dX12_winterWhy_54 fX12_50 rfl (hW9 (124, 35, 137) (by decide +kernel)) ?_
          refine p_iconst 58 dX12_winterWhy_57 ?_
          refine p_bipush 60 dX12_winterWhy_58 rfl ?_
          refine p_callS5v 63 dX12_winterWhy_60 (s_copy (f := 129) (t := 137) (a := 0) (i := 0) (m := 7) rfl rfl (by decide) (by decide) (by decide) (by decide)) lk_X12_174 mX12_copy (by decide) (Nat.le_of_ble_eq_true rfl) ?_
          rintro _ rfl
          refine p_aload_n 64 dX12_winterWhy_63 rfl rfl (by decide) ?_
          refine p_iconst 65 dX12_winterWhy_64 ?_
          refine p_putI 124 68 dX12_winterWhy_65 wX12_420 rfl ?_
          refine p_aload_n 69 dX12_winterWhy_68 rfl rfl (by decide) ?_
          refine p_iconst 70 dX12_winterWhy_69 ?_
          refine p_putI 124 73 dX12_winterWhy_70 wX12_423 rfl ?_
          refine p_iconst 74 dX12_winterWhy_73 ?_
          refine p_istore 76 dX12_winterWhy_74 (Nat.le_of_ble_eq_true rfl) rfl rfl ?_
          dsimp only [List.set]
          refine p_iconst 77 dX12_winterWhy_76 ?_
          refine p_istore 79 dX12_winterWhy_77 (Nat.le_of_ble_eq_true rfl) rfl rfl ?_
          dsimp only [List.set]
          have hWc : zWm (zcopy M9 129 0 137 0 7) := zcopy_wm hW9 (by decide +kernel)
          have hWd : zWm (zset (zset (zcopy M9 129 0 137 0 7) 124 36 0) 124 37 0) := (hWc.set (by decide +kernel)).set (by decide +kernel)
          have hEd : ∀ i, i < 421 → zset (zset (zcopy M9 129 0 137 0 7) 124 36 0) 124 37 0 127 i = ρ i := fun i hi => by
            rw [zset_ne _ (by decide), zset_ne _ (by decide), zcopy_ne _ (by decide)]
            exact hE9 i hi
          have hUd : ∀ i, i < 18 → zset (zset (zcopy M9 129 0 137 0 7) 124 36 0) 124 37 0 129 i = τ i := fun i hi => by
            rw [zset_ne _ (by decide), zset_ne _ (by decide), zcopy_ne _ (by decide)]
            exact hU9 i hi
          have h137 : ∀ x, x < 7 → zset (zset (zcopy M9 129 0 137 0 7) 124 36 0) 124 37 0 137 x = τ x := fun x hx => by
            have hz := zcopy_at (M := M9) (f := 129) (a := 0) (t := 137) (i := 0) (m := 7) (b := x) hx
            rw [Nat.zero_add] at hz
            rw [zset_ne _ (by decide), zset_ne _ (by decide), hz]
            exact hU9 x (by omega)
          have hHd : Hid M (zset (zset (zcopy M9 129 0 137 0 7) 124 36 0) 124 37 0) := hid_zset (hid_zset (hh9.trans ⟨fun a b ha => by rw [zcopy_ne _ (by omega)], fun a b g1 g2 g3 => by rw [zcopy_ne _ (fun e => by subst e; revert g1; simp [q_hid])]⟩) (by decide)) (by decide)
          refine l_winA (l := l) (X := X) hR hR1 hT hWd hEd hUd (v := vn) (n := nn) (m := m) (bb := b) (by omega) (by omega) (by omega) (by omega) h137 ?_ (q_n ρ 2) 0 (Nat.zero_add _)
          have h00 : q_hdy ρ τ vn 0 = 0 := by have := q_hdy_le ρ τ vn 0; omega
          refine p_iload_n 109 dX12_winterWhy_108 rfl rfl ?_
          refine p_istore 111 dX12_winterWhy_109 (Nat.le_of_ble_eq_true rfl) rfl rfl ?_
          dsimp only [List.set]
          refine p_iconst 112 dX12_winterWhy_111 ?_
          refine p_istore 114 dX12_winterWhy_112 (Nat.le_of_ble_eq_true rfl) rfl rfl ?_
          dsimp only [List.set]
          refine (l_winD (l := l) (X := X) (M := zset (zset (zcopy M9 129 0 137 0 7) 124 36 0) 124 37 0) hR hR1 hT hWd hEd hUd (v := vn) (n := nn) (m := m) (bb := b) (by omega) (by omega) (by omega) (by omega) nn 0 (Nat.zero_add _) (zset (zset (zcopy M9 129 0 137 0 7) 124 36 0) 124 37 0) none none ⟨Hid.rfl, rfl, fun x hx => by rw [zset_ne _ (by decide), zset_ne _ (by decide), zcopy_ne _ (by decide)]; exact k133 x hx, ?_, rfl, fun x hx => ?_⟩).mono (fun r M8 h8 => ?_)
          · rw [h00, Nat.zero_mul]
            rfl
          · rw [h00, Nat.zero_mul, h137 x (by omega)]
            exact (Int.add_zero _).symm
          obtain ⟨e1, k1, k11', k133', k36, k37, k137⟩ := h8
          refine ⟨0, e1, by rw [if_neg (by omega), if_pos (by omega)], fun g => absurd rfl g, fun _ => ?_⟩
          rw [Int.toNat_natCast, Int.toNat_natCast]
          exact ⟨hHd.trans k1, k11'.trans k11, k133', k36, k37, k137⟩
        · have h36 := if_nne0 h36
          refine p_iconst 40 dX12_winterWhy_39 ?_
          refine p_iret dX12_winterWhy_40 rfl ?_
          exact ⟨_, rfl, by rw [if_neg (by omega), if_neg (by omega)], fun _ => rfl, fun g => absurd g (by decide)⟩
  · refine p_iconst 5 dX12_winterWhy_4 ?_
    refine p_iret dX12_winterWhy_5 rfl ?_
    exact ⟨_, rfl, by rw [if_pos (by omega)], fun _ => rfl, fun g => absurd g (by decide)⟩
