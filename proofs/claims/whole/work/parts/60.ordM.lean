/-! ORDERS, the model's -/
theorem q_pk_inj : ∀ (n n' : Nat) (g g' : Nat → Int), (∀ j, j < n → 97 ≤ g j ∧ g j ≤ 122) → (∀ j, j < n' → 97 ≤ g' j ∧ g' j ≤ 122) → q_pk g n = q_pk g' n' → n = n' ∧ ∀ j, j < n → g j = g' j := by
  intro n
  induction n with
  | zero =>
    intro n' g g' _ h' e
    cases n' with
    | zero => exact ⟨rfl, fun j hj => absurd hj (by omega)⟩
    | succ n' =>
      have h1 := (q_pk_bd (g := g') n' (fun j hj => h' j (by omega))).1
      have h2 := h' n' (by omega)
      have e2 : q_pk g' (n' + 1) = 32 * q_pk g' n' + (g' n' - 96) := rfl
      have e3 : q_pk g 0 = 0 := rfl
      omega
  | succ n ih =>
    intro n' g g' h h' e
    have h0 := (q_pk_bd (g := g) n (fun j hj => h j (by omega))).1
    have h2 := h n (by omega)
    have e1 : q_pk g (n + 1) = 32 * q_pk g n + (g n - 96) := rfl
    cases n' with
    | zero =>
      have e3 : q_pk g' 0 = 0 := rfl
      omega
    | succ n' =>
      have h1 := (q_pk_bd (g := g') n' (fun j hj => h' j (by omega))).1
      have h3 := h' n' (by omega)
      have e2 : q_pk g' (n' + 1) = 32 * q_pk g' n' + (g' n' - 96) := rfl
      have e4 : q_pk g n = q_pk g' n' := by omega
      have e5 : g n = g' n' := by omega
      obtain ⟨k1, k2⟩ := ih n' g g' (fun j hj => h j (by omega)) (fun j hj => h' j (by omega)) e4
      subst k1
      refine ⟨rfl, fun j hj => ?_⟩
      by_cases ej : j = n
      · subst ej; exact e5
      · exact k2 j (by omega)
theorem q_pk_congr {g g' : Nat → Int} : ∀ n, (∀ j, j < n → g j = g' j) → q_pk g n = q_pk g' n := by
  intro n
  induction n with
  | zero => intro _; rfl
  | succ n ih =>
    intro h
    show 32 * q_pk g n + (g n - 96) = 32 * q_pk g' n + (g' n - 96)
    rw [ih (fun j hj => h j (by omega)), h n (by omega)]
theorem q_sign_eq {ρ : Nat → Int} {f g : Nat} (hf0 : 0 ≤ ρ f) (hg0 : 0 ≤ ρ g) (hf : q_wordOk ρ f) (hg : q_wordOk ρ g) : q_sign ρ f = q_sign ρ g ↔ ρ f = ρ g ∧ ∀ j : Nat, (j : Int) < ρ f → ρ (f + 1 + j) = ρ (g + 1 + j) := by
  constructor
  · intro e
    obtain ⟨k1, k2⟩ := q_pk_inj _ _ _ _ (fun j hj => hf.2 j (by omega)) (fun j hj => hg.2 j (by omega)) e
    exact ⟨by omega, fun j hj => k2 j (by omega)⟩
  · rintro ⟨k1, k2⟩
    unfold q_sign
    rw [← k1]
    exact q_pk_congr _ (fun j hj => k2 j (by omega))
def isR (w : Nat) : Prop := w = 127 ∨ w = 128
theorem isR.tt {w : Nat} (h : isR w) : zTT[w]? = some (.inr (0, 421)) := by
  rcases h with rfl | rfl <;> rfl
theorem l_isSame {l : Launch} {X : ZX} {M : ZM} {w : Nat} (hw : isR w) {ρ : Nat → Int} (hE : ∀ i, i < 421 → M w i = ρ i) {f g : Nat} (hf : f + 9 ≤ 421) (hg : g + 9 ≤ 421) (hf0 : 0 ≤ ρ f) (hg0 : 0 ≤ ρ g) (hfo : q_wordOk ρ f) (hgo : q_wordOk ρ g) : ∀ (j i : Nat), i + j = (ρ f).toNat → ∀ sm : Int, ((sm = 1 ∧ ρ f = ρ g ∧ ∀ j, j < i → ρ (f + 1 + j) = ρ (g + 1 + j)) ∨ (sm = 0 ∧ q_sign ρ f ≠ q_sign ρ g)) → zP l X 0 tX12_isSame 18 [some (zr (w : Int)), some (zi (f : Int)), some (zi (g : Int)), some (zi sm), some (zi (i : Int))] [] M (fun r M' => ∃ a, r = some (zi a) ∧ (a = (if q_sign ρ f = q_sign ρ g then 1 else 0) ∧ M' = M)) := by
  have h8 := hfo.1
  have hwl : w = 127 ∨ w = 128 := hw
  intro j
  induction j with
  | zero =>
    intro i hi sm hI
    refine p_iload 20 dX12_isSame_18 rfl ?_
    refine p_aload_n 21 dX12_isSame_20 rfl rfl (by omega) ?_
    refine p_iload_n 22 dX12_isSame_21 rfl rfl ?_
    refine p_ialdn (w) 23 (f) dX12_isSame_22 hw.tt (by omega) (by omega) ?_
    rw [hE f (by omega)]
    refine p_icmp_ge 61 26 dX12_isSame_23 (by omega) (by omega) (by omega) (by omega) (fun h23 => ?_) (fun h23 => absurd (by omega) (fun h9 : False => h9))
    refine p_iload_n 62 dX12_isSame_61 rfl rfl ?_
    refine p_zret dX12_isSame_62 rfl (by rcases hI with g | g <;> omega) ?_
    refine ⟨_, rfl, ?_, rfl⟩
    rcases hI with ⟨k1, k2, k3⟩ | ⟨k1, k2⟩
    · rw [k1, if_pos ((q_sign_eq hf0 hg0 hfo hgo).mpr ⟨k2, fun j hj => k3 j (by omega)⟩)]
    · rw [k1, if_neg k2]
  | succ j ih =>
    intro i hi sm hI
    have hfl := hfo.2 i (by omega)
    refine p_iload 20 dX12_isSame_18 rfl ?_
    refine p_aload_n 21 dX12_isSame_20 rfl rfl (by omega) ?_
    refine p_iload_n 22 dX12_isSame_21 rfl rfl ?_
    refine p_ialdn (w) 23 (f) dX12_isSame_22 hw.tt (by omega) (by omega) ?_
    rw [hE f (by omega)]
    refine p_icmp_ge 61 26 dX12_isSame_23 (by omega) (by omega) (by omega) (by omega) (fun h23 => absurd (by omega) (fun h9 : False => h9)) (fun h23 => ?_)
    refine p_iload_n 27 dX12_isSame_26 rfl rfl ?_
    refine p_if_eq 61 30 dX12_isSame_27 (by rcases hI with g | g <;> omega) (by rcases hI with g | g <;> omega) (fun h27 => ?_) (fun h27 => ?_)
    · refine p_iload_n 62 dX12_isSame_61 rfl rfl ?_
      refine p_zret dX12_isSame_62 rfl (by omega) ?_
      refine ⟨_, rfl, ?_, rfl⟩
      rcases hI with ⟨k1, k2, k3⟩ | ⟨k1, k2⟩
      · omega
      · rw [k1, if_neg k2]
    · obtain ⟨-, k2, k3⟩ : sm = 1 ∧ ρ f = ρ g ∧ ∀ j, j < i → ρ (f + 1 + j) = ρ (g + 1 + j) := hI.resolve_right (fun g => h27 g.1)
      have hgl := hgo.2 i (by omega)
      refine p_aload_n 31 dX12_isSame_30 rfl rfl (by omega) ?_
      refine p_iload_n 32 dX12_isSame_31 rfl rfl ?_
      refine p_iconst 33 dX12_isSame_32 ?_
      refine p_iadd 34 dX12_isSame_33 ?_
      refine p_iload 36 dX12_isSame_34 rfl ?_
      refine p_iadd 37 dX12_isSame_36 ?_
      refine p_ialdn (w) 38 (f + 1 + i) dX12_isSame_37 hw.tt (by omega) (by omega) ?_
      rw [hE _ (by omega)]
      refine p_aload_n 39 dX12_isSame_38 rfl rfl (by omega) ?_
      refine p_iload_n 40 dX12_isSame_39 rfl rfl ?_
      refine p_iconst 41 dX12_isSame_40 ?_
      refine p_iadd 42 dX12_isSame_41 ?_
      refine p_iload 44 dX12_isSame_42 rfl ?_
      refine p_iadd 45 dX12_isSame_44 ?_
      refine p_ialdn (w) 46 (g + 1 + i) dX12_isSame_45 hw.tt (by omega) (by omega) ?_
      rw [hE _ (by omega)]
      refine p_icmp_ne 53 49 dX12_isSame_46 (by omega) (by omega) (by omega) (by omega) (fun h46 => ?_) (fun h46 => ?_)
      · refine p_iconst 54 dX12_isSame_53 ?_
        refine p_istore_n 55 dX12_isSame_54 rfl (Nat.le_of_ble_eq_true rfl) rfl rfl ?_
        dsimp only [List.set]
        refine p_iinc 58 dX12_isSame_55 rfl rfl rfl ?_
        dsimp only [List.set]
        refine p_goto 18 dX12_isSame_58 ?_
        first
          | (refine ih (i + 1) (by omega) 0 (Or.inr ⟨rfl, fun g => ?_⟩)
             have := ((q_sign_eq hf0 hg0 hfo hgo).mp g).2 i (by omega)
             omega)
          | (refine ih (i + 1) (by omega) 1 (Or.inl ⟨rfl, k2, fun j hj => ?_⟩)
             by_cases e : j = i
             · subst e; omega
             · exact k3 j (by omega))
      · refine p_iconst 50 dX12_isSame_49 ?_
        refine p_goto 54 dX12_isSame_50 ?_
        refine p_istore_n 55 dX12_isSame_54 rfl (Nat.le_of_ble_eq_true rfl) rfl rfl ?_
        dsimp only [List.set]
        refine p_iinc 58 dX12_isSame_55 rfl rfl rfl ?_
        dsimp only [List.set]
        refine p_goto 18 dX12_isSame_58 ?_
        first
          | (refine ih (i + 1) (by omega) 0 (Or.inr ⟨rfl, fun g => ?_⟩)
             have := ((q_sign_eq hf0 hg0 hfo hgo).mp g).2 i (by omega)
             omega)
          | (refine ih (i + 1) (by omega) 1 (Or.inl ⟨rfl, k2, fun j hj => ?_⟩)
             by_cases e : j = i
             · subst e; omega
             · exact k3 j (by omega))
theorem s_isSame {l : Launch} {X : ZX} {M : ZM} {w : Nat} (hw : isR w) {ρ : Nat → Int} (hE : ∀ i, i < 421 → M w i = ρ i) {f g : Nat} (hf : f + 9 ≤ 421) (hg : g + 9 ≤ 421) (hf0 : 0 ≤ ρ f) (hg0 : 0 ≤ ρ g) (hfo : q_wordOk ρ f) (hgo : q_wordOk ρ g) : zCi l X 0 yX12_isSame tX12_isSame [zr (w : Int), zi (f : Int), zi (g : Int)] M (fun a M' => a = (if q_sign ρ f = q_sign ρ g then 1 else 0) ∧ M' = M) := by
  have h8 := hfo.1
  have h9 := hgo.1
  have hwl : w = 127 ∨ w = 128 := hw
  refine zC.of [some (zr (w : Int)), some (zi (f : Int)), some (zi (g : Int)), none, none] (by decide +kernel) rfl rfl (Nat.le_of_ble_eq_true rfl) rfl ?_
  refine p_aload_n 1 dX12_isSame_0 rfl rfl (by omega) ?_
  refine p_iload_n 2 dX12_isSame_1 rfl rfl ?_
  refine p_ialdn (w) 3 (f) dX12_isSame_2 hw.tt (by omega) (by omega) ?_
  rw [hE f (by omega)]
  refine p_aload_n 4 dX12_isSame_3 rfl rfl (by omega) ?_
  refine p_iload_n 5 dX12_isSame_4 rfl rfl ?_
  refine p_ialdn (w) 6 (g) dX12_isSame_5 hw.tt (by omega) (by omega) ?_
  rw [hE g (by omega)]
  refine p_icmp_ne 13 9 dX12_isSame_6 (by omega) (by omega) (by omega) (by omega) (fun h6 => ?_) (fun h6 => ?_)
  · refine p_iconst 14 dX12_isSame_13 ?_
    refine p_istore_n 15 dX12_isSame_14 rfl (Nat.le_of_ble_eq_true rfl) rfl rfl ?_
    dsimp only [List.set]
    refine p_iconst 16 dX12_isSame_15 ?_
    refine p_istore 18 dX12_isSame_16 (Nat.le_of_ble_eq_true rfl) rfl rfl ?_
    dsimp only [List.set]
    first
      | exact l_isSame hw hE hf hg hf0 hg0 hfo hgo (ρ f).toNat 0 (Nat.zero_add _) 0 (Or.inr ⟨rfl, fun e => h6 ((q_sign_eq hf0 hg0 hfo hgo).mp e).1⟩)
      | exact l_isSame hw hE hf hg hf0 hg0 hfo hgo (ρ f).toNat 0 (Nat.zero_add _) 1 (Or.inl ⟨rfl, by omega, fun j hj => absurd hj (by omega)⟩)
  · refine p_iconst 10 dX12_isSame_9 ?_
    refine p_goto 14 dX12_isSame_10 ?_
    refine p_istore_n 15 dX12_isSame_14 rfl (Nat.le_of_ble_eq_true rfl) rfl rfl ?_
    dsimp only [List.set]
    refine p_iconst 16 dX12_isSame_15 ?_
    refine p_istore 18 dX12_isSame_16 (Nat.le_of_ble_eq_true rfl) rfl rfl ?_
    dsimp only [List.set]
    first
      | exact l_isSame hw hE hf hg hf0 hg0 hfo hgo (ρ f).toNat 0 (Nat.zero_add _) 0 (Or.inr ⟨rfl, fun e => h6 ((q_sign_eq hf0 hg0 hfo hgo).mp e).1⟩)
      | exact l_isSame hw hE hf hg hf0 hg0 hfo hgo (ρ f).toNat 0 (Nat.zero_add _) 1 (Or.inl ⟨rfl, by omega, fun j hj => absurd hj (by omega)⟩)
theorem s_isSign {l : Launch} {X : ZX} {M : ZM} {ρ : Nat → Int} (hW : zWm M) (hE : ∀ i, i < 421 → M 127 i = ρ i) (hR : wfR ρ) {k f : Nat} (hk : k < 6) (hf : f + 9 ≤ 421) (hf0 : 0 ≤ ρ f) (hfo : q_wordOk ρ f) : zCi l X 1 yX12_isSign tX12_isSign [zr 124, zi (k : Int), zi (f : Int)] M (fun a M' => a = (if q_sg ρ k = q_sign ρ f then 1 else 0) ∧ M' = M) := by
  refine zC.of [some (zr 124), some (zi (k : Int)), some (zi (f : Int))] (by decide +kernel) rfl rfl (Nat.le_of_ble_eq_true rfl) rfl ?_
  refine p_aload_n 1 dX12_isSign_0 rfl rfl (by decide) ?_
  refine p_getR 124 4 dX12_isSign_1 fX12_20 rfl (hW (124, 15, 127) (by decide)) ?_
  refine p_bipush 6 dX12_isSign_4 rfl ?_
  refine p_bipush 8 dX12_isSign_6 rfl ?_
  refine p_iload_n 9 dX12_isSign_8 rfl rfl ?_
  refine p_imul 10 dX12_isSign_9 ?_
  refine p_iadd 11 dX12_isSign_10 ?_
  refine p_iconst 12 dX12_isSign_11 ?_
  refine p_iadd 13 dX12_isSign_12 ?_
  refine p_iload_n 14 dX12_isSign_13 rfl rfl ?_
  rw [show (59 : Int) + 19 * (k : Int) + 1 = ((59 + 19 * k + 1 : Nat) : Int) by omega]
  refine p_callS3i 17 dX12_isSign_14 (s_isSame (Or.inl rfl : isR 127) hE (f := 59 + 19 * k + 1) (g := f) (by omega) hf (hR.1 _ (by omega)) hf0 (hR.2.2.2.2.2.1 k hk).2.1 hfo) lk_X12_257 mX12_isSame (by decide) (Nat.le_of_ble_eq_true rfl) ?_
  rintro _ _ ⟨rfl, e9⟩
  have e9 := e9.symm
  subst e9
  refine p_zret dX12_isSign_17 rfl (by split <;> omega) ?_
  exact ⟨_, rfl, rfl, rfl⟩
theorem s_rankAt {l : Launch} {X : ZX} {M : ZM} {ρ : Nat → Int} (hE : ∀ i, i < 421 → M 127 i = ρ i) {k : Nat} (hk : k < 6) : zCi l X 0 yX12_rankAt tX12_rankAt [zr 127, zi (k : Int)] M (fun a M' => a = ρ (59 + 19 * k) ∧ M' = M) := by
  refine zC.of [some (zr 127), some (zi (k : Int))] (by decide +kernel) rfl rfl (Nat.le_of_ble_eq_true rfl) rfl ?_
  refine p_aload_n 1 dX12_rankAt_0 rfl rfl (by decide) ?_
  refine p_bipush 3 dX12_rankAt_1 rfl ?_
  refine p_bipush 5 dX12_rankAt_3 rfl ?_
  refine p_iload_n 6 dX12_rankAt_5 rfl rfl ?_
  refine p_imul 7 dX12_rankAt_6 ?_
  refine p_iadd 8 dX12_rankAt_7 ?_
  refine p_ialdn 127 9 (59 + 19 * k) dX12_rankAt_8 rfl (by omega) (by omega) ?_
  rw [hE _ (by omega)]
  refine p_iret dX12_rankAt_9 rfl ?_
  exact ⟨_, rfl, rfl, rfl⟩
/-- the order that is done to a sign -/
def q_dn (ρ : Nat → Int) (sh : Int) (S : Nat) : Nat → Option Nat
  | 0 => none
  | n + 1 => if S.testBit n = true ∧ q_sg ρ n = sh ∧ (q_deed (q_sg ρ) (q_dd ρ) (q_rk ρ) sh S n).1 < q_rk ρ n then some n else q_dn ρ sh S n
theorem q_dn_lt {ρ : Nat → Int} {sh : Int} {S : Nat} : ∀ n b, q_dn ρ sh S n = some b → b < n ∧ q_sg ρ b = sh := by
  intro n
  induction n with
  | zero => intro b h; cases h
  | succ n ih =>
    intro b h
    have e : q_dn ρ sh S (n + 1) = if S.testBit n = true ∧ q_sg ρ n = sh ∧ (q_deed (q_sg ρ) (q_dd ρ) (q_rk ρ) sh S n).1 < q_rk ρ n then some n else q_dn ρ sh S n := rfl
    rw [e] at h
    split at h
    · rename_i g
      have := Option.some.inj h
      subst this
      exact ⟨by omega, g.2.1⟩
    · have := ih b h
      exact ⟨by omega, this.2⟩
theorem q_dn_deed {ρ : Nat → Int} {sh : Int} {S : Nat} : ∀ n, (q_dn ρ sh S n = none ∧ q_deed (q_sg ρ) (q_dd ρ) (q_rk ρ) sh S n = (0, 0)) ∨ ∃ b, q_dn ρ sh S n = some b ∧ q_deed (q_sg ρ) (q_dd ρ) (q_rk ρ) sh S n = (q_rk ρ b, q_dd ρ b) := by
  intro n
  induction n with
  | zero => exact Or.inl ⟨rfl, rfl⟩
  | succ n ih =>
    have e : q_dn ρ sh S (n + 1) = if S.testBit n = true ∧ q_sg ρ n = sh ∧ (q_deed (q_sg ρ) (q_dd ρ) (q_rk ρ) sh S n).1 < q_rk ρ n then some n else q_dn ρ sh S n := rfl
    have e2 : q_deed (q_sg ρ) (q_dd ρ) (q_rk ρ) sh S (n + 1) = if S.testBit n = true ∧ q_sg ρ n = sh ∧ (q_deed (q_sg ρ) (q_dd ρ) (q_rk ρ) sh S n).1 < q_rk ρ n then (q_rk ρ n, q_dd ρ n) else q_deed (q_sg ρ) (q_dd ρ) (q_rk ρ) sh S n := rfl
    rw [e, e2]
    by_cases g : S.testBit n = true ∧ q_sg ρ n = sh ∧ (q_deed (q_sg ρ) (q_dd ρ) (q_rk ρ) sh S n).1 < q_rk ρ n
    · rw [if_pos g, if_pos g]
      exact Or.inr ⟨n, rfl, rfl⟩
    · rw [if_neg g, if_neg g]
      exact ih
theorem wfR1.rk {ρ : Nat → Int} (hR : wfR ρ) (h : wfR1 ρ) {k : Nat} (hk : k < q_n ρ 6) : 1 ≤ q_rk ρ k ∧ 1 ≤ q_sg ρ k ∧ 1 ≤ q_dd ρ k := by
  have e6 : ρ 6 = (q_n ρ 6 : Int) := hR.n (by decide)
  have b6 := hR.2.1.2.2.2.2.2.2.1
  obtain ⟨h1, h2, h3⟩ := h.2.2.2.2.2.1 k (by omega)
  have hw := hR.2.2.2.2.2.1 k (by omega)
  have hpos : ∀ f, 0 ≤ ρ f → q_wordOk ρ f → 1 ≤ ρ f → 1 ≤ q_sign ρ f := by
    intro f h0 ho h1
    unfold q_sign
    obtain ⟨m, hm⟩ : ∃ m, (ρ f).toNat = m + 1 := ⟨(ρ f).toNat - 1, by omega⟩
    rw [hm]
    have h2 := (q_pk_bd (g := fun j => ρ (f + 1 + j)) m (fun j hj => ho.2 j (by omega))).1
    have h3 := ho.2 m (by omega)
    show 1 ≤ 32 * q_pk (fun j => ρ (f + 1 + j)) m + (ρ (f + 1 + m) - 96)
    omega
  refine ⟨?_, hpos _ (hR.1 _ (by omega)) hw.2.1 h2, hpos _ (hR.1 _ (by omega)) hw.2.2 h3⟩
  show 1 ≤ (ρ (59 + 19 * k)).toNat
  omega
theorem q_sign_pos {ρ : Nat → Int} {f : Nat} (h0 : 0 ≤ ρ f) (ho : q_wordOk ρ f) (h1 : 1 ≤ ρ f) : 1 ≤ q_sign ρ f := by
  unfold q_sign
  obtain ⟨m, hm⟩ : ∃ m, (ρ f).toNat = m + 1 := ⟨(ρ f).toNat - 1, by omega⟩
  rw [hm]
  have h2 := (q_pk_bd (g := fun j => ρ (f + 1 + j)) m (fun j hj => ho.2 j (by omega))).1
  have h3 := ho.2 m (by omega)
  show 1 ≤ 32 * q_pk (fun j => ρ (f + 1 + j)) m + (ρ (f + 1 + m) - 96)
  omega
theorem l_doneTo {l : Launch} {X : ZX} {M : ZM} {ρ : Nat → Int} (hW : zWm M) (hE : ∀ i, i < 421 → M 127 i = ρ i) (hR : wfR ρ) (hR1 : wfR1 ρ) {f : Nat} (hf : f + 9 ≤ 421) (hf0 : 0 ≤ ρ f) (hfo : q_wordOk ρ f) {S : Nat} (hS : S < 2147483648) : ∀ (j i : Nat), i + j = q_n ρ 6 → zP l X 2 tX12_doneTo 6 [some (zr 124), some (zi (S : Int)), some (zi (f : Int)), some (zi (q_fv (q_dn ρ (q_sign ρ f) S i))), some (zi (i : Int))] [] M (fun r M' => ∃ a, r = some (zi a) ∧ (a = q_fv (q_dn ρ (q_sign ρ f) S (q_n ρ 6)) ∧ M' = M)) := by
  have e6 : ρ 6 = (q_n ρ 6 : Int) := hR.n (by decide)
  have b6 := hR.2.1.2.2.2.2.2.2.1
  have e7 : ρ 7 = (q_n ρ 7 : Int) := hR.n (by decide)
  have b7 := hR.2.1.2.2.2.2.2.2.2
  have hp6 := p6 (n := q_n ρ 6) (by omega)
  have hp0 : 0 < 2 ^ q_n ρ 6 := Nat.two_pow_pos _
  intro j
  induction j with
  | zero =>
    intro i hi
    refine p_iload 8 dX12_doneTo_6 rfl ?_
    refine p_aload_n 9 dX12_doneTo_8 rfl rfl (by decide) ?_
    refine p_getR 124 12 dX12_doneTo_9 fX12_20 rfl (hW (124, 15, 127) (by decide)) ?_
    refine p_bipush 14 dX12_doneTo_12 rfl ?_
    refine p_ialdn 127 15 (6) dX12_doneTo_14 rfl (by omega) (by omega) ?_
    rw [hE 6 (by decide)]
    refine p_icmp_ge 70 18 dX12_doneTo_15 (by omega) (by omega) (by omega) (by omega) (fun h15 => ?_) (fun h15 => absurd (by omega) (fun h9 : False => h9))
    refine p_iload_n 71 dX12_doneTo_70 rfl rfl ?_
    refine p_iret dX12_doneTo_71 rfl ?_
    rw [Nat.add_zero] at hi
    subst hi
    exact ⟨_, rfl, rfl, rfl⟩
  | succ j ih =>
    intro i hi
    have hr9 := (hR.2.2.2.2.2.1 i (by omega)).1
    have er : ρ (59 + 19 * i) = (q_rk ρ i : Int) := hR.n (by omega)
    have hr1 := (hR1.rk hR (k := i) (by omega)).1
    have ed : q_dn ρ (q_sign ρ f) S (i + 1) = if S.testBit i = true ∧ q_sg ρ i = q_sign ρ f ∧ (q_deed (q_sg ρ) (q_dd ρ) (q_rk ρ) (q_sign ρ f) S i).1 < q_rk ρ i then some i else (q_dn ρ (q_sign ρ f) S i) := rfl
    have hfb : -2 ≤ q_fv (q_dn ρ (q_sign ρ f) S i) ∧ q_fv (q_dn ρ (q_sign ρ f) S i) ≤ 6 := by
      cases hq : (q_dn ρ (q_sign ρ f) S i) with
      | none => exact ⟨by decide, by decide⟩
      | some b =>
        have := (q_dn_lt i b hq).1
        exact ⟨by show (-2 : Int) ≤ (b : Int); omega, by show (b : Int) ≤ 6; omega⟩
    refine p_iload 8 dX12_doneTo_6 rfl ?_
    refine p_aload_n 9 dX12_doneTo_8 rfl rfl (by decide) ?_
    refine p_getR 124 12 dX12_doneTo_9 fX12_20 rfl (hW (124, 15, 127) (by decide)) ?_
    refine p_bipush 14 dX12_doneTo_12 rfl ?_
    refine p_ialdn 127 15 (6) dX12_doneTo_14 rfl (by omega) (by omega) ?_
    rw [hE 6 (by decide)]
    refine p_icmp_ge 70 18 dX12_doneTo_15 (by omega) (by omega) (by omega) (by omega) (fun h15 => absurd (by omega) (fun h9 : False => h9)) (fun h15 => ?_)
    refine p_iload_n 19 dX12_doneTo_18 rfl rfl ?_
    refine p_iload 21 dX12_doneTo_19 rfl ?_
    refine p_callS2i 24 dX12_doneTo_21 (s_hasBit (S := S) (k := i) (by omega) (by omega)) lk_X12_241 mX12_hasBit (by decide) (Nat.le_of_ble_eq_true rfl) ?_
    rintro _ _ ⟨rfl, e9⟩
    have e9 := e9.symm
    subst e9
    refine p_if_eq 64 27 dX12_doneTo_24 (by split <;> omega) (by split <;> omega) (fun h24 => ?_) (fun h24 => ?_)
    · have hno : ¬ (S.testBit i = true ∧ q_sg ρ i = q_sign ρ f ∧ (q_deed (q_sg ρ) (q_dd ρ) (q_rk ρ) (q_sign ρ f) S i).1 < q_rk ρ i) := fun g => if_eq0 h24 g.1
      refine p_iinc 67 dX12_doneTo_64 rfl rfl rfl ?_
      dsimp only [List.set]
      refine p_goto 6 dX12_doneTo_67 ?_
      have e := ih (i + 1) (by omega)
      first
        | (rw [ed, if_neg hno] at e; exact e)
        | (rw [ed, if_neg hno, hbb] at e; exact e)
        | (rw [ed, if_pos hyes] at e; exact e)
    · have hb := if_neq0 h24
      refine p_aload_n 28 dX12_doneTo_27 rfl rfl (by decide) ?_
      refine p_iload 30 dX12_doneTo_28 rfl ?_
      refine p_iload_n 31 dX12_doneTo_30 rfl rfl ?_
      refine p_callV2i 124 34 dX12_doneTo_31 (s_isSign hW hE hR (k := i) (f := f) (by omega) hf hf0 hfo) lk_X12_355 mX12_isSign rfl rfl (by decide) (Nat.le_of_ble_eq_true rfl) ?_
      rintro _ _ ⟨rfl, e9⟩
      have e9 := e9.symm
      subst e9
      refine p_if_eq 64 37 dX12_doneTo_34 (by split <;> omega) (by split <;> omega) (fun h34 => ?_) (fun h34 => ?_)
      · have hno : ¬ (S.testBit i = true ∧ q_sg ρ i = q_sign ρ f ∧ (q_deed (q_sg ρ) (q_dd ρ) (q_rk ρ) (q_sign ρ f) S i).1 < q_rk ρ i) := fun g => if_eq0 h34 g.2.1
        refine p_iinc 67 dX12_doneTo_64 rfl rfl rfl ?_
        dsimp only [List.set]
        refine p_goto 6 dX12_doneTo_67 ?_
        have e := ih (i + 1) (by omega)
        first
          | (rw [ed, if_neg hno] at e; exact e)
          | (rw [ed, if_neg hno, hbb] at e; exact e)
          | (rw [ed, if_pos hyes] at e; exact e)
      · have hse := if_neq0 h34
        refine p_iload_n 38 dX12_doneTo_37 rfl rfl ?_
        refine p_if_lt 61 41 dX12_doneTo_38 (by omega) (by omega) (fun h38 => ?_) (fun h38 => ?_)
        · have hyes : S.testBit i = true ∧ q_sg ρ i = q_sign ρ f ∧ (q_deed (q_sg ρ) (q_dd ρ) (q_rk ρ) (q_sign ρ f) S i).1 < q_rk ρ i := by
            refine ⟨hb, hse, ?_⟩
            rcases q_dn_deed (ρ := ρ) (sh := q_sign ρ f) (S := S) i with ⟨k1, k2⟩ | ⟨b, k1, k2⟩
            · rw [k2]; show 0 < q_rk ρ i; omega
            · rw [k1] at h38
              have : (b : Int) < 0 := h38
              omega
          refine p_iload 63 dX12_doneTo_61 rfl ?_
          refine p_istore_n 64 dX12_doneTo_63 rfl (Nat.le_of_ble_eq_true rfl) rfl rfl ?_
          dsimp only [List.set]
          refine p_iinc 67 dX12_doneTo_64 rfl rfl rfl ?_
          dsimp only [List.set]
          refine p_goto 6 dX12_doneTo_67 ?_
          have e := ih (i + 1) (by omega)
          first
            | (rw [ed, if_neg hno] at e; exact e)
            | (rw [ed, if_neg hno, hbb] at e; exact e)
            | (rw [ed, if_pos hyes] at e; exact e)
        · obtain ⟨bb, hbb, hde⟩ : ∃ b, (q_dn ρ (q_sign ρ f) S i) = some b ∧ (q_deed (q_sg ρ) (q_dd ρ) (q_rk ρ) (q_sign ρ f) S i) = (q_rk ρ b, q_dd ρ b) := by
            rcases q_dn_deed (ρ := ρ) (sh := q_sign ρ f) (S := S) i with ⟨k1, k2⟩ | h
            · rw [k1] at h38; exact absurd (show (-2 : Int) < 0 by decide) h38
            · exact h
          have hb6 := (q_dn_lt i bb hbb).1
          have hrb := (hR.2.2.2.2.2.1 bb (by omega)).1
          have eb : ρ (59 + 19 * bb) = (q_rk ρ bb : Int) := hR.n (by omega)
          rw [hbb]
          change zP _ _ _ _ _ [_, _, _, some (zi (bb : Int)), _] _ _ _
          refine p_aload_n 42 dX12_doneTo_41 rfl rfl (by decide) ?_
          refine p_getR 124 45 dX12_doneTo_42 fX12_20 rfl (hW (124, 15, 127) (by decide)) ?_
          refine p_iload 47 dX12_doneTo_45 rfl ?_
          refine p_callS2i 50 dX12_doneTo_47 (s_rankAt hE (k := i) (by omega)) lk_X12_358 mX12_rankAt (by decide) (Nat.le_of_ble_eq_true rfl) ?_
          rintro _ _ ⟨rfl, e9⟩
          have e9 := e9.symm
          subst e9
          rw [er]
          refine p_aload_n 51 dX12_doneTo_50 rfl rfl (by decide) ?_
          refine p_getR 124 54 dX12_doneTo_51 fX12_20 rfl (hW (124, 15, 127) (by decide)) ?_
          refine p_iload_n 55 dX12_doneTo_54 rfl rfl ?_
          refine p_callS2i 58 dX12_doneTo_55 (s_rankAt hE (k := bb) (by omega)) lk_X12_358 mX12_rankAt (by decide) (Nat.le_of_ble_eq_true rfl) ?_
          rintro _ _ ⟨rfl, e9⟩
          have e9 := e9.symm
          subst e9
          rw [eb]
          refine p_icmp_le 64 61 dX12_doneTo_58 (by omega) (by omega) (by omega) (by omega) (fun h58 => ?_) (fun h58 => ?_)
          · have hno : ¬ (S.testBit i = true ∧ q_sg ρ i = q_sign ρ f ∧ (q_deed (q_sg ρ) (q_dd ρ) (q_rk ρ) (q_sign ρ f) S i).1 < q_rk ρ i) := fun g => by
              have := g.2.2
              rw [hde] at this
              have : q_rk ρ bb < q_rk ρ i := this
              omega
            refine p_iinc 67 dX12_doneTo_64 rfl rfl rfl ?_
            dsimp only [List.set]
            refine p_goto 6 dX12_doneTo_67 ?_
            have e := ih (i + 1) (by omega)
            first
              | (rw [ed, if_neg hno] at e; exact e)
              | (rw [ed, if_neg hno, hbb] at e; exact e)
              | (rw [ed, if_pos hyes] at e; exact e)
          · have hyes : S.testBit i = true ∧ q_sg ρ i = q_sign ρ f ∧ (q_deed (q_sg ρ) (q_dd ρ) (q_rk ρ) (q_sign ρ f) S i).1 < q_rk ρ i := ⟨hb, hse, by rw [hde]; show q_rk ρ bb < q_rk ρ i; omega⟩
            refine p_iload 63 dX12_doneTo_61 rfl ?_
            refine p_istore_n 64 dX12_doneTo_63 rfl (Nat.le_of_ble_eq_true rfl) rfl rfl ?_
            dsimp only [List.set]
            refine p_iinc 67 dX12_doneTo_64 rfl rfl rfl ?_
            dsimp only [List.set]
            refine p_goto 6 dX12_doneTo_67 ?_
            have e := ih (i + 1) (by omega)
            first
              | (rw [ed, if_neg hno] at e; exact e)
              | (rw [ed, if_neg hno, hbb] at e; exact e)
              | (rw [ed, if_pos hyes] at e; exact e)
theorem s_doneTo {l : Launch} {X : ZX} {M : ZM} {ρ : Nat → Int} (hW : zWm M) (hE : ∀ i, i < 421 → M 127 i = ρ i) (hR : wfR ρ) (hR1 : wfR1 ρ) {f : Nat} (hf : f + 9 ≤ 421) (hf0 : 0 ≤ ρ f) (hfo : q_wordOk ρ f) {S : Nat} (hS : S < 2147483648) : zCi l X 2 yX12_doneTo tX12_doneTo [zr 124, zi (S : Int), zi (f : Int)] M (fun a M' => a = q_fv (q_dn ρ (q_sign ρ f) S (q_n ρ 6)) ∧ M' = M) := by
  refine zC.of [some (zr 124), some (zi (S : Int)), some (zi (f : Int)), none, none] (by decide +kernel) rfl rfl (Nat.le_of_ble_eq_true rfl) rfl ?_
  refine p_bipush 2 dX12_doneTo_0 rfl ?_
  refine p_istore_n 3 dX12_doneTo_2 rfl (Nat.le_of_ble_eq_true rfl) rfl rfl ?_
  dsimp only [List.set]
  refine p_iconst 4 dX12_doneTo_3 ?_
  refine p_istore 6 dX12_doneTo_4 (Nat.le_of_ble_eq_true rfl) rfl rfl ?_
  dsimp only [List.set]
  exact l_doneTo hW hE hR hR1 hf hf0 hfo hS (q_n ρ 6) 0 (Nat.zero_add _)
theorem q_done_dn {ρ : Nat → Int} (hR : wfR ρ) (hR1 : wfR1 ρ) (sh : Int) (S : Nat) : (q_dn ρ sh S (q_n ρ 6) = none ∧ q_done ρ sh S = 0) ∨ ∃ b, q_dn ρ sh S (q_n ρ 6) = some b ∧ b < q_n ρ 6 ∧ q_sg ρ b = sh ∧ q_done ρ sh S = q_dd ρ b ∧ 1 ≤ q_dd ρ b := by
  rcases q_dn_deed (ρ := ρ) (sh := sh) (S := S) (q_n ρ 6) with ⟨k1, k2⟩ | ⟨b, k1, k2⟩
  · refine Or.inl ⟨k1, ?_⟩
    unfold q_done
    rw [k2]
  · have hb := q_dn_lt _ b k1
    refine Or.inr ⟨b, k1, hb.1, hb.2, ?_, (hR1.rk hR hb.1).2.2⟩
    unfold q_done
    rw [k2]
theorem q_sd_pos {ρ : Nat → Int} (hR : wfR ρ) (hR1 : wfR1 ρ) {n : Nat} (hn : n < q_n ρ 7) (h : ρ (173 + 19 * n) = 1) : 1 ≤ q_sd ρ n ∧ q_sd ρ n = q_sign ρ (173 + 19 * n + 10) := by
  have e7 : ρ 7 = (q_n ρ 7 : Int) := hR.n (by decide)
  have b7 := hR.2.1.2.2.2.2.2.2.2
  have h1 := (hR1.2.2.2.2.2.2.1 n (by omega)).2 h
  unfold q_sd
  rw [if_neg (by omega)]
  exact ⟨q_sign_pos (hR.1 _ (by omega)) (hR.2.2.2.2.2.2 n (by omega)).2.2 h1, rfl⟩
theorem s_isSo {l : Launch} {X : ZX} {M : ZM} {ρ : Nat → Int} (hW : zWm M) (hE : ∀ i, i < 421 → M 127 i = ρ i) (hR : wfR ρ) (hR1 : wfR1 ρ) {S n : Nat} (hS : S < 2147483648) (hn : n < q_n ρ 7) : zCi l X 3 yX12_isSo tX12_isSo [zr 124, zi (S : Int), zi (n : Int)] M (fun a M' => a = (if q_done ρ (q_ss ρ n) S = q_sd ρ n then 1 else 0) ∧ M' = M) := by
  have e6 : ρ 6 = (q_n ρ 6 : Int) := hR.n (by decide)
  have b6 := hR.2.1.2.2.2.2.2.2.1
  have e7 : ρ 7 = (q_n ρ 7 : Int) := hR.n (by decide)
  have b7 := hR.2.1.2.2.2.2.2.2.2
  have hp6 := p6 (n := q_n ρ 6) (by omega)
  have hp0 : 0 < 2 ^ q_n ρ 6 := Nat.two_pow_pos _
  have hi0 := hR.1 (173 + 19 * n) (by omega)
  have hi1 := (hR.2.2.2.2.2.2 n (by omega)).1
  have hfb : -2 ≤ q_fv (q_dn ρ (q_ss ρ n) S (q_n ρ 6)) ∧ q_fv (q_dn ρ (q_ss ρ n) S (q_n ρ 6)) ≤ 6 := by
    cases hq : q_dn ρ (q_ss ρ n) S (q_n ρ 6) with
    | none => exact ⟨by decide, by decide⟩
    | some b =>
      have := (q_dn_lt _ b hq).1
      exact ⟨by show (-2 : Int) ≤ (b : Int); omega, by show (b : Int) ≤ 6; omega⟩
  refine zC.of [some (zr 124), some (zi (S : Int)), some (zi (n : Int)), none, none] (by decide +kernel) rfl rfl (Nat.le_of_ble_eq_true rfl) rfl ?_
  refine p_sipush 3 dX12_isSo_0 rfl ?_
  refine p_bipush 5 dX12_isSo_3 rfl ?_
  refine p_iload_n 6 dX12_isSo_5 rfl rfl ?_
  refine p_imul 7 dX12_isSo_6 ?_
  refine p_iadd 8 dX12_isSo_7 ?_
  rw [show (173 : Int) + 19 * (n : Int) = ((173 + 19 * n : Nat) : Int) by omega]
  refine p_istore_n 9 dX12_isSo_8 rfl (Nat.le_of_ble_eq_true rfl) rfl rfl ?_
  dsimp only [List.set]
  refine p_aload_n 10 dX12_isSo_9 rfl rfl (by decide) ?_
  refine p_iload_n 11 dX12_isSo_10 rfl rfl ?_
  refine p_iload_n 12 dX12_isSo_11 rfl rfl ?_
  refine p_iconst 13 dX12_isSo_12 ?_
  refine p_iadd 14 dX12_isSo_13 ?_
  rw [show ((173 + 19 * n : Nat) : Int) + 1 = ((173 + 19 * n + 1 : Nat) : Int) by omega]
  refine p_callV2i 124 17 dX12_isSo_14 (s_doneTo hW hE hR hR1 (f := 173 + 19 * n + 1) (by omega) (hR.1 _ (by omega)) (hR.2.2.2.2.2.2 n (by omega)).2.1 hS) lk_X12_361 mX12_doneTo rfl rfl (by decide) (Nat.le_of_ble_eq_true rfl) ?_
  rintro _ _ ⟨rfl, e9⟩
  have e9 := e9.symm
  subst e9
  rw [show q_sign ρ (173 + 19 * n + 1) = q_ss ρ n from rfl]
  refine p_istore 19 dX12_isSo_17 (Nat.le_of_ble_eq_true rfl) rfl rfl ?_
  dsimp only [List.set]
  refine p_iload 21 dX12_isSo_19 rfl ?_
  refine p_if_ge 41 24 dX12_isSo_21 (by omega) (by omega) (fun h21 => ?_) (fun h21 => ?_)
  · obtain ⟨b, hb, hb6, -, hdd, hd1⟩ : ∃ b, q_dn ρ (q_ss ρ n) S (q_n ρ 6) = some b ∧ b < q_n ρ 6 ∧ q_sg ρ b = q_ss ρ n ∧ q_done ρ (q_ss ρ n) S = q_dd ρ b ∧ 1 ≤ q_dd ρ b := by
      rcases q_done_dn hR hR1 (q_ss ρ n) S with ⟨k1, k2⟩ | h
      · rw [k1] at h21; exact absurd h21 (by decide)
      · exact h
    have hqb : q_fv (q_dn ρ (q_ss ρ n) S (q_n ρ 6)) = (b : Int) := by rw [hb]; rfl
    refine p_aload_n 42 dX12_isSo_41 rfl rfl (by decide) ?_
    refine p_getR 124 45 dX12_isSo_42 fX12_20 rfl (hW (124, 15, 127) (by decide)) ?_
    refine p_iload_n 46 dX12_isSo_45 rfl rfl ?_
    refine p_ialdn 127 47 (173 + 19 * n) dX12_isSo_46 rfl (by omega) (by omega) ?_
    rw [hE _ (by omega)]
    refine p_iconst 48 dX12_isSo_47 ?_
    refine p_icmp_ne 80 51 dX12_isSo_48 (by omega) (by omega) (by decide) (by decide) (fun h48 => ?_) (fun h48 => ?_)
    · have hne : ¬ (q_done ρ (q_ss ρ n) S = q_sd ρ n) := by
        have : q_sd ρ n = 0 := by unfold q_sd; rw [if_pos (by omega)]
        omega
      refine p_iconst 81 dX12_isSo_80 ?_
      refine p_zret dX12_isSo_81 rfl (by decide) ?_
      refine ⟨_, rfl, ?_, rfl⟩
      first | (rw [if_neg hne]; done) | (rw [if_pos heq]; done)
    · have hsp := (q_sd_pos hR hR1 hn (by omega)).2
      refine p_aload_n 52 dX12_isSo_51 rfl rfl (by decide) ?_
      refine p_getR 124 55 dX12_isSo_52 fX12_20 rfl (hW (124, 15, 127) (by decide)) ?_
      refine p_bipush 57 dX12_isSo_55 rfl ?_
      refine p_bipush 59 dX12_isSo_57 rfl ?_
      refine p_iload 61 dX12_isSo_59 rfl ?_
      refine p_imul 62 dX12_isSo_61 ?_
      refine p_iadd 63 dX12_isSo_62 ?_
      rw [hqb]
      change zP _ _ _ _ _ _ (zi ((59 : Int) + 19 * (b : Int)) :: _) _ _
      refine p_bipush 65 dX12_isSo_63 rfl ?_
      refine p_iadd 66 dX12_isSo_65 ?_
      rw [show (59 : Int) + 19 * (b : Int) + 10 = ((59 + 19 * b + 10 : Nat) : Int) by omega]
      refine p_iload_n 67 dX12_isSo_66 rfl rfl ?_
      refine p_bipush 69 dX12_isSo_67 rfl ?_
      refine p_iadd 70 dX12_isSo_69 ?_
      rw [show ((173 + 19 * n : Nat) : Int) + 10 = ((173 + 19 * n + 10 : Nat) : Int) by omega]
      refine p_callS3i 73 dX12_isSo_70 (s_isSame (Or.inl rfl : isR 127) hE (f := 59 + 19 * b + 10) (g := 173 + 19 * n + 10) (by omega) (by omega) (hR.1 _ (by omega)) (hR.1 _ (by omega)) (hR.2.2.2.2.2.1 b (by omega)).2.2 (hR.2.2.2.2.2.2 n (by omega)).2.2) lk_X12_257 mX12_isSame (by decide) (Nat.le_of_ble_eq_true rfl) ?_
      rintro _ _ ⟨rfl, e9⟩
      have e9 := e9.symm
      subst e9
      refine p_if_eq 80 76 dX12_isSo_73 (by split <;> omega) (by split <;> omega) (fun h73 => ?_) (fun h73 => ?_)
      · have hne : ¬ (q_done ρ (q_ss ρ n) S = q_sd ρ n) := by
          rw [hdd, hsp]
          exact if_eq0 h73
        refine p_iconst 81 dX12_isSo_80 ?_
        refine p_zret dX12_isSo_81 rfl (by decide) ?_
        refine ⟨_, rfl, ?_, rfl⟩
        first | (rw [if_neg hne]; done) | (rw [if_pos heq]; done)
      · have heq : q_done ρ (q_ss ρ n) S = q_sd ρ n := by
          rw [hdd, hsp]
          exact if_neq0 h73
        refine p_iconst 77 dX12_isSo_76 ?_
        refine p_goto 81 dX12_isSo_77 ?_
        refine p_zret dX12_isSo_81 rfl (by decide) ?_
        refine ⟨_, rfl, ?_, rfl⟩
        first | (rw [if_neg hne]; done) | (rw [if_pos heq]; done)
  · have hd0 : q_done ρ (q_ss ρ n) S = 0 := by
      rcases q_done_dn hR hR1 (q_ss ρ n) S with ⟨k1, k2⟩ | ⟨b, k1, k2⟩
      · exact k2
      · rw [k1] at h21; exact absurd (show (0 : Int) ≤ (b : Int) by omega) h21
    refine p_aload_n 25 dX12_isSo_24 rfl rfl (by decide) ?_
    refine p_getR 124 28 dX12_isSo_25 fX12_20 rfl (hW (124, 15, 127) (by decide)) ?_
    refine p_iload_n 29 dX12_isSo_28 rfl rfl ?_
    refine p_ialdn 127 30 (173 + 19 * n) dX12_isSo_29 rfl (by omega) (by omega) ?_
    rw [hE _ (by omega)]
    refine p_if_ne 37 33 dX12_isSo_30 (by omega) (by omega) (fun h30 => ?_) (fun h30 => ?_)
    · have hne : ¬ (q_done ρ (q_ss ρ n) S = q_sd ρ n) := by
        have := (q_sd_pos hR hR1 hn (by omega)).1
        omega
      refine p_iconst 38 dX12_isSo_37 ?_
      refine p_goto 81 dX12_isSo_38 ?_
      refine p_zret dX12_isSo_81 rfl (by decide) ?_
      refine ⟨_, rfl, ?_, rfl⟩
      first | (rw [if_neg hne]; done) | (rw [if_pos heq]; done)
    · have heq : q_done ρ (q_ss ρ n) S = q_sd ρ n := by
        rw [hd0]
        unfold q_sd
        rw [if_pos (by omega)]
      refine p_iconst 34 dX12_isSo_33 ?_
      refine p_goto 81 dX12_isSo_34 ?_
      refine p_zret dX12_isSo_81 rfl (by decide) ?_
      refine ⟨_, rfl, ?_, rfl⟩
      first | (rw [if_neg hne]; done) | (rw [if_pos heq]; done)
theorem l_doesFit {l : Launch} {X : ZX} {M : ZM} {ρ : Nat → Int} (hW : zWm M) (hE : ∀ i, i < 421 → M 127 i = ρ i) (hR : wfR ρ) (hR1 : wfR1 ρ) {S : Nat} (hS : S < 2147483648) : ∀ (j i : Nat), i + j = q_n ρ 7 → zP l X 4 tX12_doesFit 4 [some (zr 124), some (zi (S : Int)), some (zi (if q_all (fun n => decide (q_done ρ (q_ss ρ n) S = q_sd ρ n)) i = true then 1 else 0)), some (zi (i : Int))] [] M (fun r M' => ∃ a, r = some (zi a) ∧ (a = (if q_fit ρ S = true then 1 else 0) ∧ M' = M)) := by
  have e6 : ρ 6 = (q_n ρ 6 : Int) := hR.n (by decide)
  have b6 := hR.2.1.2.2.2.2.2.2.1
  have e7 : ρ 7 = (q_n ρ 7 : Int) := hR.n (by decide)
  have b7 := hR.2.1.2.2.2.2.2.2.2
  have hp6 := p6 (n := q_n ρ 6) (by omega)
  have hp0 : 0 < 2 ^ q_n ρ 6 := Nat.two_pow_pos _
  intro j
  induction j with
  | zero =>
    intro i hi
    refine p_iload_n 5 dX12_doesFit_4 rfl rfl ?_
    refine p_aload_n 6 dX12_doesFit_5 rfl rfl (by decide) ?_
    refine p_getR 124 9 dX12_doesFit_6 fX12_20 rfl (hW (124, 15, 127) (by decide)) ?_
    refine p_bipush 11 dX12_doesFit_9 rfl ?_
    refine p_ialdn 127 12 (7) dX12_doesFit_11 rfl (by omega) (by omega) ?_
    rw [hE 7 (by decide)]
    refine p_icmp_ge 40 15 dX12_doesFit_12 (by omega) (by omega) (by omega) (by omega) (fun h12 => ?_) (fun h12 => absurd (by omega) (fun h9 : False => h9))
    refine p_iload_n 41 dX12_doesFit_40 rfl rfl ?_
    refine p_zret dX12_doesFit_41 rfl (by split <;> omega) ?_
    rw [Nat.add_zero] at hi
    subst hi
    exact ⟨_, rfl, rfl, rfl⟩
  | succ j ih =>
    intro i hi
    refine p_iload_n 5 dX12_doesFit_4 rfl rfl ?_
    refine p_aload_n 6 dX12_doesFit_5 rfl rfl (by decide) ?_
    refine p_getR 124 9 dX12_doesFit_6 fX12_20 rfl (hW (124, 15, 127) (by decide)) ?_
    refine p_bipush 11 dX12_doesFit_9 rfl ?_
    refine p_ialdn 127 12 (7) dX12_doesFit_11 rfl (by omega) (by omega) ?_
    rw [hE 7 (by decide)]
    refine p_icmp_ge 40 15 dX12_doesFit_12 (by omega) (by omega) (by omega) (by omega) (fun h12 => absurd (by omega) (fun h9 : False => h9)) (fun h12 => ?_)
    refine p_iload_n 16 dX12_doesFit_15 rfl rfl ?_
    refine p_if_eq 32 19 dX12_doesFit_16 (by split <;> omega) (by split <;> omega) (fun h16 => ?_) (fun h16 => ?_)
    · refine p_iconst 33 dX12_doesFit_32 ?_
      refine p_istore_n 34 dX12_doesFit_33 rfl (Nat.le_of_ble_eq_true rfl) rfl rfl ?_
      dsimp only [List.set]
      refine p_iinc 37 dX12_doesFit_34 rfl rfl rfl ?_
      dsimp only [List.set]
      refine p_goto 4 dX12_doesFit_37 ?_
      have e := ih (i + 1) (by omega)
      first
        | (rw [q_all_succ, Bool.eq_false_iff.mpr (if_eq0 h16), Bool.false_and, if_neg (by decide)] at e; exact e)
        | (rw [q_all_succ, decide_eq_false (if_eq0 h25), Bool.and_false, if_neg (by decide)] at e; exact e)
        | (rw [q_all_succ, if_neq0 h16, decide_eq_true (if_neq0 h25)] at e; exact e)
    · refine p_aload_n 20 dX12_doesFit_19 rfl rfl (by decide) ?_
      refine p_iload_n 21 dX12_doesFit_20 rfl rfl ?_
      refine p_iload_n 22 dX12_doesFit_21 rfl rfl ?_
      refine p_callV2i 124 25 dX12_doesFit_22 (s_isSo hW hE hR hR1 (S := S) (n := i) hS (by omega)) lk_X12_364 mX12_isSo rfl rfl (by decide) (Nat.le_of_ble_eq_true rfl) ?_
      rintro _ _ ⟨rfl, e9⟩
      have e9 := e9.symm
      subst e9
      refine p_if_eq 32 28 dX12_doesFit_25 (by split <;> omega) (by split <;> omega) (fun h25 => ?_) (fun h25 => ?_)
      · refine p_iconst 33 dX12_doesFit_32 ?_
        refine p_istore_n 34 dX12_doesFit_33 rfl (Nat.le_of_ble_eq_true rfl) rfl rfl ?_
        dsimp only [List.set]
        refine p_iinc 37 dX12_doesFit_34 rfl rfl rfl ?_
        dsimp only [List.set]
        refine p_goto 4 dX12_doesFit_37 ?_
        have e := ih (i + 1) (by omega)
        first
          | (rw [q_all_succ, Bool.eq_false_iff.mpr (if_eq0 h16), Bool.false_and, if_neg (by decide)] at e; exact e)
          | (rw [q_all_succ, decide_eq_false (if_eq0 h25), Bool.and_false, if_neg (by decide)] at e; exact e)
          | (rw [q_all_succ, if_neq0 h16, decide_eq_true (if_neq0 h25)] at e; exact e)
      · refine p_iconst 29 dX12_doesFit_28 ?_
        refine p_goto 33 dX12_doesFit_29 ?_
        refine p_istore_n 34 dX12_doesFit_33 rfl (Nat.le_of_ble_eq_true rfl) rfl rfl ?_
        dsimp only [List.set]
        refine p_iinc 37 dX12_doesFit_34 rfl rfl rfl ?_
        dsimp only [List.set]
        refine p_goto 4 dX12_doesFit_37 ?_
        have e := ih (i + 1) (by omega)
        first
          | (rw [q_all_succ, Bool.eq_false_iff.mpr (if_eq0 h16), Bool.false_and, if_neg (by decide)] at e; exact e)
          | (rw [q_all_succ, decide_eq_false (if_eq0 h25), Bool.and_false, if_neg (by decide)] at e; exact e)
          | (rw [q_all_succ, if_neq0 h16, decide_eq_true (if_neq0 h25)] at e; exact e)
theorem s_doesFit {l : Launch} {X : ZX} {M : ZM} {ρ : Nat → Int} (hW : zWm M) (hE : ∀ i, i < 421 → M 127 i = ρ i) (hR : wfR ρ) (hR1 : wfR1 ρ) {S : Nat} (hS : S < 2147483648) : zCi l X 4 yX12_doesFit tX12_doesFit [zr 124, zi (S : Int)] M (fun a M' => a = (if q_fit ρ S = true then 1 else 0) ∧ M' = M) := by
  refine zC.of [some (zr 124), some (zi (S : Int)), none, none] (by decide +kernel) rfl rfl (Nat.le_of_ble_eq_true rfl) rfl ?_
  refine p_iconst 1 dX12_doesFit_0 ?_
  refine p_istore_n 2 dX12_doesFit_1 rfl (Nat.le_of_ble_eq_true rfl) rfl rfl ?_
  dsimp only [List.set]
  refine p_iconst 3 dX12_doesFit_2 ?_
  refine p_istore_n 4 dX12_doesFit_3 rfl (Nat.le_of_ble_eq_true rfl) rfl rfl ?_
  dsimp only [List.set]
  exact l_doesFit hW hE hR hR1 hS (q_n ρ 7) 0 (Nat.zero_add _)
theorem s_allOrders {l : Launch} {X : ZX} {M : ZM} {ρ : Nat → Int} (hW : zWm M) (hE : ∀ i, i < 421 → M 127 i = ρ i) (hR : wfR ρ) : zCi l X 0 yX12_allOrders tX12_allOrders [zr 124] M (fun a M' => a = ((2 ^ q_n ρ 6 - 1 : Nat) : Int) ∧ M' = M) := by
  have e6 : ρ 6 = (q_n ρ 6 : Int) := hR.n (by decide)
  have b6 := hR.2.1.2.2.2.2.2.2.1
  have e7 : ρ 7 = (q_n ρ 7 : Int) := hR.n (by decide)
  have b7 := hR.2.1.2.2.2.2.2.2.2
  have hp6 := p6 (n := q_n ρ 6) (by omega)
  have hp0 : 0 < 2 ^ q_n ρ 6 := Nat.two_pow_pos _
  refine zC.of [some (zr 124)] (by decide +kernel) rfl rfl (Nat.le_of_ble_eq_true rfl) rfl ?_
  refine p_iconst 1 dX12_allOrders_0 ?_
  refine p_aload_n 2 dX12_allOrders_1 rfl rfl (by decide) ?_
  refine p_getR 124 5 dX12_allOrders_2 fX12_20 rfl (hW (124, 15, 127) (by decide)) ?_
  refine p_bipush 7 dX12_allOrders_5 rfl ?_
  refine p_ialdn 127 8 (6) dX12_allOrders_7 rfl (by omega) (by omega) ?_
  rw [hE 6 (by decide), e6]
  refine p_ishl 9 dX12_allOrders_8 ?_
  rw [z_bit (q_n ρ 6) (by omega)]
  refine p_iconst 10 dX12_allOrders_9 ?_
  refine p_isub 11 dX12_allOrders_10 ?_
  refine p_iret dX12_allOrders_11 rfl ?_
  refine ⟨_, rfl, ?_, rfl⟩
  omega
