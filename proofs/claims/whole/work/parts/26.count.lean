/-- how n things are told where the digit k isn't there -/
def q_cnt (k n : Nat) : Nat := if h : n = 0 then 0 else (if k ≤ n % 9 then n % 9 + 1 else n % 9) + 10 * q_cnt k (n / 9)
termination_by n
decreasing_by omega
theorem l_toldFor {l : Launch} {X : ZX} {M : ZM} {d : Nat} {c : Nat} (hc : zTT[c]? = some (.inl 0)) {k : Nat} (hk : k ≤ 9) (hlk : M c 1 = (k : Int)) (a1 : Int) : ∀ (f v : Nat), v ≤ f → v < 2147483648 → ∀ (a2 a3 : Int) (o5 : Option ZV), zP l X d tX0_toldFor 7 [some (zr (c : Int)), some (zi a1), some (zi a2), some (zi a3), some (zi (v : Int)), o5] [] M (fun r M' => ∃ a, r = some (zi a) ∧ (a = a2 + a3 * (q_cnt k v : Int) ∧ M' = M)) := by
  intro f
  induction f with
  | zero =>
    intro v hv hb a2 a3 o5
    have e : v = 0 := by omega
    subst e
    refine p_iload 9 dX0_toldFor_7 rfl ?_
    refine p_if_le 57 12 dX0_toldFor_9 (by omega) (by omega) (fun h9 => ?_) (fun h9 => absurd (by omega) (fun h9 : False => h9))
    refine p_iload_n 58 dX0_toldFor_57 rfl rfl ?_
    refine p_iret dX0_toldFor_58 rfl ?_
    refine ⟨_, rfl, ?_, rfl⟩
    unfold q_cnt
    simp
  | succ f ih =>
    intro v hv hb a2 a3 o5
    by_cases e0 : v = 0
    · subst e0
      refine p_iload 9 dX0_toldFor_7 rfl ?_
      refine p_if_le 57 12 dX0_toldFor_9 (by omega) (by omega) (fun h9 => ?_) (fun h9 => absurd (by omega) (fun h9 : False => h9))
      refine p_iload_n 58 dX0_toldFor_57 rfl rfl ?_
      refine p_iret dX0_toldFor_58 rfl ?_
      refine ⟨_, rfl, ?_, rfl⟩
      unfold q_cnt
      simp
    · have er := z_irem_n v 9 hb (by decide)
      have ed := z_idiv_n v 9 hb (by decide)
      refine p_iload 9 dX0_toldFor_7 rfl ?_
      refine p_if_le 57 12 dX0_toldFor_9 (by omega) (by omega) (fun h9 => absurd (by omega) (fun h9 : False => h9)) (fun h9 => ?_)
      refine p_iload 14 dX0_toldFor_12 rfl ?_
      refine p_bipush 16 dX0_toldFor_14 rfl ?_
      refine p_irem 17 dX0_toldFor_16 (by decide) ?_
      rw [show z_irem (v : Int) 9 = ((v % 9 : Nat) : Int) from er]
      refine p_istore 19 dX0_toldFor_17 (Nat.le_of_ble_eq_true rfl) rfl rfl ?_
      dsimp only [List.set]
      refine p_iload_n 20 dX0_toldFor_19 rfl rfl ?_
      refine p_iload 22 dX0_toldFor_20 rfl ?_
      refine p_aload_n 23 dX0_toldFor_22 rfl rfl (by omega) ?_
      refine p_getI (c) 26 dX0_toldFor_23 fX0_43 hc ?_
      rw [hlk]
      refine p_icmp_lt 36 29 dX0_toldFor_26 (by omega) (by omega) (by omega) (by omega) (fun h26 => ?_) (fun h26 => ?_)
      · refine p_iload 38 dX0_toldFor_36 rfl ?_
        refine p_iload_n 39 dX0_toldFor_38 rfl rfl ?_
        refine p_imul 40 dX0_toldFor_39 ?_
        refine p_iadd 41 dX0_toldFor_40 ?_
        refine p_istore_n 42 dX0_toldFor_41 rfl (Nat.le_of_ble_eq_true rfl) rfl rfl ?_
        dsimp only [List.set]
        refine p_iload_n 43 dX0_toldFor_42 rfl rfl ?_
        refine p_bipush 45 dX0_toldFor_43 rfl ?_
        refine p_imul 46 dX0_toldFor_45 ?_
        refine p_istore_n 47 dX0_toldFor_46 rfl (Nat.le_of_ble_eq_true rfl) rfl rfl ?_
        dsimp only [List.set]
        refine p_iload 49 dX0_toldFor_47 rfl ?_
        refine p_bipush 51 dX0_toldFor_49 rfl ?_
        refine p_idiv 52 dX0_toldFor_51 (by decide) ?_
        refine p_istore 54 dX0_toldFor_52 (Nat.le_of_ble_eq_true rfl) rfl rfl ?_
        dsimp only [List.set]
        refine p_goto 7 dX0_toldFor_54 ?_
        rw [show z_idiv (v : Int) 9 = ((v / 9 : Nat) : Int) from ed]
        refine (ih (v / 9) (by omega) (by omega) _ _ _).mono (fun r M9 h9 => ?_)
        obtain ⟨a, ea, eb, ec⟩ := h9
        refine ⟨a, ea, ?_, ec⟩
        rw [eb]
        conv => rhs; unfold q_cnt
        rw [dif_neg e0]
        first | (rw [if_neg (by omega)]; push_cast; grind) | (rw [if_pos (by omega)]; push_cast; grind)
      · refine p_iload 31 dX0_toldFor_29 rfl ?_
        refine p_iconst 32 dX0_toldFor_31 ?_
        refine p_iadd 33 dX0_toldFor_32 ?_
        refine p_goto 38 dX0_toldFor_33 ?_
        refine p_iload_n 39 dX0_toldFor_38 rfl rfl ?_
        refine p_imul 40 dX0_toldFor_39 ?_
        refine p_iadd 41 dX0_toldFor_40 ?_
        refine p_istore_n 42 dX0_toldFor_41 rfl (Nat.le_of_ble_eq_true rfl) rfl rfl ?_
        dsimp only [List.set]
        refine p_iload_n 43 dX0_toldFor_42 rfl rfl ?_
        refine p_bipush 45 dX0_toldFor_43 rfl ?_
        refine p_imul 46 dX0_toldFor_45 ?_
        refine p_istore_n 47 dX0_toldFor_46 rfl (Nat.le_of_ble_eq_true rfl) rfl rfl ?_
        dsimp only [List.set]
        refine p_iload 49 dX0_toldFor_47 rfl ?_
        refine p_bipush 51 dX0_toldFor_49 rfl ?_
        refine p_idiv 52 dX0_toldFor_51 (by decide) ?_
        refine p_istore 54 dX0_toldFor_52 (Nat.le_of_ble_eq_true rfl) rfl rfl ?_
        dsimp only [List.set]
        refine p_goto 7 dX0_toldFor_54 ?_
        rw [show z_idiv (v : Int) 9 = ((v / 9 : Nat) : Int) from ed]
        refine (ih (v / 9) (by omega) (by omega) _ _ _).mono (fun r M9 h9 => ?_)
        obtain ⟨a, ea, eb, ec⟩ := h9
        refine ⟨a, ea, ?_, ec⟩
        rw [eb]
        conv => rhs; unfold q_cnt
        rw [dif_neg e0]
        first | (rw [if_neg (by omega)]; push_cast; grind) | (rw [if_pos (by omega)]; push_cast; grind)
theorem s_toldFor {l : Launch} {X : ZX} {M : ZM} {c : Nat} (hc : zTT[c]? = some (.inl 0)) {k : Nat} (hk : k ≤ 9) (hlk : M c 1 = (k : Int)) {v : Nat} (hv : v < 2147483648) : zCi l X 0 yX0_toldFor tX0_toldFor [zr (c : Int), zi (v : Int)] M (fun a M' => a = (q_cnt k v : Int) ∧ M' = M) := by
  refine zC.of [some (zr (c : Int)), some (zi (v : Int)), none, none, none, none] (by decide +kernel) rfl rfl (Nat.le_of_ble_eq_true rfl) rfl ?_
  refine p_iconst 1 dX0_toldFor_0 ?_
  refine p_istore_n 2 dX0_toldFor_1 rfl (Nat.le_of_ble_eq_true rfl) rfl rfl ?_
  dsimp only [List.set]
  refine p_iconst 3 dX0_toldFor_2 ?_
  refine p_istore_n 4 dX0_toldFor_3 rfl (Nat.le_of_ble_eq_true rfl) rfl rfl ?_
  dsimp only [List.set]
  refine p_iload_n 5 dX0_toldFor_4 rfl rfl ?_
  refine p_istore 7 dX0_toldFor_5 (Nat.le_of_ble_eq_true rfl) rfl rfl ?_
  dsimp only [List.set]
  refine (l_toldFor hc hk hlk _ v v (Nat.le_refl v) hv _ _ _).mono (fun r M9 h9 => ?_)
  obtain ⟨a, ea, eb, ec⟩ := h9
  exact ⟨a, ea, by rw [eb]; simp, ec⟩
theorem l_countOf {l : Launch} {X : ZX} {M : ZM} {d : Nat} (hW : zWm M) {k : Nat} (hk : k ≤ 9) (hlk : M 127 0 = (k : Int)) (a1 : Int) : ∀ (f v : Nat), v ≤ f → v < 2147483648 → ∀ (a2 a3 : Int) (o5 : Option ZV), zP l X d tX12_countOf 7 [some (zr 124), some (zi a1), some (zi a2), some (zi a3), some (zi (v : Int)), o5] [] M (fun r M' => ∃ a, r = some (zi a) ∧ (a = a2 + a3 * (q_cnt k v : Int) ∧ M' = M)) := by
  intro f
  induction f with
  | zero =>
    intro v hv hb a2 a3 o5
    have e : v = 0 := by omega
    subst e
    refine p_iload 9 dX12_countOf_7 rfl ?_
    refine p_if_le 59 12 dX12_countOf_9 (by omega) (by omega) (fun h9 => ?_) (fun h9 => absurd (by omega) (fun h9 : False => h9))
    refine p_iload_n 60 dX12_countOf_59 rfl rfl ?_
    refine p_iret dX12_countOf_60 rfl ?_
    refine ⟨_, rfl, ?_, rfl⟩
    unfold q_cnt
    simp
  | succ f ih =>
    intro v hv hb a2 a3 o5
    by_cases e0 : v = 0
    · subst e0
      refine p_iload 9 dX12_countOf_7 rfl ?_
      refine p_if_le 59 12 dX12_countOf_9 (by omega) (by omega) (fun h9 => ?_) (fun h9 => absurd (by omega) (fun h9 : False => h9))
      refine p_iload_n 60 dX12_countOf_59 rfl rfl ?_
      refine p_iret dX12_countOf_60 rfl ?_
      refine ⟨_, rfl, ?_, rfl⟩
      unfold q_cnt
      simp
    · have er := z_irem_n v 9 hb (by decide)
      have ed := z_idiv_n v 9 hb (by decide)
      refine p_iload 9 dX12_countOf_7 rfl ?_
      refine p_if_le 59 12 dX12_countOf_9 (by omega) (by omega) (fun h9 => absurd (by omega) (fun h9 : False => h9)) (fun h9 => ?_)
      refine p_iload 14 dX12_countOf_12 rfl ?_
      refine p_bipush 16 dX12_countOf_14 rfl ?_
      refine p_irem 17 dX12_countOf_16 (by decide) ?_
      rw [show z_irem (v : Int) 9 = ((v % 9 : Nat) : Int) from er]
      refine p_istore 19 dX12_countOf_17 (Nat.le_of_ble_eq_true rfl) rfl rfl ?_
      dsimp only [List.set]
      refine p_iload_n 20 dX12_countOf_19 rfl rfl ?_
      refine p_iload_n 21 dX12_countOf_20 rfl rfl ?_
      refine p_iload 23 dX12_countOf_21 rfl ?_
      refine p_aload_n 24 dX12_countOf_23 rfl rfl (by decide) ?_
      refine p_getR 124 27 dX12_countOf_24 fX12_20 rfl (hW (124, 15, 127) (by decide)) ?_
      refine p_iconst 28 dX12_countOf_27 ?_
      refine p_iald 127 29 dX12_countOf_28 rfl (by omega) (by omega) ?_
      try simp only [Int.toNat_natCast, Int.reduceToNat]
      rw [hlk]
      refine p_icmp_lt 39 32 dX12_countOf_29 (by omega) (by omega) (by omega) (by omega) (fun h29 => ?_) (fun h29 => ?_)
      · refine p_iload 41 dX12_countOf_39 rfl ?_
        refine p_imul 42 dX12_countOf_41 ?_
        refine p_iadd 43 dX12_countOf_42 ?_
        refine p_istore_n 44 dX12_countOf_43 rfl (Nat.le_of_ble_eq_true rfl) rfl rfl ?_
        dsimp only [List.set]
        refine p_iload_n 45 dX12_countOf_44 rfl rfl ?_
        refine p_bipush 47 dX12_countOf_45 rfl ?_
        refine p_imul 48 dX12_countOf_47 ?_
        refine p_istore_n 49 dX12_countOf_48 rfl (Nat.le_of_ble_eq_true rfl) rfl rfl ?_
        dsimp only [List.set]
        refine p_iload 51 dX12_countOf_49 rfl ?_
        refine p_bipush 53 dX12_countOf_51 rfl ?_
        refine p_idiv 54 dX12_countOf_53 (by decide) ?_
        refine p_istore 56 dX12_countOf_54 (Nat.le_of_ble_eq_true rfl) rfl rfl ?_
        dsimp only [List.set]
        refine p_goto 7 dX12_countOf_56 ?_
        rw [show z_idiv (v : Int) 9 = ((v / 9 : Nat) : Int) from ed]
        refine (ih (v / 9) (by omega) (by omega) _ _ _).mono (fun r M9 h9 => ?_)
        obtain ⟨a, ea, eb, ec⟩ := h9
        refine ⟨a, ea, ?_, ec⟩
        rw [eb]
        conv => rhs; unfold q_cnt
        rw [dif_neg e0]
        first | (rw [if_neg (by omega)]; push_cast; grind) | (rw [if_pos (by omega)]; push_cast; grind)
      · refine p_iload 34 dX12_countOf_32 rfl ?_
        refine p_iconst 35 dX12_countOf_34 ?_
        refine p_iadd 36 dX12_countOf_35 ?_
        refine p_goto 41 dX12_countOf_36 ?_
        refine p_imul 42 dX12_countOf_41 ?_
        refine p_iadd 43 dX12_countOf_42 ?_
        refine p_istore_n 44 dX12_countOf_43 rfl (Nat.le_of_ble_eq_true rfl) rfl rfl ?_
        dsimp only [List.set]
        refine p_iload_n 45 dX12_countOf_44 rfl rfl ?_
        refine p_bipush 47 dX12_countOf_45 rfl ?_
        refine p_imul 48 dX12_countOf_47 ?_
        refine p_istore_n 49 dX12_countOf_48 rfl (Nat.le_of_ble_eq_true rfl) rfl rfl ?_
        dsimp only [List.set]
        refine p_iload 51 dX12_countOf_49 rfl ?_
        refine p_bipush 53 dX12_countOf_51 rfl ?_
        refine p_idiv 54 dX12_countOf_53 (by decide) ?_
        refine p_istore 56 dX12_countOf_54 (Nat.le_of_ble_eq_true rfl) rfl rfl ?_
        dsimp only [List.set]
        refine p_goto 7 dX12_countOf_56 ?_
        rw [show z_idiv (v : Int) 9 = ((v / 9 : Nat) : Int) from ed]
        refine (ih (v / 9) (by omega) (by omega) _ _ _).mono (fun r M9 h9 => ?_)
        obtain ⟨a, ea, eb, ec⟩ := h9
        refine ⟨a, ea, ?_, ec⟩
        rw [eb]
        conv => rhs; unfold q_cnt
        rw [dif_neg e0]
        first | (rw [if_neg (by omega)]; push_cast; grind) | (rw [if_pos (by omega)]; push_cast; grind)
theorem s_countOf {l : Launch} {X : ZX} {M : ZM} (hW : zWm M) {k : Nat} (hk : k ≤ 9) (hlk : M 127 0 = (k : Int)) {v : Nat} (hv : v < 2147483648) : zCi l X 0 yX12_countOf tX12_countOf [zr 124, zi (v : Int)] M (fun a M' => a = (q_cnt k v : Int) ∧ M' = M) := by
  refine zC.of [some (zr 124), some (zi (v : Int)), none, none, none, none] (by decide +kernel) rfl rfl (Nat.le_of_ble_eq_true rfl) rfl ?_
  refine p_iconst 1 dX12_countOf_0 ?_
  refine p_istore_n 2 dX12_countOf_1 rfl (Nat.le_of_ble_eq_true rfl) rfl rfl ?_
  dsimp only [List.set]
  refine p_iconst 3 dX12_countOf_2 ?_
  refine p_istore_n 4 dX12_countOf_3 rfl (Nat.le_of_ble_eq_true rfl) rfl rfl ?_
  dsimp only [List.set]
  refine p_iload_n 5 dX12_countOf_4 rfl rfl ?_
  refine p_istore 7 dX12_countOf_5 (Nat.le_of_ble_eq_true rfl) rfl rfl ?_
  dsimp only [List.set]
  refine (l_countOf hW hk hlk _ v v (Nat.le_refl v) hv _ _ _).mono (fun r M9 h9 => ?_)
  obtain ⟨a, ea, eb, ec⟩ := h9
  exact ⟨a, ea, by rw [eb]; simp, ec⟩
