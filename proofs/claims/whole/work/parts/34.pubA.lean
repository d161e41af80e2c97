theorem WF.r {s : ZM} (h : WF s) : wfR (s 127) := h.2.2.2.2.2.2.1
theorem WF.t {s : ZM} (h : WF s) : wfT (s 127) (s 129) := h.2.2.2.2.2.2.2.2.2.1
theorem WF.h {s : ZM} (h : WF s) : s 124 14 = 0 ∨ s 124 14 = 1 := h.2.2.2.2.2.1
theorem WF.r1 {s : ZM} (h : WF s) : s 124 14 = 1 → wfR1 (s 127) := h.2.2.2.2.2.2.2.2.1
theorem WF.r0 {s : ZM} (h : WF s) : s 124 14 = 0 → ∀ i, i < 421 → s 127 i = 0 := h.2.2.2.2.2.2.2.1
theorem hid_good {M : ZM} : Hid M (zset (zset M 124 0 0) 124 11 0) := (Hid.rfl.set (c := 124) (k := 0) (Or.inl (by decide +kernel)) (by decide)).set (c := 124) (k := 11) (Or.inr ⟨rfl, rfl⟩) (by decide)
theorem hid_no {M : ZM} {v : Int} : Hid M (zset (zset (zset M 124 0 0) 124 11 0) 124 11 v) := hid_good.set (c := 124) (k := 11) (Or.inr ⟨rfl, rfl⟩) (by decide)
def pa_counts (h : Int) (ρ : Nat → Int) (v : Int) : Int × Int := if h = 0 then (-1, 1) else if 0 ≤ v ∧ v ≤ 99999 then ((q_cnt (q_n ρ 0) v.toNat : Int), 0) else (-1, 2)
def pa_really (h : Int) (ρ : Nat → Int) (v : Int) : Int × Int := if h = 0 then (-1, 1) else if 0 ≤ v ∧ v ≤ 999999 then (q_opt (q_rly (q_n ρ 0) v.toNat), 0) else (-1, 2)
def pa_sum (h : Int) (ρ : Nat → Int) (v w : Int) : Int × Int := if h = 0 then (-1, 1) else if 0 ≤ v ∧ v ≤ 99999 ∧ 0 ≤ w ∧ w ≤ 99999 then ((match q_rly (q_n ρ 0) v.toNat, q_rly (q_n ρ 0) w.toNat with
  | some a, some b => (q_cnt (q_n ρ 0) (a + b) : Int)
  | _, _ => -2), 0) else (-1, 2)
theorem q_rly_le (k : Nat) : ∀ (f n x : Nat), n ≤ f → q_rly k n = some x → x ≤ n := by
  intro f
  induction f with
  | zero =>
    intro n x hn h
    have e : n = 0 := by omega
    subst e
    unfold q_rly at h
    simp at h
    omega
  | succ f ih =>
    intro n x hn h
    by_cases e : n = 0
    · subst e
      unfold q_rly at h
      simp at h
      omega
    · unfold q_rly at h
      rw [dif_neg e] at h
      split at h
      · cases h
      · cases hq : q_rly k (n / 10) with
        | none => rw [hq] at h; cases h
        | some y =>
          rw [hq] at h
          simp only [Option.map_some, Option.some.injEq] at h
          have := ih (n / 10) y (by omega) hq
          split at h <;> omega
theorem s_refuse {l : Launch} {X : ZX} {M : ZM} {why : Int} : zCi l X 0 yX11_refuse tX11_refuse [zr 0, zi why] M (fun a M' => a = -1 ∧ M' = zset M 0 2 why) := by
  refine zC.of [some (zr 0), some (zi why)] (by decide +kernel) rfl rfl (Nat.le_of_ble_eq_true rfl) rfl ?_
  refine p_aload_n 1 dX11_refuse_0 rfl rfl (by decide) ?_
  refine p_iload_n 2 dX11_refuse_1 rfl rfl ?_
  refine p_putI 0 5 dX11_refuse_2 wX11_111 rfl ?_
  refine p_iconst 6 dX11_refuse_5 ?_
  refine p_iret dX11_refuse_6 rfl ?_
  exact ⟨_, rfl, rfl, rfl⟩
theorem s_deny {l : Launch} {X : ZX} {M : ZM} {why : Int} : zCi l X 0 yX11_deny tX11_deny [zr 0, zi why] M (fun a M' => a = 0 ∧ M' = zset M 0 2 why) := by
  refine zC.of [some (zr 0), some (zi why)] (by decide +kernel) rfl rfl (Nat.le_of_ble_eq_true rfl) rfl ?_
  refine p_aload_n 1 dX11_deny_0 rfl rfl (by decide) ?_
  refine p_iload_n 2 dX11_deny_1 rfl rfl ?_
  refine p_putI 0 5 dX11_deny_2 wX11_111 rfl ?_
  refine p_iconst 6 dX11_deny_5 ?_
  refine p_zret dX11_deny_6 rfl (by decide) ?_
  exact ⟨_, rfl, rfl, rfl⟩
theorem s_grant {l : Launch} {X : ZX} {M : ZM} {v : Int} : zCi l X 0 yX11_grant tX11_grant [zr 0, zi v] M (fun a M' => a = v ∧ M' = zset M 0 2 0) := by
  refine zC.of [some (zr 0), some (zi v)] (by decide +kernel) rfl rfl (Nat.le_of_ble_eq_true rfl) rfl ?_
  refine p_aload_n 1 dX11_grant_0 rfl rfl (by decide) ?_
  refine p_iconst 2 dX11_grant_1 ?_
  refine p_putI 0 5 dX11_grant_2 wX11_111 rfl ?_
  refine p_iload_n 6 dX11_grant_5 rfl rfl ?_
  refine p_iret dX11_grant_6 rfl ?_
  exact ⟨_, rfl, rfl, rfl⟩
theorem s_allow {l : Launch} {X : ZX} {M : ZM}  : zCi l X 0 yX11_allow tX11_allow [zr 0] M (fun a M' => a = 1 ∧ M' = zset M 0 2 0) := by
  refine zC.of [some (zr 0)] (by decide +kernel) rfl rfl (Nat.le_of_ble_eq_true rfl) rfl ?_
  refine p_aload_n 1 dX11_allow_0 rfl rfl (by decide) ?_
  refine p_iconst 2 dX11_allow_1 ?_
  refine p_putI 0 5 dX11_allow_2 wX11_111 rfl ?_
  refine p_iconst 6 dX11_allow_5 ?_
  refine p_zret dX11_allow_6 rfl (by decide) ?_
  exact ⟨_, rfl, rfl, rfl⟩
theorem c_counts {l : Launch} {X : ZX} {M : ZM} (hI : IC M M) (hF : WF M) {v : Int} (hv1 : -2147483648 ≤ v) (hv2 : v < 2147483648) : zCi l X 1 yX11_counts tX11_counts [zr 0, zi v] M (CQ M (pa_counts (M 124 14) (M 127) v)) := by
  obtain ⟨hW, ⟨c, c', hcc, hco, hsp, hC⟩, ⟨j1, j2, j3, j4, j5⟩, hN, hpast, hten, ⟨hz0, hsea⟩, hfit⟩ := id hI
  have hR := hF.r
  have hT := hF.t
  have hh := hF.h
  have e0 : M 127 0 = (q_n (M 127) 0 : Int) := hR.n (by decide)
  have e2 : M 127 2 = (q_n (M 127) 2 : Int) := hR.n (by decide)
  have e3 : M 127 3 = (q_n (M 127) 3 : Int) := hR.n (by decide)
  have e4 : M 127 4 = (q_n (M 127) 4 : Int) := hR.n (by decide)
  have bR := hR.2.1
  refine zC.of [some (zr 0), some (zi v)] (by decide +kernel) rfl rfl (Nat.le_of_ble_eq_true rfl) rfl ?_
  rcases hcc with ⟨rfl, rfl⟩ | ⟨rfl, rfl⟩
  · have hto : M 2 0 = M 124 14 := hC.1.1
    have hla : M 2 1 = M 127 0 := hC.1.2.1
    have hsn : M 2 2 = M 127 1 := hC.1.2.2.1
    have hcs : M 3 0 = M 127 2 := hC.1.2.2.2.1
    have hca : M 8 0 = M 127 3 := hC.1.2.2.2.2.1
    have hcw : M 13 0 = M 127 4 := hC.1.2.2.2.2.2.1
    have hcb : M 13 1 = M 127 5 := hC.1.2.2.2.2.2.2.1
    have hcor : M 19 0 = M 127 6 := hC.1.2.2.2.2.2.2.2.1
    have hcn : M 19 4 = M 127 7 := hC.1.2.2.2.2.2.2.2.2
    refine p_aload_n 1 dX11_counts_0 rfl rfl (by decide) ?_
    refine p_getR 0 4 dX11_counts_1 fX11_16 rfl hco ?_
    refine p_getI 2 7 dX11_counts_4 fX11_114 rfl ?_
    rw [hto]
    refine p_if_ne 16 10 dX11_counts_7 (by omega) (by omega) (fun h7 => ?_) (fun h7 => ?_)
    · refine p_iload_n 17 dX11_counts_16 rfl rfl ?_
      refine p_if_lt 26 20 dX11_counts_17 (by omega) (by omega) (fun h17 => ?_) (fun h17 => ?_)
      · refine p_aload_n 27 dX11_counts_26 rfl rfl (by decide) ?_
        refine p_iconst 28 dX11_counts_27 ?_
        refine p_callV1i 0 31 dX11_counts_28 s_refuse lk_X11_73 mX11_refuse rfl rfl (by decide) (Nat.le_of_ble_eq_true rfl) ?_
        rintro _ _ ⟨rfl, rfl⟩
        refine p_iret dX11_counts_31 rfl ?_
        exact ⟨_, rfl, CQ.of hI hF (fun k _ => rfl) (by unfold pa_counts; (repeat' split) <;> first | rfl | (exfalso; omega)) (by unfold pa_counts; (repeat' split) <;> first | rfl | (exfalso; omega)) (by decide)⟩
      · refine p_iload_n 21 dX11_counts_20 rfl rfl ?_
        refine p_ldc (z := 99999) 23 dX11_counts_21 kk_X11_117 rfl ?_
        refine p_icmp_le 32 26 dX11_counts_23 (by omega) (by omega) (by omega) (by omega) (fun h23 => ?_) (fun h23 => ?_)
        · refine p_aload_n 33 dX11_counts_32 rfl rfl (by decide) ?_
          obtain ⟨n, rfl⟩ : ∃ k : Nat, v = (k : Int) := ⟨v.toNat, by omega⟩
          refine p_aload_n 34 dX11_counts_33 rfl rfl (by decide) ?_
          refine p_getR 0 37 dX11_counts_34 fX11_16 rfl hco ?_
          refine p_iload_n 38 dX11_counts_37 rfl rfl ?_
          refine p_callV1i 2 41 dX11_counts_38 (s_toldFor (c := 2) rfl (k := q_n (M 127) 0) (by omega) (hla.trans e0) (by omega)) lk_X11_118 mX0_toldFor rfl rfl (by decide) (Nat.le_of_ble_eq_true rfl) ?_
          rintro _ _ ⟨rfl, e9⟩
          have e9 := e9.symm
          subst e9
          refine p_callV1i 0 44 dX11_counts_41 s_grant lk_X11_108 mX11_grant rfl rfl (by decide) (Nat.le_of_ble_eq_true rfl) ?_
          rintro _ _ ⟨rfl, rfl⟩
          refine p_iret dX11_counts_44 rfl ?_
          exact ⟨_, rfl, CQ.of hI hF (fun k _ => rfl) (by unfold pa_counts; (repeat' split) <;> first | rfl | (exfalso; omega)) (by unfold pa_counts; (repeat' split) <;> first | rfl | (exfalso; omega)) (by decide)⟩
        · refine p_aload_n 27 dX11_counts_26 rfl rfl (by decide) ?_
          refine p_iconst 28 dX11_counts_27 ?_
          refine p_callV1i 0 31 dX11_counts_28 s_refuse lk_X11_73 mX11_refuse rfl rfl (by decide) (Nat.le_of_ble_eq_true rfl) ?_
          rintro _ _ ⟨rfl, rfl⟩
          refine p_iret dX11_counts_31 rfl ?_
          exact ⟨_, rfl, CQ.of hI hF (fun k _ => rfl) (by unfold pa_counts; (repeat' split) <;> first | rfl | (exfalso; omega)) (by unfold pa_counts; (repeat' split) <;> first | rfl | (exfalso; omega)) (by decide)⟩
    · refine p_aload_n 11 dX11_counts_10 rfl rfl (by decide) ?_
      refine p_iconst 12 dX11_counts_11 ?_
      refine p_callV1i 0 15 dX11_counts_12 s_refuse lk_X11_73 mX11_refuse rfl rfl (by decide) (Nat.le_of_ble_eq_true rfl) ?_
      rintro _ _ ⟨rfl, rfl⟩
      refine p_iret dX11_counts_15 rfl ?_
      exact ⟨_, rfl, CQ.of hI hF (fun k _ => rfl) (by unfold pa_counts; (repeat' split) <;> first | rfl | (exfalso; omega)) (by unfold pa_counts; (repeat' split) <;> first | rfl | (exfalso; omega)) (by decide)⟩
  · have hto : M 25 0 = M 124 14 := hC.1.1
    have hla : M 25 1 = M 127 0 := hC.1.2.1
    have hsn : M 25 2 = M 127 1 := hC.1.2.2.1
    have hcs : M 26 0 = M 127 2 := hC.1.2.2.2.1
    have hca : M 31 0 = M 127 3 := hC.1.2.2.2.2.1
    have hcw : M 36 0 = M 127 4 := hC.1.2.2.2.2.2.1
    have hcb : M 36 1 = M 127 5 := hC.1.2.2.2.2.2.2.1
    have hcor : M 42 0 = M 127 6 := hC.1.2.2.2.2.2.2.2.1
    have hcn : M 42 4 = M 127 7 := hC.1.2.2.2.2.2.2.2.2
    refine p_aload_n 1 dX11_counts_0 rfl rfl (by decide) ?_
    refine p_getR 0 4 dX11_counts_1 fX11_16 rfl hco ?_
    refine p_getI 25 7 dX11_counts_4 fX11_114 rfl ?_
    rw [hto]
    refine p_if_ne 16 10 dX11_counts_7 (by omega) (by omega) (fun h7 => ?_) (fun h7 => ?_)
    · refine p_iload_n 17 dX11_counts_16 rfl rfl ?_
      refine p_if_lt 26 20 dX11_counts_17 (by omega) (by omega) (fun h17 => ?_) (fun h17 => ?_)
      · refine p_aload_n 27 dX11_counts_26 rfl rfl (by decide) ?_
        refine p_iconst 28 dX11_counts_27 ?_
        refine p_callV1i 0 31 dX11_counts_28 s_refuse lk_X11_73 mX11_refuse rfl rfl (by decide) (Nat.le_of_ble_eq_true rfl) ?_
        rintro _ _ ⟨rfl, rfl⟩
        refine p_iret dX11_counts_31 rfl ?_
        exact ⟨_, rfl, CQ.of hI hF (fun k _ => rfl) (by unfold pa_counts; (repeat' split) <;> first | rfl | (exfalso; omega)) (by unfold pa_counts; (repeat' split) <;> first | rfl | (exfalso; omega)) (by decide)⟩
      · refine p_iload_n 21 dX11_counts_20 rfl rfl ?_
        refine p_ldc (z := 99999) 23 dX11_counts_21 kk_X11_117 rfl ?_
        refine p_icmp_le 32 26 dX11_counts_23 (by omega) (by omega) (by omega) (by omega) (fun h23 => ?_) (fun h23 => ?_)
        · refine p_aload_n 33 dX11_counts_32 rfl rfl (by decide) ?_
          obtain ⟨n, rfl⟩ : ∃ k : Nat, v = (k : Int) := ⟨v.toNat, by omega⟩
          refine p_aload_n 34 dX11_counts_33 rfl rfl (by decide) ?_
          refine p_getR 0 37 dX11_counts_34 fX11_16 rfl hco ?_
          refine p_iload_n 38 dX11_counts_37 rfl rfl ?_
          refine p_callV1i 25 41 dX11_counts_38 (s_toldFor (c := 25) rfl (k := q_n (M 127) 0) (by omega) (hla.trans e0) (by omega)) lk_X11_118 mX0_toldFor rfl rfl (by decide) (Nat.le_of_ble_eq_true rfl) ?_
          rintro _ _ ⟨rfl, e9⟩
          have e9 := e9.symm
          subst e9
          refine p_callV1i 0 44 dX11_counts_41 s_grant lk_X11_108 mX11_grant rfl rfl (by decide) (Nat.le_of_ble_eq_true rfl) ?_
          rintro _ _ ⟨rfl, rfl⟩
          refine p_iret dX11_counts_44 rfl ?_
          exact ⟨_, rfl, CQ.of hI hF (fun k _ => rfl) (by unfold pa_counts; (repeat' split) <;> first | rfl | (exfalso; omega)) (by unfold pa_counts; (repeat' split) <;> first | rfl | (exfalso; omega)) (by decide)⟩
        · refine p_aload_n 27 dX11_counts_26 rfl rfl (by decide) ?_
          refine p_iconst 28 dX11_counts_27 ?_
          refine p_callV1i 0 31 dX11_counts_28 s_refuse lk_X11_73 mX11_refuse rfl rfl (by decide) (Nat.le_of_ble_eq_true rfl) ?_
          rintro _ _ ⟨rfl, rfl⟩
          refine p_iret dX11_counts_31 rfl ?_
          exact ⟨_, rfl, CQ.of hI hF (fun k _ => rfl) (by unfold pa_counts; (repeat' split) <;> first | rfl | (exfalso; omega)) (by unfold pa_counts; (repeat' split) <;> first | rfl | (exfalso; omega)) (by decide)⟩
    · refine p_aload_n 11 dX11_counts_10 rfl rfl (by decide) ?_
      refine p_iconst 12 dX11_counts_11 ?_
      refine p_callV1i 0 15 dX11_counts_12 s_refuse lk_X11_73 mX11_refuse rfl rfl (by decide) (Nat.le_of_ble_eq_true rfl) ?_
      rintro _ _ ⟨rfl, rfl⟩
      refine p_iret dX11_counts_15 rfl ?_
      exact ⟨_, rfl, CQ.of hI hF (fun k _ => rfl) (by unfold pa_counts; (repeat' split) <;> first | rfl | (exfalso; omega)) (by unfold pa_counts; (repeat' split) <;> first | rfl | (exfalso; omega)) (by decide)⟩
theorem m_counts {l : Launch} {X : ZX} {M : ZM} (hW : zWm M) (hF : WF M) {v : Int} (hv1 : -2147483648 ≤ v) (hv2 : v < 2147483648) : zCi l X 1 yX12_counts tX12_counts [zr 124, zi v] M (MQq M (pa_counts (M 124 14) (M 127) v)) := by
  have hWg : zWm (zset (zset M 124 0 0) 124 11 0) := (hW.set (by decide +kernel)).set (by decide +kernel)
  have hR := hF.r
  have hT := hF.t
  have hh := hF.h
  have e0 : M 127 0 = (q_n (M 127) 0 : Int) := hR.n (by decide)
  have e2 : M 127 2 = (q_n (M 127) 2 : Int) := hR.n (by decide)
  have e3 : M 127 3 = (q_n (M 127) 3 : Int) := hR.n (by decide)
  have e4 : M 127 4 = (q_n (M 127) 4 : Int) := hR.n (by decide)
  have bR := hR.2.1
  refine zC.of [some (zr 124), some (zi v)] (by decide +kernel) rfl rfl (Nat.le_of_ble_eq_true rfl) rfl ?_
  refine p_aload_n 1 dX12_counts_0 rfl rfl (by decide) ?_
  refine p_callV0v 124 4 dX12_counts_1 s_good lk_X12_165 mX12_good rfl rfl (by decide) (Nat.le_of_ble_eq_true rfl) ?_
  rintro _ rfl
  refine p_aload_n 5 dX12_counts_4 rfl rfl (by decide) ?_
  refine p_getI 124 8 dX12_counts_5 fX12_178 rfl ?_
  refine p_if_ne 17 11 dX12_counts_8 (by show _ ≤ M 124 14; omega) (by show M 124 14 < _; omega) (fun h8 => ?_) (fun h8 => ?_)
  · have h8 : ¬ M 124 14 = 0 := h8
    refine p_iload_n 18 dX12_counts_17 rfl rfl ?_
    refine p_iconst 19 dX12_counts_18 ?_
    refine p_ldcw (z := 99999) 22 dX12_counts_19 kk_X12_261 rfl ?_
    refine p_callS3i 25 dX12_counts_22 (s_in (by omega) (by omega) (by omega) (by omega) (by omega) (by omega)) lk_X12_146 mX12_in (by decide) (Nat.le_of_ble_eq_true rfl) ?_
    rintro _ _ ⟨rfl, e9⟩
    have e9 := e9.symm
    subst e9
    refine p_if_eq 36 28 dX12_counts_25 (by split <;> omega) (by split <;> omega) (fun h25 => ?_) (fun h25 => ?_)
    · refine p_aload_n 37 dX12_counts_36 rfl rfl (by decide) ?_
      refine p_iconst 38 dX12_counts_37 ?_
      refine p_callV1i 124 41 dX12_counts_38 s_no lk_X12_168 mX12_no rfl rfl (by decide) (Nat.le_of_ble_eq_true rfl) ?_
      rintro _ _ ⟨rfl, rfl⟩
      refine p_iret dX12_counts_41 rfl ?_
      first | exact ⟨_, rfl, MQq.of hid_no hW (by unfold pa_counts; (repeat' split) <;> first | rfl | (exfalso; omega)) (by unfold pa_counts; (repeat' split) <;> first | rfl | (exfalso; omega))⟩ | exact ⟨_, rfl, MQq.of hid_good hW (by unfold pa_counts; (repeat' split) <;> first | rfl | (exfalso; omega)) (by unfold pa_counts; (repeat' split) <;> first | rfl | (exfalso; omega))⟩
    · obtain ⟨n, rfl⟩ : ∃ k : Nat, v = (k : Int) := ⟨v.toNat, by omega⟩
      refine p_aload_n 29 dX12_counts_28 rfl rfl (by decide) ?_
      refine p_iload_n 30 dX12_counts_29 rfl rfl ?_
      refine p_callV1i 124 33 dX12_counts_30 (s_countOf hWg (k := q_n (M 127) 0) (by omega) e0 (by omega)) lk_X12_262 mX12_countOf rfl rfl (by decide) (Nat.le_of_ble_eq_true rfl) ?_
      rintro _ _ ⟨rfl, e9⟩
      have e9 := e9.symm
      subst e9
      refine p_goto 41 dX12_counts_33 ?_
      refine p_iret dX12_counts_41 rfl ?_
      first | exact ⟨_, rfl, MQq.of hid_no hW (by unfold pa_counts; (repeat' split) <;> first | rfl | (exfalso; omega)) (by unfold pa_counts; (repeat' split) <;> first | rfl | (exfalso; omega))⟩ | exact ⟨_, rfl, MQq.of hid_good hW (by unfold pa_counts; (repeat' split) <;> first | rfl | (exfalso; omega)) (by unfold pa_counts; (repeat' split) <;> first | rfl | (exfalso; omega))⟩
  · have h8 : ¬ M 124 14 ≠ 0 := h8
    refine p_aload_n 12 dX12_counts_11 rfl rfl (by decide) ?_
    refine p_iconst 13 dX12_counts_12 ?_
    refine p_callV1i 124 16 dX12_counts_13 s_no lk_X12_168 mX12_no rfl rfl (by decide) (Nat.le_of_ble_eq_true rfl) ?_
    rintro _ _ ⟨rfl, rfl⟩
    refine p_iret dX12_counts_16 rfl ?_
    exact ⟨_, rfl, MQq.of hid_no hW (by unfold pa_counts; (repeat' split) <;> first | rfl | (exfalso; omega)) (by unfold pa_counts; (repeat' split) <;> first | rfl | (exfalso; omega))⟩
theorem c_really {l : Launch} {X : ZX} {M : ZM} (hI : IC M M) (hF : WF M) {v : Int} (hv1 : -2147483648 ≤ v) (hv2 : v < 2147483648) : zCi l X 1 yX11_really tX11_really [zr 0, zi v] M (CQ M (pa_really (M 124 14) (M 127) v)) := by
  obtain ⟨hW, ⟨c, c', hcc, hco, hsp, hC⟩, ⟨j1, j2, j3, j4, j5⟩, hN, hpast, hten, ⟨hz0, hsea⟩, hfit⟩ := id hI
  have hR := hF.r
  have hT := hF.t
  have hh := hF.h
  have e0 : M 127 0 = (q_n (M 127) 0 : Int) := hR.n (by decide)
  have e2 : M 127 2 = (q_n (M 127) 2 : Int) := hR.n (by decide)
  have e3 : M 127 3 = (q_n (M 127) 3 : Int) := hR.n (by decide)
  have e4 : M 127 4 = (q_n (M 127) 4 : Int) := hR.n (by decide)
  have bR := hR.2.1
  refine zC.of [some (zr 0), some (zi v)] (by decide +kernel) rfl rfl (Nat.le_of_ble_eq_true rfl) rfl ?_
  rcases hcc with ⟨rfl, rfl⟩ | ⟨rfl, rfl⟩
  · have hto : M 2 0 = M 124 14 := hC.1.1
    have hla : M 2 1 = M 127 0 := hC.1.2.1
    have hsn : M 2 2 = M 127 1 := hC.1.2.2.1
    have hcs : M 3 0 = M 127 2 := hC.1.2.2.2.1
    have hca : M 8 0 = M 127 3 := hC.1.2.2.2.2.1
    have hcw : M 13 0 = M 127 4 := hC.1.2.2.2.2.2.1
    have hcb : M 13 1 = M 127 5 := hC.1.2.2.2.2.2.2.1
    have hcor : M 19 0 = M 127 6 := hC.1.2.2.2.2.2.2.2.1
    have hcn : M 19 4 = M 127 7 := hC.1.2.2.2.2.2.2.2.2
    refine p_aload_n 1 dX11_really_0 rfl rfl (by decide) ?_
    refine p_getR 0 4 dX11_really_1 fX11_16 rfl hco ?_
    refine p_getI 2 7 dX11_really_4 fX11_114 rfl ?_
    rw [hto]
    refine p_if_ne 16 10 dX11_really_7 (by omega) (by omega) (fun h7 => ?_) (fun h7 => ?_)
    · refine p_iload_n 17 dX11_really_16 rfl rfl ?_
      refine p_if_lt 26 20 dX11_really_17 (by omega) (by omega) (fun h17 => ?_) (fun h17 => ?_)
      · refine p_aload_n 27 dX11_really_26 rfl rfl (by decide) ?_
        refine p_iconst 28 dX11_really_27 ?_
        refine p_callV1i 0 31 dX11_really_28 s_refuse lk_X11_73 mX11_refuse rfl rfl (by decide) (Nat.le_of_ble_eq_true rfl) ?_
        rintro _ _ ⟨rfl, rfl⟩
        refine p_iret dX11_really_31 rfl ?_
        exact ⟨_, rfl, CQ.of hI hF (fun k _ => rfl) (by unfold pa_really; (repeat' split) <;> first | rfl | (exfalso; omega)) (by unfold pa_really; (repeat' split) <;> first | rfl | (exfalso; omega)) (by decide)⟩
      · refine p_iload_n 21 dX11_really_20 rfl rfl ?_
        refine p_ldc (z := 999999) 23 dX11_really_21 kk_X11_121 rfl ?_
        refine p_icmp_le 32 26 dX11_really_23 (by omega) (by omega) (by omega) (by omega) (fun h23 => ?_) (fun h23 => ?_)
        · refine p_aload_n 33 dX11_really_32 rfl rfl (by decide) ?_
          obtain ⟨n, rfl⟩ : ∃ k : Nat, v = (k : Int) := ⟨v.toNat, by omega⟩
          refine p_aload_n 34 dX11_really_33 rfl rfl (by decide) ?_
          refine p_getR 0 37 dX11_really_34 fX11_16 rfl hco ?_
          refine p_iload_n 38 dX11_really_37 rfl rfl ?_
          refine p_callV1i 2 41 dX11_really_38 (s_thingsFor (c := 2) rfl (k := q_n (M 127) 0) (by omega) (hla.trans e0) (by omega)) lk_X11_122 mX0_thingsFor rfl rfl (by decide) (Nat.le_of_ble_eq_true rfl) ?_
          rintro _ _ ⟨rfl, e9⟩
          have e9 := e9.symm
          subst e9
          refine p_callV1i 0 44 dX11_really_41 s_grant lk_X11_108 mX11_grant rfl rfl (by decide) (Nat.le_of_ble_eq_true rfl) ?_
          rintro _ _ ⟨rfl, rfl⟩
          refine p_iret dX11_really_44 rfl ?_
          exact ⟨_, rfl, CQ.of hI hF (fun k _ => rfl) (by unfold pa_really; (repeat' split) <;> first | rfl | (exfalso; omega)) (by unfold pa_really; (repeat' split) <;> first | rfl | (exfalso; omega)) (by decide)⟩
        · refine p_aload_n 27 dX11_really_26 rfl rfl (by decide) ?_
          refine p_iconst 28 dX11_really_27 ?_
          refine p_callV1i 0 31 dX11_really_28 s_refuse lk_X11_73 mX11_refuse rfl rfl (by decide) (Nat.le_of_ble_eq_true rfl) ?_
          rintro _ _ ⟨rfl, rfl⟩
          refine p_iret dX11_really_31 rfl ?_
          exact ⟨_, rfl, CQ.of hI hF (fun k _ => rfl) (by unfold pa_really; (repeat' split) <;> first | rfl | (exfalso; omega)) (by unfold pa_really; (repeat' split) <;> first | rfl | (exfalso; omega)) (by decide)⟩
    · refine p_aload_n 11 dX11_really_10 rfl rfl (by decide) ?_
      refine p_iconst 12 dX11_really_11 ?_
      refine p_callV1i 0 15 dX11_really_12 s_refuse lk_X11_73 mX11_refuse rfl rfl (by decide) (Nat.le_of_ble_eq_true rfl) ?_
      rintro _ _ ⟨rfl, rfl⟩
      refine p_iret dX11_really_15 rfl ?_
      exact ⟨_, rfl, CQ.of hI hF (fun k _ => rfl) (by unfold pa_really; (repeat' split) <;> first | rfl | (exfalso; omega)) (by unfold pa_really; (repeat' split) <;> first | rfl | (exfalso; omega)) (by decide)⟩
  · have hto : M 25 0 = M 124 14 := hC.1.1
    have hla : M 25 1 = M 127 0 := hC.1.2.1
    have hsn : M 25 2 = M 127 1 := hC.1.2.2.1
    have hcs : M 26 0 = M 127 2 := hC.1.2.2.2.1
    have hca : M 31 0 = M 127 3 := hC.1.2.2.2.2.1
    have hcw : M 36 0 = M 127 4 := hC.1.2.2.2.2.2.1
    have hcb : M 36 1 = M 127 5 := hC.1.2.2.2.2.2.2.1
    have hcor : M 42 0 = M 127 6 := hC.1.2.2.2.2.2.2.2.1
    have hcn : M 42 4 = M 127 7 := hC.1.2.2.2.2.2.2.2.2
    refine p_aload_n 1 dX11_really_0 rfl rfl (by decide) ?_
    refine p_getR 0 4 dX11_really_1 fX11_16 rfl hco ?_
    refine p_getI 25 7 dX11_really_4 fX11_114 rfl ?_
    rw [hto]
    refine p_if_ne 16 10 dX11_really_7 (by omega) (by omega) (fun h7 => ?_) (fun h7 => ?_)
    · refine p_iload_n 17 dX11_really_16 rfl rfl ?_
      refine p_if_lt 26 20 dX11_really_17 (by omega) (by omega) (fun h17 => ?_) (fun h17 => ?_)
      · refine p_aload_n 27 dX11_really_26 rfl rfl (by decide) ?_
        refine p_iconst 28 dX11_really_27 ?_
        refine p_callV1i 0 31 dX11_really_28 s_refuse lk_X11_73 mX11_refuse rfl rfl (by decide) (Nat.le_of_ble_eq_true rfl) ?_
        rintro _ _ ⟨rfl, rfl⟩
        refine p_iret dX11_really_31 rfl ?_
        exact ⟨_, rfl, CQ.of hI hF (fun k _ => rfl) (by unfold pa_really; (repeat' split) <;> first | rfl | (exfalso; omega)) (by unfold pa_really; (repeat' split) <;> first | rfl | (exfalso; omega)) (by decide)⟩
      · refine p_iload_n 21 dX11_really_20 rfl rfl ?_
        refine p_ldc (z := 999999) 23 dX11_really_21 kk_X11_121 rfl ?_
        refine p_icmp_le 32 26 dX11_really_23 (by omega) (by omega) (by omega) (by omega) (fun h23 => ?_) (fun h23 => ?_)
        · refine p_aload_n 33 dX11_really_32 rfl rfl (by decide) ?_
          obtain ⟨n, rfl⟩ : ∃ k : Nat, v = (k : Int) := ⟨v.toNat, by omega⟩
          refine p_aload_n 34 dX11_really_33 rfl rfl (by decide) ?_
          refine p_getR 0 37 dX11_really_34 fX11_16 rfl hco ?_
          refine p_iload_n 38 dX11_really_37 rfl rfl ?_
          refine p_callV1i 25 41 dX11_really_38 (s_thingsFor (c := 25) rfl (k := q_n (M 127) 0) (by omega) (hla.trans e0) (by omega)) lk_X11_122 mX0_thingsFor rfl rfl (by decide) (Nat.le_of_ble_eq_true rfl) ?_
          rintro _ _ ⟨rfl, e9⟩
          have e9 := e9.symm
          subst e9
          refine p_callV1i 0 44 dX11_really_41 s_grant lk_X11_108 mX11_grant rfl rfl (by decide) (Nat.le_of_ble_eq_true rfl) ?_
          rintro _ _ ⟨rfl, rfl⟩
          refine p_iret dX11_really_44 rfl ?_
          exact ⟨_, rfl, CQ.of hI hF (fun k _ => rfl) (by unfold pa_really; (repeat' split) <;> first | rfl | (exfalso; omega)) (by unfold pa_really; (repeat' split) <;> first | rfl | (exfalso; omega)) (by decide)⟩
        · refine p_aload_n 27 dX11_really_26 rfl rfl (by decide) ?_
          refine p_iconst 28 dX11_really_27 ?_
          refine p_callV1i 0 31 dX11_really_28 s_refuse lk_X11_73 mX11_refuse rfl rfl (by decide) (Nat.le_of_ble_eq_true rfl) ?_
          rintro _ _ ⟨rfl, rfl⟩
          refine p_iret dX11_really_31 rfl ?_
          exact ⟨_, rfl, CQ.of hI hF (fun k _ => rfl) (by unfold pa_really; (repeat' split) <;> first | rfl | (exfalso; omega)) (by unfold pa_really; (repeat' split) <;> first | rfl | (exfalso; omega)) (by decide)⟩
    · refine p_aload_n 11 dX11_really_10 rfl rfl (by decide) ?_
      refine p_iconst 12 dX11_really_11 ?_
      refine p_callV1i 0 15 dX11_really_12 s_refuse lk_X11_73 mX11_refuse rfl rfl (by decide) (Nat.le_of_ble_eq_true rfl) ?_
      rintro _ _ ⟨rfl, rfl⟩
      refine p_iret dX11_really_15 rfl ?_
      exact ⟨_, rfl, CQ.of hI hF (fun k _ => rfl) (by unfold pa_really; (repeat' split) <;> first | rfl | (exfalso; omega)) (by unfold pa_really; (repeat' split) <;> first | rfl | (exfalso; omega)) (by decide)⟩
theorem m_really {l : Launch} {X : ZX} {M : ZM} (hW : zWm M) (hF : WF M) {v : Int} (hv1 : -2147483648 ≤ v) (hv2 : v < 2147483648) : zCi l X 1 yX12_really tX12_really [zr 124, zi v] M (MQq M (pa_really (M 124 14) (M 127) v)) := by
  have hWg : zWm (zset (zset M 124 0 0) 124 11 0) := (hW.set (by decide +kernel)).set (by decide +kernel)
  have hR := hF.r
  have hT := hF.t
  have hh := hF.h
  have e0 : M 127 0 = (q_n (M 127) 0 : Int) := hR.n (by decide)
  have e2 : M 127 2 = (q_n (M 127) 2 : Int) := hR.n (by decide)
  have e3 : M 127 3 = (q_n (M 127) 3 : Int) := hR.n (by decide)
  have e4 : M 127 4 = (q_n (M 127) 4 : Int) := hR.n (by decide)
  have bR := hR.2.1
  refine zC.of [some (zr 124), some (zi v)] (by decide +kernel) rfl rfl (Nat.le_of_ble_eq_true rfl) rfl ?_
  refine p_aload_n 1 dX12_really_0 rfl rfl (by decide) ?_
  refine p_callV0v 124 4 dX12_really_1 s_good lk_X12_165 mX12_good rfl rfl (by decide) (Nat.le_of_ble_eq_true rfl) ?_
  rintro _ rfl
  refine p_aload_n 5 dX12_really_4 rfl rfl (by decide) ?_
  refine p_getI 124 8 dX12_really_5 fX12_178 rfl ?_
  refine p_if_ne 17 11 dX12_really_8 (by show _ ≤ M 124 14; omega) (by show M 124 14 < _; omega) (fun h8 => ?_) (fun h8 => ?_)
  · have h8 : ¬ M 124 14 = 0 := h8
    refine p_iload_n 18 dX12_really_17 rfl rfl ?_
    refine p_iconst 19 dX12_really_18 ?_
    refine p_ldcw (z := 999999) 22 dX12_really_19 kk_X12_265 rfl ?_
    refine p_callS3i 25 dX12_really_22 (s_in (by omega) (by omega) (by omega) (by omega) (by omega) (by omega)) lk_X12_146 mX12_in (by decide) (Nat.le_of_ble_eq_true rfl) ?_
    rintro _ _ ⟨rfl, e9⟩
    have e9 := e9.symm
    subst e9
    refine p_if_eq 36 28 dX12_really_25 (by split <;> omega) (by split <;> omega) (fun h25 => ?_) (fun h25 => ?_)
    · refine p_aload_n 37 dX12_really_36 rfl rfl (by decide) ?_
      refine p_iconst 38 dX12_really_37 ?_
      refine p_callV1i 124 41 dX12_really_38 s_no lk_X12_168 mX12_no rfl rfl (by decide) (Nat.le_of_ble_eq_true rfl) ?_
      rintro _ _ ⟨rfl, rfl⟩
      refine p_iret dX12_really_41 rfl ?_
      first | exact ⟨_, rfl, MQq.of hid_no hW (by unfold pa_really; (repeat' split) <;> first | rfl | (exfalso; omega)) (by unfold pa_really; (repeat' split) <;> first | rfl | (exfalso; omega))⟩ | exact ⟨_, rfl, MQq.of hid_good hW (by unfold pa_really; (repeat' split) <;> first | rfl | (exfalso; omega)) (by unfold pa_really; (repeat' split) <;> first | rfl | (exfalso; omega))⟩
    · obtain ⟨n, rfl⟩ : ∃ k : Nat, v = (k : Int) := ⟨v.toNat, by omega⟩
      refine p_aload_n 29 dX12_really_28 rfl rfl (by decide) ?_
      refine p_iload_n 30 dX12_really_29 rfl rfl ?_
      refine p_callV1i 124 33 dX12_really_30 (s_reallyOf hWg (k := q_n (M 127) 0) (by omega) e0 (by omega)) lk_X12_266 mX12_reallyOf rfl rfl (by decide) (Nat.le_of_ble_eq_true rfl) ?_
      rintro _ _ ⟨rfl, e9⟩
      have e9 := e9.symm
      subst e9
      refine p_goto 41 dX12_really_33 ?_
      refine p_iret dX12_really_41 rfl ?_
      first | exact ⟨_, rfl, MQq.of hid_no hW (by unfold pa_really; (repeat' split) <;> first | rfl | (exfalso; omega)) (by unfold pa_really; (repeat' split) <;> first | rfl | (exfalso; omega))⟩ | exact ⟨_, rfl, MQq.of hid_good hW (by unfold pa_really; (repeat' split) <;> first | rfl | (exfalso; omega)) (by unfold pa_really; (repeat' split) <;> first | rfl | (exfalso; omega))⟩
  · have h8 : ¬ M 124 14 ≠ 0 := h8
    refine p_aload_n 12 dX12_really_11 rfl rfl (by decide) ?_
    refine p_iconst 13 dX12_really_12 ?_
    refine p_callV1i 124 16 dX12_really_13 s_no lk_X12_168 mX12_no rfl rfl (by decide) (Nat.le_of_ble_eq_true rfl) ?_
    rintro _ _ ⟨rfl, rfl⟩
    refine p_iret dX12_really_16 rfl ?_
    exact ⟨_, rfl, MQq.of hid_no hW (by unfold pa_really; (repeat' split) <;> first | rfl | (exfalso; omega)) (by unfold pa_really; (repeat' split) <;> first | rfl | (exfalso; omega))⟩
