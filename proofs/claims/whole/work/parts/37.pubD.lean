theorem WF.t0 {s : ZM} (h : WF s) : s 124 14 = 0 → (∀ i, i < 18 → s 129 i = 0) ∧ s 124 20 = 0 ∧ s 124 21 = 0 := h.2.2.2.2.2.2.2.2.2.2.2.2.2.2
theorem CQ.same {M : ZM} {p : Int × Int} {a : Int} (hI : IC M M) (ha : a = p.1) (hp : M 124 11 = p.2) : CQ M p a M := by
  refine ⟨ha, ?_, fun k _ => rfl⟩
  rw [← hp]
  exact hI.obs ⟨rfl, rfl, rfl, rfl, rfl, rfl, rfl, rfl, rfl, rfl, rfl, rfl⟩
theorem hid_th {M : ZM} : Hid M (zset M 124 0 0) := Hid.rfl.set (c := 124) (k := 0) (Or.inl (by decide +kernel)) (by decide)
def pa_fault (tr fa : Int) : Int × Int := (fa, tr)
def pa_where (tr pl : Int) : Int × Int := (if tr = 4 then pl else -1, tr)
def pa_trouble (tr : Int) : Int × Int := (tr, tr)
def pa_size (s : ZM) (w : Int) : Int × Int := ((if w = 13 then s 124 2 else if w < 0 ∨ 12 < w then -1 else if s 124 14 = 0 then 0 else if w ≤ 7 then s 127 w.toNat else if w = 8 then s 129 15 else if w = 9 then s 129 16 else if w = 10 then s 129 17 else if w = 11 then s 124 20 else s 124 21), s 124 11)
theorem c_fault {l : Launch} {X : ZX} {M : ZM} (hI : IC M M) (hF : WF M)  : zCi l X 0 yX11_fault tX11_fault [zr 0] M (CQ M (pa_fault (M 124 11) (M 124 9))) := by
  obtain ⟨hW, ⟨c, c', hcc, hco, hsp, hC⟩, ⟨j1, j2, j3, j4, j5⟩, hN, hpast, hten, ⟨hz0, hsea⟩, hfit⟩ := id hI
  have hR := hF.r
  have hT := hF.t
  have hh := hF.h
  have e0 : M 127 0 = (q_n (M 127) 0 : Int) := hR.n (by decide)
  have e2 : M 127 2 = (q_n (M 127) 2 : Int) := hR.n (by decide)
  have e3 : M 127 3 = (q_n (M 127) 3 : Int) := hR.n (by decide)
  have e4 : M 127 4 = (q_n (M 127) 4 : Int) := hR.n (by decide)
  have bR := hR.2.1
  have h20 : M 124 14 = 0 → M 127 2 = 0 := fun h => hF.r0 h 2 (by decide)
  have h30 : M 124 14 = 0 → M 127 3 = 0 := fun h => hF.r0 h 3 (by decide)
  have h40 : M 124 14 = 0 → M 127 4 = 0 := fun h => hF.r0 h 4 (by decide)
  have hwo : M 49 3 = M 129 16 := hN.2.2.2.1
  have t160 := hT.1 16 (by decide)
  have t161 := hT.2.2.2.2.1
  refine zC.of [some (zr 0)] (by decide +kernel) rfl rfl (Nat.le_of_ble_eq_true rfl) rfl ?_
  rcases hcc with ⟨rfl, rfl⟩ | ⟨rfl, rfl⟩
  · have hto : M 2 0 = M 124 14 := hC.1.1
    have hla : M 2 1 = M 127 0 := hC.1.2.1
    have hsn : M 2 2 = M 127 1 := hC.1.2.2.1
    have hcs : M 3 0 = M 127 2 := hC.1.2.2.2.1
    have hca : M 8 0 = M 127 3 := hC.1.2.2.2.2.1
    have hcw : M 13 0 = M 127 4 := hC.1.2.2.2.2.2.1
    have hcb : M 13 1 = M 127 5 := hC.1.2.2.2.2.2.2.1
    have hcor : M 19 0 = M 127 6 := hC.1.2.2.2.2.2.2.2.1
    have hcn : M 19 4 = M 127 7 := hC.1.2.2.2.2.2.2.2.2
    refine p_aload_n 1 dX11_fault_0 rfl rfl (by decide) ?_
    refine p_getI 0 4 dX11_fault_1 fX11_84 rfl ?_
    refine p_iret dX11_fault_4 rfl ?_
    exact ⟨_, rfl, CQ.same hI j4 rfl⟩
  · have hto : M 25 0 = M 124 14 := hC.1.1
    have hla : M 25 1 = M 127 0 := hC.1.2.1
    have hsn : M 25 2 = M 127 1 := hC.1.2.2.1
    have hcs : M 26 0 = M 127 2 := hC.1.2.2.2.1
    have hca : M 31 0 = M 127 3 := hC.1.2.2.2.2.1
    have hcw : M 36 0 = M 127 4 := hC.1.2.2.2.2.2.1
    have hcb : M 36 1 = M 127 5 := hC.1.2.2.2.2.2.2.1
    have hcor : M 42 0 = M 127 6 := hC.1.2.2.2.2.2.2.2.1
    have hcn : M 42 4 = M 127 7 := hC.1.2.2.2.2.2.2.2.2
    refine p_aload_n 1 dX11_fault_0 rfl rfl (by decide) ?_
    refine p_getI 0 4 dX11_fault_1 fX11_84 rfl ?_
    refine p_iret dX11_fault_4 rfl ?_
    exact ⟨_, rfl, CQ.same hI j4 rfl⟩
theorem m_fault {l : Launch} {X : ZX} {M : ZM} (hW : zWm M) (hF : WF M)  : zCi l X 0 yX12_fault tX12_fault [zr 124] M (MQq M (pa_fault (M 124 11) (M 124 9))) := by
  have hWg : zWm (zset (zset M 124 0 0) 124 11 0) := (hW.set (by decide +kernel)).set (by decide +kernel)
  have hR := hF.r
  have hT := hF.t
  have hh := hF.h
  have e0 : M 127 0 = (q_n (M 127) 0 : Int) := hR.n (by decide)
  have e2 : M 127 2 = (q_n (M 127) 2 : Int) := hR.n (by decide)
  have e3 : M 127 3 = (q_n (M 127) 3 : Int) := hR.n (by decide)
  have e4 : M 127 4 = (q_n (M 127) 4 : Int) := hR.n (by decide)
  have bR := hR.2.1
  have h20 : M 124 14 = 0 → M 127 2 = 0 := fun h => hF.r0 h 2 (by decide)
  have h30 : M 124 14 = 0 → M 127 3 = 0 := fun h => hF.r0 h 3 (by decide)
  have h40 : M 124 14 = 0 → M 127 4 = 0 := fun h => hF.r0 h 4 (by decide)
  refine zC.of [some (zr 124)] (by decide +kernel) rfl rfl (Nat.le_of_ble_eq_true rfl) rfl ?_
  refine p_aload_n 1 dX12_fault_0 rfl rfl (by decide) ?_
  refine p_iconst 2 dX12_fault_1 ?_
  refine p_putI 124 5 dX12_fault_2 wX12_53 rfl ?_
  refine p_aload_n 6 dX12_fault_5 rfl rfl (by decide) ?_
  refine p_getI 124 9 dX12_fault_6 fX12_95 rfl ?_
  refine p_iret dX12_fault_9 rfl ?_
  exact ⟨_, rfl, MQq.of hid_th hW rfl rfl⟩
theorem c_trouble {l : Launch} {X : ZX} {M : ZM} (hI : IC M M) (hF : WF M)  : zCi l X 0 yX11_trouble tX11_trouble [zr 0] M (CQ M (pa_trouble (M 124 11))) := by
  obtain ⟨hW, ⟨c, c', hcc, hco, hsp, hC⟩, ⟨j1, j2, j3, j4, j5⟩, hN, hpast, hten, ⟨hz0, hsea⟩, hfit⟩ := id hI
  have hR := hF.r
  have hT := hF.t
  have hh := hF.h
  have e0 : M 127 0 = (q_n (M 127) 0 : Int) := hR.n (by decide)
  have e2 : M 127 2 = (q_n (M 127) 2 : Int) := hR.n (by decide)
  have e3 : M 127 3 = (q_n (M 127) 3 : Int) := hR.n (by decide)
  have e4 : M 127 4 = (q_n (M 127) 4 : Int) := hR.n (by decide)
  have bR := hR.2.1
  have h20 : M 124 14 = 0 → M 127 2 = 0 := fun h => hF.r0 h 2 (by decide)
  have h30 : M 124 14 = 0 → M 127 3 = 0 := fun h => hF.r0 h 3 (by decide)
  have h40 : M 124 14 = 0 → M 127 4 = 0 := fun h => hF.r0 h 4 (by decide)
  have hwo : M 49 3 = M 129 16 := hN.2.2.2.1
  have t160 := hT.1 16 (by decide)
  have t161 := hT.2.2.2.2.1
  refine zC.of [some (zr 0)] (by decide +kernel) rfl rfl (Nat.le_of_ble_eq_true rfl) rfl ?_
  rcases hcc with ⟨rfl, rfl⟩ | ⟨rfl, rfl⟩
  · have hto : M 2 0 = M 124 14 := hC.1.1
    have hla : M 2 1 = M 127 0 := hC.1.2.1
    have hsn : M 2 2 = M 127 1 := hC.1.2.2.1
    have hcs : M 3 0 = M 127 2 := hC.1.2.2.2.1
    have hca : M 8 0 = M 127 3 := hC.1.2.2.2.2.1
    have hcw : M 13 0 = M 127 4 := hC.1.2.2.2.2.2.1
    have hcb : M 13 1 = M 127 5 := hC.1.2.2.2.2.2.2.1
    have hcor : M 19 0 = M 127 6 := hC.1.2.2.2.2.2.2.2.1
    have hcn : M 19 4 = M 127 7 := hC.1.2.2.2.2.2.2.2.2
    refine p_aload_n 1 dX11_trouble_0 rfl rfl (by decide) ?_
    refine p_getI 0 4 dX11_trouble_1 fX11_111 rfl ?_
    refine p_iret dX11_trouble_4 rfl ?_
    exact ⟨_, rfl, CQ.same hI j3 rfl⟩
  · have hto : M 25 0 = M 124 14 := hC.1.1
    have hla : M 25 1 = M 127 0 := hC.1.2.1
    have hsn : M 25 2 = M 127 1 := hC.1.2.2.1
    have hcs : M 26 0 = M 127 2 := hC.1.2.2.2.1
    have hca : M 31 0 = M 127 3 := hC.1.2.2.2.2.1
    have hcw : M 36 0 = M 127 4 := hC.1.2.2.2.2.2.1
    have hcb : M 36 1 = M 127 5 := hC.1.2.2.2.2.2.2.1
    have hcor : M 42 0 = M 127 6 := hC.1.2.2.2.2.2.2.2.1
    have hcn : M 42 4 = M 127 7 := hC.1.2.2.2.2.2.2.2.2
    refine p_aload_n 1 dX11_trouble_0 rfl rfl (by decide) ?_
    refine p_getI 0 4 dX11_trouble_1 fX11_111 rfl ?_
    refine p_iret dX11_trouble_4 rfl ?_
    exact ⟨_, rfl, CQ.same hI j3 rfl⟩
theorem m_trouble {l : Launch} {X : ZX} {M : ZM} (hW : zWm M) (hF : WF M)  : zCi l X 0 yX12_trouble tX12_trouble [zr 124] M (MQq M (pa_trouble (M 124 11))) := by
  have hWg : zWm (zset (zset M 124 0 0) 124 11 0) := (hW.set (by decide +kernel)).set (by decide +kernel)
  have hR := hF.r
  have hT := hF.t
  have hh := hF.h
  have e0 : M 127 0 = (q_n (M 127) 0 : Int) := hR.n (by decide)
  have e2 : M 127 2 = (q_n (M 127) 2 : Int) := hR.n (by decide)
  have e3 : M 127 3 = (q_n (M 127) 3 : Int) := hR.n (by decide)
  have e4 : M 127 4 = (q_n (M 127) 4 : Int) := hR.n (by decide)
  have bR := hR.2.1
  have h20 : M 124 14 = 0 → M 127 2 = 0 := fun h => hF.r0 h 2 (by decide)
  have h30 : M 124 14 = 0 → M 127 3 = 0 := fun h => hF.r0 h 3 (by decide)
  have h40 : M 124 14 = 0 → M 127 4 = 0 := fun h => hF.r0 h 4 (by decide)
  refine zC.of [some (zr 124)] (by decide +kernel) rfl rfl (Nat.le_of_ble_eq_true rfl) rfl ?_
  refine p_aload_n 1 dX12_trouble_0 rfl rfl (by decide) ?_
  refine p_iconst 2 dX12_trouble_1 ?_
  refine p_putI 124 5 dX12_trouble_2 wX12_53 rfl ?_
  refine p_aload_n 6 dX12_trouble_5 rfl rfl (by decide) ?_
  refine p_getI 124 9 dX12_trouble_6 fX12_56 rfl ?_
  refine p_iret dX12_trouble_9 rfl ?_
  exact ⟨_, rfl, MQq.of hid_th hW rfl rfl⟩
theorem c_where {l : Launch} {X : ZX} {M : ZM} (hI : IC M M) (hF : WF M)  : zCi l X 0 yX11_where tX11_where [zr 0] M (CQ M (pa_where (M 124 11) (M 124 10))) := by
  obtain ⟨hW, ⟨c, c', hcc, hco, hsp, hC⟩, ⟨j1, j2, j3, j4, j5⟩, hN, hpast, hten, ⟨hz0, hsea⟩, hfit⟩ := id hI
  have hR := hF.r
  have hT := hF.t
  have hh := hF.h
  have e0 : M 127 0 = (q_n (M 127) 0 : Int) := hR.n (by decide)
  have e2 : M 127 2 = (q_n (M 127) 2 : Int) := hR.n (by decide)
  have e3 : M 127 3 = (q_n (M 127) 3 : Int) := hR.n (by decide)
  have e4 : M 127 4 = (q_n (M 127) 4 : Int) := hR.n (by decide)
  have bR := hR.2.1
  have h20 : M 124 14 = 0 → M 127 2 = 0 := fun h => hF.r0 h 2 (by decide)
  have h30 : M 124 14 = 0 → M 127 3 = 0 := fun h => hF.r0 h 3 (by decide)
  have h40 : M 124 14 = 0 → M 127 4 = 0 := fun h => hF.r0 h 4 (by decide)
  have hwo : M 49 3 = M 129 16 := hN.2.2.2.1
  have t160 := hT.1 16 (by decide)
  have t161 := hT.2.2.2.2.1
  refine zC.of [some (zr 0)] (by decide +kernel) rfl rfl (Nat.le_of_ble_eq_true rfl) rfl ?_
  rcases hcc with ⟨rfl, rfl⟩ | ⟨rfl, rfl⟩
  · have hto : M 2 0 = M 124 14 := hC.1.1
    have hla : M 2 1 = M 127 0 := hC.1.2.1
    have hsn : M 2 2 = M 127 1 := hC.1.2.2.1
    have hcs : M 3 0 = M 127 2 := hC.1.2.2.2.1
    have hca : M 8 0 = M 127 3 := hC.1.2.2.2.2.1
    have hcw : M 13 0 = M 127 4 := hC.1.2.2.2.2.2.1
    have hcb : M 13 1 = M 127 5 := hC.1.2.2.2.2.2.2.1
    have hcor : M 19 0 = M 127 6 := hC.1.2.2.2.2.2.2.2.1
    have hcn : M 19 4 = M 127 7 := hC.1.2.2.2.2.2.2.2.2
    have tb := hF.2.2.1
    refine p_aload_n 1 dX11_where_0 rfl rfl (by decide) ?_
    refine p_getI 0 4 dX11_where_1 fX11_111 rfl ?_
    rw [j3]
    refine p_iconst 5 dX11_where_4 ?_
    refine p_icmp_ne 15 8 dX11_where_5 (by omega) (by omega) (by omega) (by omega) (fun h5 => ?_) (fun h5 => ?_)
    · refine p_iconst 16 dX11_where_15 ?_
      refine p_iret dX11_where_16 rfl ?_
      refine ⟨_, rfl, CQ.same hI ?_ rfl⟩
      unfold pa_where
      first | (show _ = (if _ then _ else _); rw [if_pos (by omega)]; exact j5 (by omega)) | (show _ = (if _ then _ else _); rw [if_neg (by omega)])
    · refine p_aload_n 9 dX11_where_8 rfl rfl (by decide) ?_
      refine p_getI 0 12 dX11_where_9 fX11_88 rfl ?_
      refine p_goto 16 dX11_where_12 ?_
      refine p_iret dX11_where_16 rfl ?_
      refine ⟨_, rfl, CQ.same hI ?_ rfl⟩
      unfold pa_where
      first | (show _ = (if _ then _ else _); rw [if_pos (by omega)]; exact j5 (by omega)) | (show _ = (if _ then _ else _); rw [if_neg (by omega)])
  · have hto : M 25 0 = M 124 14 := hC.1.1
    have hla : M 25 1 = M 127 0 := hC.1.2.1
    have hsn : M 25 2 = M 127 1 := hC.1.2.2.1
    have hcs : M 26 0 = M 127 2 := hC.1.2.2.2.1
    have hca : M 31 0 = M 127 3 := hC.1.2.2.2.2.1
    have hcw : M 36 0 = M 127 4 := hC.1.2.2.2.2.2.1
    have hcb : M 36 1 = M 127 5 := hC.1.2.2.2.2.2.2.1
    have hcor : M 42 0 = M 127 6 := hC.1.2.2.2.2.2.2.2.1
    have hcn : M 42 4 = M 127 7 := hC.1.2.2.2.2.2.2.2.2
    have tb := hF.2.2.1
    refine p_aload_n 1 dX11_where_0 rfl rfl (by decide) ?_
    refine p_getI 0 4 dX11_where_1 fX11_111 rfl ?_
    rw [j3]
    refine p_iconst 5 dX11_where_4 ?_
    refine p_icmp_ne 15 8 dX11_where_5 (by omega) (by omega) (by omega) (by omega) (fun h5 => ?_) (fun h5 => ?_)
    · refine p_iconst 16 dX11_where_15 ?_
      refine p_iret dX11_where_16 rfl ?_
      refine ⟨_, rfl, CQ.same hI ?_ rfl⟩
      unfold pa_where
      first | (show _ = (if _ then _ else _); rw [if_pos (by omega)]; exact j5 (by omega)) | (show _ = (if _ then _ else _); rw [if_neg (by omega)])
    · refine p_aload_n 9 dX11_where_8 rfl rfl (by decide) ?_
      refine p_getI 0 12 dX11_where_9 fX11_88 rfl ?_
      refine p_goto 16 dX11_where_12 ?_
      refine p_iret dX11_where_16 rfl ?_
      refine ⟨_, rfl, CQ.same hI ?_ rfl⟩
      unfold pa_where
      first | (show _ = (if _ then _ else _); rw [if_pos (by omega)]; exact j5 (by omega)) | (show _ = (if _ then _ else _); rw [if_neg (by omega)])
theorem m_where {l : Launch} {X : ZX} {M : ZM} (hW : zWm M) (hF : WF M)  : zCi l X 0 yX12_where tX12_where [zr 124] M (MQq M (pa_where (M 124 11) (M 124 10))) := by
  have hWg : zWm (zset (zset M 124 0 0) 124 11 0) := (hW.set (by decide +kernel)).set (by decide +kernel)
  have hR := hF.r
  have hT := hF.t
  have hh := hF.h
  have e0 : M 127 0 = (q_n (M 127) 0 : Int) := hR.n (by decide)
  have e2 : M 127 2 = (q_n (M 127) 2 : Int) := hR.n (by decide)
  have e3 : M 127 3 = (q_n (M 127) 3 : Int) := hR.n (by decide)
  have e4 : M 127 4 = (q_n (M 127) 4 : Int) := hR.n (by decide)
  have bR := hR.2.1
  have h20 : M 124 14 = 0 → M 127 2 = 0 := fun h => hF.r0 h 2 (by decide)
  have h30 : M 124 14 = 0 → M 127 3 = 0 := fun h => hF.r0 h 3 (by decide)
  have h40 : M 124 14 = 0 → M 127 4 = 0 := fun h => hF.r0 h 4 (by decide)
  have tb := hF.2.2.1
  refine zC.of [some (zr 124)] (by decide +kernel) rfl rfl (Nat.le_of_ble_eq_true rfl) rfl ?_
  refine p_aload_n 1 dX12_where_0 rfl rfl (by decide) ?_
  refine p_iconst 2 dX12_where_1 ?_
  refine p_putI 124 5 dX12_where_2 wX12_53 rfl ?_
  refine p_aload_n 6 dX12_where_5 rfl rfl (by decide) ?_
  refine p_getI 124 9 dX12_where_6 fX12_56 rfl ?_
  refine p_iconst 10 dX12_where_9 ?_
  refine p_icmp_ne 20 13 dX12_where_10 (by show _ ≤ M 124 11; omega) (by show M 124 11 < _; omega) (by decide) (by decide) (fun h10 => ?_) (fun h10 => ?_)
  · have h10 : M 124 11 ≠ 4 := h10
    refine p_iconst 21 dX12_where_20 ?_
    refine p_iret dX12_where_21 rfl ?_
    refine ⟨_, rfl, MQq.of hid_th hW ?_ rfl⟩
    unfold pa_where
    first | (show _ = (if _ then _ else _); rw [if_pos (by omega)]; rfl) | (show _ = (if _ then _ else _); rw [if_neg (by omega)])
  · have h10 : ¬ M 124 11 ≠ 4 := h10
    refine p_aload_n 14 dX12_where_13 rfl rfl (by decide) ?_
    refine p_getI 124 17 dX12_where_14 fX12_13 rfl ?_
    refine p_goto 21 dX12_where_17 ?_
    refine p_iret dX12_where_21 rfl ?_
    refine ⟨_, rfl, MQq.of hid_th hW ?_ rfl⟩
    unfold pa_where
    first | (show _ = (if _ then _ else _); rw [if_pos (by omega)]; rfl) | (show _ = (if _ then _ else _); rw [if_neg (by omega)])
theorem c_size {l : Launch} {X : ZX} {M : ZM} (hI : IC M M) (hF : WF M) {w : Int} (hw1 : -2147483648 ≤ w) (hw2 : w < 2147483648) : zCi l X 0 yX11_size tX11_size [zr 0, zi w] M (CQ M (pa_size M w)) := by
  obtain ⟨hW, ⟨c, c', hcc, hco, hsp, hC⟩, ⟨j1, j2, j3, j4, j5⟩, hN, hpast, hten, ⟨hz0, hsea⟩, hfit⟩ := id hI
  have hR := hF.r
  have hT := hF.t
  have hh := hF.h
  have e0 : M 127 0 = (q_n (M 127) 0 : Int) := hR.n (by decide)
  have e2 : M 127 2 = (q_n (M 127) 2 : Int) := hR.n (by decide)
  have e3 : M 127 3 = (q_n (M 127) 3 : Int) := hR.n (by decide)
  have e4 : M 127 4 = (q_n (M 127) 4 : Int) := hR.n (by decide)
  have bR := hR.2.1
  have h20 : M 124 14 = 0 → M 127 2 = 0 := fun h => hF.r0 h 2 (by decide)
  have h30 : M 124 14 = 0 → M 127 3 = 0 := fun h => hF.r0 h 3 (by decide)
  have h40 : M 124 14 = 0 → M 127 4 = 0 := fun h => hF.r0 h 4 (by decide)
  have hwo : M 49 3 = M 129 16 := hN.2.2.2.1
  have t160 := hT.1 16 (by decide)
  have t161 := hT.2.2.2.2.1
  refine zC.of [some (zr 0), some (zi w)] (by decide +kernel) rfl rfl (Nat.le_of_ble_eq_true rfl) rfl ?_
  rcases hcc with ⟨rfl, rfl⟩ | ⟨rfl, rfl⟩
  · have hto : M 2 0 = M 124 14 := hC.1.1
    have hla : M 2 1 = M 127 0 := hC.1.2.1
    have hsn : M 2 2 = M 127 1 := hC.1.2.2.1
    have hcs : M 3 0 = M 127 2 := hC.1.2.2.2.1
    have hca : M 8 0 = M 127 3 := hC.1.2.2.2.2.1
    have hcw : M 13 0 = M 127 4 := hC.1.2.2.2.2.2.1
    have hcb : M 13 1 = M 127 5 := hC.1.2.2.2.2.2.2.1
    have hcor : M 19 0 = M 127 6 := hC.1.2.2.2.2.2.2.2.1
    have hcn : M 19 4 = M 127 7 := hC.1.2.2.2.2.2.2.2.2
    refine p_iload_n 1 dX11_size_0 rfl rfl ?_
    have hsw1 : w = 0 ∨ w = 1 ∨ w = 2 ∨ w = 3 ∨ w = 4 ∨ w = 5 ∨ w = 6 ∨ w = 7 ∨ w = 8 ∨ w = 9 ∨ w = 10 ∨ w = 11 ∨ w = 12 ∨ w = 13 ∨ (w < 0 ∨ 13 < w) := by omega
    rcases hsw1 with hs1 | hs1 | hs1 | hs1 | hs1 | hs1 | hs1 | hs1 | hs1 | hs1 | hs1 | hs1 | hs1 | hs1 | hs1
    · refine p_tabJ (off := 71) 0 72 dX11_size_1 hs1 (by decide) (by decide) (by decide) ?_
      refine p_aload_n 73 dX11_size_72 rfl rfl (by decide) ?_
      refine p_getR 0 76 dX11_size_73 fX11_16 rfl hco ?_
      refine p_getI 2 79 dX11_size_76 fX11_375 rfl ?_
      refine p_iret dX11_size_79 rfl ?_
      refine ⟨_, rfl, CQ.same hI ?_ rfl⟩
      rw [hla]
      subst hs1
      unfold pa_size
      by_cases hz : M 124 14 = 0
      · simp [hz, hF.r0 hz 0 (by decide)]
      · simp [hz]
    · refine p_tabJ (off := 79) 1 80 dX11_size_1 hs1 (by decide) (by decide) (by decide) ?_
      refine p_aload_n 81 dX11_size_80 rfl rfl (by decide) ?_
      refine p_getR 0 84 dX11_size_81 fX11_16 rfl hco ?_
      refine p_getI 2 87 dX11_size_84 fX11_326 rfl ?_
      refine p_iret dX11_size_87 rfl ?_
      refine ⟨_, rfl, CQ.same hI ?_ rfl⟩
      rw [hsn]
      subst hs1
      unfold pa_size
      by_cases hz : M 124 14 = 0
      · simp [hz, hF.r0 hz 1 (by decide)]
      · simp [hz]
    · refine p_tabJ (off := 87) 2 88 dX11_size_1 hs1 (by decide) (by decide) (by decide) ?_
      refine p_aload_n 89 dX11_size_88 rfl rfl (by decide) ?_
      refine p_getR 0 92 dX11_size_89 fX11_16 rfl hco ?_
      refine p_getR 2 95 dX11_size_92 fX11_99 rfl (hW (2, 3, 3) (by decide)) ?_
      refine p_getI 3 98 dX11_size_95 fX11_103 rfl ?_
      refine p_iret dX11_size_98 rfl ?_
      refine ⟨_, rfl, CQ.same hI ?_ rfl⟩
      rw [hcs]
      subst hs1
      unfold pa_size
      by_cases hz : M 124 14 = 0
      · simp [hz, hF.r0 hz 2 (by decide)]
      · simp [hz]
    · refine p_tabJ (off := 98) 3 99 dX11_size_1 hs1 (by decide) (by decide) (by decide) ?_
      refine p_aload_n 100 dX11_size_99 rfl rfl (by decide) ?_
      refine p_getR 0 103 dX11_size_100 fX11_16 rfl hco ?_
      refine p_getR 2 106 dX11_size_103 fX11_151 rfl (hW (2, 4, 8) (by decide)) ?_
      refine p_getI 8 109 dX11_size_106 fX11_207 rfl ?_
      refine p_iret dX11_size_109 rfl ?_
      refine ⟨_, rfl, CQ.same hI ?_ rfl⟩
      rw [hca]
      subst hs1
      unfold pa_size
      by_cases hz : M 124 14 = 0
      · simp [hz, hF.r0 hz 3 (by decide)]
      · simp [hz]
    · refine p_tabJ (off := 109) 4 110 dX11_size_1 hs1 (by decide) (by decide) (by decide) ?_
      refine p_aload_n 111 dX11_size_110 rfl rfl (by decide) ?_
      refine p_getR 0 114 dX11_size_111 fX11_16 rfl hco ?_
      refine p_getR 2 117 dX11_size_114 fX11_211 rfl (hW (2, 5, 13) (by decide)) ?_
      refine p_getI 13 120 dX11_size_117 fX11_266 rfl ?_
      refine p_iret dX11_size_120 rfl ?_
      refine ⟨_, rfl, CQ.same hI ?_ rfl⟩
      rw [hcw]
      subst hs1
      unfold pa_size
      by_cases hz : M 124 14 = 0
      · simp [hz, hF.r0 hz 4 (by decide)]
      · simp [hz]
    · refine p_tabJ (off := 120) 5 121 dX11_size_1 hs1 (by decide) (by decide) (by decide) ?_
      refine p_aload_n 122 dX11_size_121 rfl rfl (by decide) ?_
      refine p_getR 0 125 dX11_size_122 fX11_16 rfl hco ?_
      refine p_getR 2 128 dX11_size_125 fX11_211 rfl (hW (2, 5, 13) (by decide)) ?_
      refine p_getI 13 131 dX11_size_128 fX11_378 rfl ?_
      refine p_iret dX11_size_131 rfl ?_
      refine ⟨_, rfl, CQ.same hI ?_ rfl⟩
      rw [hcb]
      subst hs1
      unfold pa_size
      by_cases hz : M 124 14 = 0
      · simp [hz, hF.r0 hz 5 (by decide)]
      · simp [hz]
    · refine p_tabJ (off := 131) 6 132 dX11_size_1 hs1 (by decide) (by decide) (by decide) ?_
      refine p_aload_n 133 dX11_size_132 rfl rfl (by decide) ?_
      refine p_getR 0 136 dX11_size_133 fX11_16 rfl hco ?_
      refine p_getR 2 139 dX11_size_136 fX11_273 rfl (hW (2, 6, 19) (by decide)) ?_
      refine p_getI 19 142 dX11_size_139 fX11_293 rfl ?_
      refine p_iret dX11_size_142 rfl ?_
      refine ⟨_, rfl, CQ.same hI ?_ rfl⟩
      rw [hcor]
      subst hs1
      unfold pa_size
      by_cases hz : M 124 14 = 0
      · simp [hz, hF.r0 hz 6 (by decide)]
      · simp [hz]
    · refine p_tabJ (off := 142) 7 143 dX11_size_1 hs1 (by decide) (by decide) (by decide) ?_
      refine p_aload_n 144 dX11_size_143 rfl rfl (by decide) ?_
      refine p_getR 0 147 dX11_size_144 fX11_16 rfl hco ?_
      refine p_getR 2 150 dX11_size_147 fX11_273 rfl (hW (2, 6, 19) (by decide)) ?_
      refine p_getI 19 153 dX11_size_150 fX11_381 rfl ?_
      refine p_iret dX11_size_153 rfl ?_
      refine ⟨_, rfl, CQ.same hI ?_ rfl⟩
      rw [hcn]
      subst hs1
      unfold pa_size
      by_cases hz : M 124 14 = 0
      · simp [hz, hF.r0 hz 7 (by decide)]
      · simp [hz]
    · refine p_tabJ (off := 153) 8 154 dX11_size_1 hs1 (by decide) (by decide) (by decide) ?_
      refine p_aload_n 155 dX11_size_154 rfl rfl (by decide) ?_
      refine p_getR 0 158 dX11_size_155 fX11_33 rfl (hW (0, 8, 49) (by decide)) ?_
      refine p_getI 49 161 dX11_size_158 fX11_343 rfl ?_
      refine p_iret dX11_size_161 rfl ?_
      refine ⟨_, rfl, CQ.same hI ?_ rfl⟩
      rw [hN.1]
      subst hs1
      unfold pa_size
      by_cases hz : M 124 14 = 0
      · simp [hz, (hF.t0 hz).1 15 (by decide)]
      · simp [hz]
    · refine p_tabJ (off := 161) 9 162 dX11_size_1 hs1 (by decide) (by decide) (by decide) ?_
      refine p_aload_n 163 dX11_size_162 rfl rfl (by decide) ?_
      refine p_getR 0 166 dX11_size_163 fX11_33 rfl (hW (0, 8, 49) (by decide)) ?_
      refine p_getI 49 169 dX11_size_166 fX11_170 rfl ?_
      rw [hwo]
      refine p_if_eq 176 172 dX11_size_169 (by omega) (by omega) (fun h169 => ?_) (fun h169 => ?_)
      · refine p_iconst 177 dX11_size_176 ?_
        refine p_iret dX11_size_177 rfl ?_
        refine ⟨_, rfl, CQ.same hI ?_ rfl⟩
        subst hs1
        unfold pa_size
        by_cases hz : M 124 14 = 0
        · have := (hF.t0 hz).1 16 (by decide)
          simp [hz]
          try omega
        · simp [hz]
          try omega
      · refine p_iconst 173 dX11_size_172 ?_
        refine p_goto 177 dX11_size_173 ?_
        refine p_iret dX11_size_177 rfl ?_
        refine ⟨_, rfl, CQ.same hI ?_ rfl⟩
        subst hs1
        unfold pa_size
        by_cases hz : M 124 14 = 0
        · have := (hF.t0 hz).1 16 (by decide)
          simp [hz]
          try omega
        · simp [hz]
          try omega
    · refine p_tabJ (off := 177) 10 178 dX11_size_1 hs1 (by decide) (by decide) (by decide) ?_
      refine p_aload_n 179 dX11_size_178 rfl rfl (by decide) ?_
      refine p_getR 0 182 dX11_size_179 fX11_33 rfl (hW (0, 8, 49) (by decide)) ?_
      refine p_getI 49 185 dX11_size_182 fX11_349 rfl ?_
      refine p_iret dX11_size_185 rfl ?_
      refine ⟨_, rfl, CQ.same hI ?_ rfl⟩
      rw [hN.2.1]
      subst hs1
      unfold pa_size
      by_cases hz : M 124 14 = 0
      · simp [hz, (hF.t0 hz).1 17 (by decide)]
      · simp [hz]
    · refine p_tabJ (off := 185) 11 186 dX11_size_1 hs1 (by decide) (by decide) (by decide) ?_
      refine p_aload_n 187 dX11_size_186 rfl rfl (by decide) ?_
      refine p_getR 0 190 dX11_size_187 fX11_40 rfl (hW (0, 9, 52) (by decide)) ?_
      refine p_getI 52 193 dX11_size_190 fX11_353 rfl ?_
      refine p_iret dX11_size_193 rfl ?_
      refine ⟨_, rfl, CQ.same hI ?_ rfl⟩
      rw [hpast.1]
      subst hs1
      unfold pa_size
      by_cases hz : M 124 14 = 0
      · simp [hz, (hF.t0 hz).2.1]
      · simp [hz]
    · refine p_tabJ (off := 193) 12 194 dX11_size_1 hs1 (by decide) (by decide) (by decide) ?_
      refine p_aload_n 195 dX11_size_194 rfl rfl (by decide) ?_
      refine p_getR 0 198 dX11_size_195 fX11_40 rfl (hW (0, 9, 52) (by decide)) ?_
      refine p_getI 52 201 dX11_size_198 fX11_357 rfl ?_
      refine p_iret dX11_size_201 rfl ?_
      refine ⟨_, rfl, CQ.same hI ?_ rfl⟩
      rw [hpast.2.1]
      subst hs1
      unfold pa_size
      by_cases hz : M 124 14 = 0
      · simp [hz, (hF.t0 hz).2.2]
      · simp [hz]
    · refine p_tabJ (off := 201) 13 202 dX11_size_1 hs1 (by decide) (by decide) (by decide) ?_
      refine p_aload_n 203 dX11_size_202 rfl rfl (by decide) ?_
      refine p_getI 0 206 dX11_size_203 fX11_65 rfl ?_
      refine p_iret dX11_size_206 rfl ?_
      refine ⟨_, rfl, CQ.same hI ?_ rfl⟩
      rw [j1]
      subst hs1
      unfold pa_size
      by_cases hz : M 124 14 = 0
      · simp [hz]
      · simp [hz]
    · refine p_tabD 207 dX11_size_1 (by omega) (by omega) hs1 ?_
      refine p_iconst 208 dX11_size_207 ?_
      refine p_iret dX11_size_208 rfl ?_
      refine ⟨_, rfl, CQ.same hI ?_ rfl⟩
      unfold pa_size
      show _ = (if _ then _ else _)
      rw [if_neg (by omega), if_pos (by omega)]
  · have hto : M 25 0 = M 124 14 := hC.1.1
    have hla : M 25 1 = M 127 0 := hC.1.2.1
    have hsn : M 25 2 = M 127 1 := hC.1.2.2.1
    have hcs : M 26 0 = M 127 2 := hC.1.2.2.2.1
    have hca : M 31 0 = M 127 3 := hC.1.2.2.2.2.1
    have hcw : M 36 0 = M 127 4 := hC.1.2.2.2.2.2.1
    have hcb : M 36 1 = M 127 5 := hC.1.2.2.2.2.2.2.1
    have hcor : M 42 0 = M 127 6 := hC.1.2.2.2.2.2.2.2.1
    have hcn : M 42 4 = M 127 7 := hC.1.2.2.2.2.2.2.2.2
    refine p_iload_n 1 dX11_size_0 rfl rfl ?_
    have hsw1 : w = 0 ∨ w = 1 ∨ w = 2 ∨ w = 3 ∨ w = 4 ∨ w = 5 ∨ w = 6 ∨ w = 7 ∨ w = 8 ∨ w = 9 ∨ w = 10 ∨ w = 11 ∨ w = 12 ∨ w = 13 ∨ (w < 0 ∨ 13 < w) := by omega
    rcases hsw1 with hs1 | hs1 | hs1 | hs1 | hs1 | hs1 | hs1 | hs1 | hs1 | hs1 | hs1 | hs1 | hs1 | hs1 | hs1
    · refine p_tabJ (off := 71) 0 72 dX11_size_1 hs1 (by decide) (by decide) (by decide) ?_
      refine p_aload_n 73 dX11_size_72 rfl rfl (by decide) ?_
      refine p_getR 0 76 dX11_size_73 fX11_16 rfl hco ?_
      refine p_getI 25 79 dX11_size_76 fX11_375 rfl ?_
      refine p_iret dX11_size_79 rfl ?_
      refine ⟨_, rfl, CQ.same hI ?_ rfl⟩
      rw [hla]
      subst hs1
      unfold pa_size
      by_cases hz : M 124 14 = 0
      · simp [hz, hF.r0 hz 0 (by decide)]
      · simp [hz]
    · refine p_tabJ (off := 79) 1 80 dX11_size_1 hs1 (by decide) (by decide) (by decide) ?_
      refine p_aload_n 81 dX11_size_80 rfl rfl (by decide) ?_
      refine p_getR 0 84 dX11_size_81 fX11_16 rfl hco ?_
      refine p_getI 25 87 dX11_size_84 fX11_326 rfl ?_
      refine p_iret dX11_size_87 rfl ?_
      refine ⟨_, rfl, CQ.same hI ?_ rfl⟩
      rw [hsn]
      subst hs1
      unfold pa_size
      by_cases hz : M 124 14 = 0
      · simp [hz, hF.r0 hz 1 (by decide)]
      · simp [hz]
    · refine p_tabJ (off := 87) 2 88 dX11_size_1 hs1 (by decide) (by decide) (by decide) ?_
      refine p_aload_n 89 dX11_size_88 rfl rfl (by decide) ?_
      refine p_getR 0 92 dX11_size_89 fX11_16 rfl hco ?_
      refine p_getR 25 95 dX11_size_92 fX11_99 rfl (hW (25, 3, 26) (by decide)) ?_
      refine p_getI 26 98 dX11_size_95 fX11_103 rfl ?_
      refine p_iret dX11_size_98 rfl ?_
      refine ⟨_, rfl, CQ.same hI ?_ rfl⟩
      rw [hcs]
      subst hs1
      unfold pa_size
      by_cases hz : M 124 14 = 0
      · simp [hz, hF.r0 hz 2 (by decide)]
      · simp [hz]
    · refine p_tabJ (off := 98) 3 99 dX11_size_1 hs1 (by decide) (by decide) (by decide) ?_
      refine p_aload_n 100 dX11_size_99 rfl rfl (by decide) ?_
      refine p_getR 0 103 dX11_size_100 fX11_16 rfl hco ?_
      refine p_getR 25 106 dX11_size_103 fX11_151 rfl (hW (25, 4, 31) (by decide)) ?_
      refine p_getI 31 109 dX11_size_106 fX11_207 rfl ?_
      refine p_iret dX11_size_109 rfl ?_
      refine ⟨_, rfl, CQ.same hI ?_ rfl⟩
      rw [hca]
      subst hs1
      unfold pa_size
      by_cases hz : M 124 14 = 0
      · simp [hz, hF.r0 hz 3 (by decide)]
      · simp [hz]
    · refine p_tabJ (off := 109) 4 110 dX11_size_1 hs1 (by decide) (by decide) (by decide) ?_
      refine p_aload_n 111 dX11_size_110 rfl rfl (by decide) ?_
      refine p_getR 0 114 dX11_size_111 fX11_16 rfl hco ?_
      refine p_getR 25 117 dX11_size_114 fX11_211 rfl (hW (25, 5, 36) (by decide)) ?_
      refine p_getI 36 120 dX11_size_117 fX11_266 rfl ?_
      refine p_iret dX11_size_120 rfl ?_
      refine ⟨_, rfl, CQ.same hI ?_ rfl⟩
      rw [hcw]
      subst hs1
      unfold pa_size
      by_cases hz : M 124 14 = 0
      · simp [hz, hF.r0 hz 4 (by decide)]
      · simp [hz]
    · refine p_tabJ (off := 120) 5 121 dX11_size_1 hs1 (by decide) (by decide) (by decide) ?_
      refine p_aload_n 122 dX11_size_121 rfl rfl (by decide) ?_
      refine p_getR 0 125 dX11_size_122 fX11_16 rfl hco ?_
      refine p_getR 25 128 dX11_size_125 fX11_211 rfl (hW (25, 5, 36) (by decide)) ?_
      refine p_getI 36 131 dX11_size_128 fX11_378 rfl ?_
      refine p_iret dX11_size_131 rfl ?_
      refine ⟨_, rfl, CQ.same hI ?_ rfl⟩
      rw [hcb]
      subst hs1
      unfold pa_size
      by_cases hz : M 124 14 = 0
      · simp [hz, hF.r0 hz 5 (by decide)]
      · simp [hz]
    · refine p_tabJ (off := 131) 6 132 dX11_size_1 hs1 (by decide) (by decide) (by decide) ?_
      refine p_aload_n 133 dX11_size_132 rfl rfl (by decide) ?_
      refine p_getR 0 136 dX11_size_133 fX11_16 rfl hco ?_
      refine p_getR 25 139 dX11_size_136 fX11_273 rfl (hW (25, 6, 42) (by decide)) ?_
      refine p_getI 42 142 dX11_size_139 fX11_293 rfl ?_
      refine p_iret dX11_size_142 rfl ?_
      refine ⟨_, rfl, CQ.same hI ?_ rfl⟩
      rw [hcor]
      subst hs1
      unfold pa_size
      by_cases hz : M 124 14 = 0
      · simp [hz, hF.r0 hz 6 (by decide)]
      · simp [hz]
    · refine p_tabJ (off := 142) 7 143 dX11_size_1 hs1 (by decide) (by decide) (by decide) ?_
      refine p_aload_n 144 dX11_size_143 rfl rfl (by decide) ?_
      refine p_getR 0 147 dX11_size_144 fX11_16 rfl hco ?_
      refine p_getR 25 150 dX11_size_147 fX11_273 rfl (hW (25, 6, 42) (by decide)) ?_
      refine p_getI 42 153 dX11_size_150 fX11_381 rfl ?_
      refine p_iret dX11_size_153 rfl ?_
      refine ⟨_, rfl, CQ.same hI ?_ rfl⟩
      rw [hcn]
      subst hs1
      unfold pa_size
      by_cases hz : M 124 14 = 0
      · simp [hz, hF.r0 hz 7 (by decide)]
      · simp [hz]
    · refine p_tabJ (off := 153) 8 154 dX11_size_1 hs1 (by decide) (by decide) (by decide) ?_
      refine p_aload_n 155 dX11_size_154 rfl rfl (by decide) ?_
      refine p_getR 0 158 dX11_size_155 fX11_33 rfl (hW (0, 8, 49) (by decide)) ?_
      refine p_getI 49 161 dX11_size_158 fX11_343 rfl ?_
      refine p_iret dX11_size_161 rfl ?_
      refine ⟨_, rfl, CQ.same hI ?_ rfl⟩
      rw [hN.1]
      subst hs1
      unfold pa_size
      by_cases hz : M 124 14 = 0
      · simp [hz, (hF.t0 hz).1 15 (by decide)]
      · simp [hz]
    · refine p_tabJ (off := 161) 9 162 dX11_size_1 hs1 (by decide) (by decide) (by decide) ?_
      refine p_aload_n 163 dX11_size_162 rfl rfl (by decide) ?_
      refine p_getR 0 166 dX11_size_163 fX11_33 rfl (hW (0, 8, 49) (by decide)) ?_
      refine p_getI 49 169 dX11_size_166 fX11_170 rfl ?_
      rw [hwo]
      refine p_if_eq 176 172 dX11_size_169 (by omega) (by omega) (fun h169 => ?_) (fun h169 => ?_)
      · refine p_iconst 177 dX11_size_176 ?_
        refine p_iret dX11_size_177 rfl ?_
        refine ⟨_, rfl, CQ.same hI ?_ rfl⟩
        subst hs1
        unfold pa_size
        by_cases hz : M 124 14 = 0
        · have := (hF.t0 hz).1 16 (by decide)
          simp [hz]
          try omega
        · simp [hz]
          try omega
      · refine p_iconst 173 dX11_size_172 ?_
        refine p_goto 177 dX11_size_173 ?_
        refine p_iret dX11_size_177 rfl ?_
        refine ⟨_, rfl, CQ.same hI ?_ rfl⟩
        subst hs1
        unfold pa_size
        by_cases hz : M 124 14 = 0
        · have := (hF.t0 hz).1 16 (by decide)
          simp [hz]
          try omega
        · simp [hz]
          try omega
    · refine p_tabJ (off := 177) 10 178 dX11_size_1 hs1 (by decide) (by decide) (by decide) ?_
      refine p_aload_n 179 dX11_size_178 rfl rfl (by decide) ?_
      refine p_getR 0 182 dX11_size_179 fX11_33 rfl (hW (0, 8, 49) (by decide)) ?_
      refine p_getI 49 185 dX11_size_182 fX11_349 rfl ?_
      refine p_iret dX11_size_185 rfl ?_
      refine ⟨_, rfl, CQ.same hI ?_ rfl⟩
      rw [hN.2.1]
      subst hs1
      unfold pa_size
      by_cases hz : M 124 14 = 0
      · simp [hz, (hF.t0 hz).1 17 (by decide)]
      · simp [hz]
    · refine p_tabJ (off := 185) 11 186 dX11_size_1 hs1 (by decide) (by decide) (by decide) ?_
      refine p_aload_n 187 dX11_size_186 rfl rfl (by decide) ?_
      refine p_getR 0 190 dX11_size_187 fX11_40 rfl (hW (0, 9, 52) (by decide)) ?_
      refine p_getI 52 193 dX11_size_190 fX11_353 rfl ?_
      refine p_iret dX11_size_193 rfl ?_
      refine ⟨_, rfl, CQ.same hI ?_ rfl⟩
      rw [hpast.1]
      subst hs1
      unfold pa_size
      by_cases hz : M 124 14 = 0
      · simp [hz, (hF.t0 hz).2.1]
      · simp [hz]
    · refine p_tabJ (off := 193) 12 194 dX11_size_1 hs1 (by decide) (by decide) (by decide) ?_
      refine p_aload_n 195 dX11_size_194 rfl rfl (by decide) ?_
      refine p_getR 0 198 dX11_size_195 fX11_40 rfl (hW (0, 9, 52) (by decide)) ?_
      refine p_getI 52 201 dX11_size_198 fX11_357 rfl ?_
      refine p_iret dX11_size_201 rfl ?_
      refine ⟨_, rfl, CQ.same hI ?_ rfl⟩
      rw [hpast.2.1]
      subst hs1
      unfold pa_size
      by_cases hz : M 124 14 = 0
      · simp [hz, (hF.t0 hz).2.2]
      · simp [hz]
    · refine p_tabJ (off := 201) 13 202 dX11_size_1 hs1 (by decide) (by decide) (by decide) ?_
      refine p_aload_n 203 dX11_size_202 rfl rfl (by decide) ?_
      refine p_getI 0 206 dX11_size_203 fX11_65 rfl ?_
      refine p_iret dX11_size_206 rfl ?_
      refine ⟨_, rfl, CQ.same hI ?_ rfl⟩
      rw [j1]
      subst hs1
      unfold pa_size
      by_cases hz : M 124 14 = 0
      · simp [hz]
      · simp [hz]
    · refine p_tabD 207 dX11_size_1 (by omega) (by omega) hs1 ?_
      refine p_iconst 208 dX11_size_207 ?_
      refine p_iret dX11_size_208 rfl ?_
      refine ⟨_, rfl, CQ.same hI ?_ rfl⟩
      unfold pa_size
      show _ = (if _ then _ else _)
      rw [if_neg (by omega), if_pos (by omega)]
theorem m_size {l : Launch} {X : ZX} {M : ZM} (hW : zWm M) (hF : WF M) {w : Int} (hw1 : -2147483648 ≤ w) (hw2 : w < 2147483648) : zCi l X 1 yX12_size tX12_size [zr 124, zi w] M (MQq M (pa_size M w)) := by
  have hWg : zWm (zset (zset M 124 0 0) 124 11 0) := (hW.set (by decide +kernel)).set (by decide +kernel)
  have hR := hF.r
  have hT := hF.t
  have hh := hF.h
  have e0 : M 127 0 = (q_n (M 127) 0 : Int) := hR.n (by decide)
  have e2 : M 127 2 = (q_n (M 127) 2 : Int) := hR.n (by decide)
  have e3 : M 127 3 = (q_n (M 127) 3 : Int) := hR.n (by decide)
  have e4 : M 127 4 = (q_n (M 127) 4 : Int) := hR.n (by decide)
  have bR := hR.2.1
  have h20 : M 124 14 = 0 → M 127 2 = 0 := fun h => hF.r0 h 2 (by decide)
  have h30 : M 124 14 = 0 → M 127 3 = 0 := fun h => hF.r0 h 3 (by decide)
  have h40 : M 124 14 = 0 → M 127 4 = 0 := fun h => hF.r0 h 4 (by decide)
  refine zC.of [some (zr 124), some (zi w)] (by decide +kernel) rfl rfl (Nat.le_of_ble_eq_true rfl) rfl ?_
  refine p_aload_n 1 dX12_size_0 rfl rfl (by decide) ?_
  refine p_iconst 2 dX12_size_1 ?_
  refine p_putI 124 5 dX12_size_2 wX12_53 rfl ?_
  refine p_iload_n 6 dX12_size_5 rfl rfl ?_
  refine p_bipush 8 dX12_size_6 rfl ?_
  refine p_icmp_ne 16 11 dX12_size_8 (by omega) (by omega) (by omega) (by omega) (fun h8 => ?_) (fun h8 => ?_)
  · refine p_aload_n 17 dX12_size_16 rfl rfl (by decide) ?_
    refine p_getI 124 20 dX12_size_17 fX12_178 rfl ?_
    refine p_if_ne 39 23 dX12_size_20 (by show _ ≤ M 124 14; omega) (by show M 124 14 < _; omega) (fun h20 => ?_) (fun h20 => ?_)
    · have h20 : M 124 14 ≠ 0 := h20
      refine p_iload_n 40 dX12_size_39 rfl rfl ?_
      refine p_iconst 41 dX12_size_40 ?_
      refine p_bipush 43 dX12_size_41 rfl ?_
      refine p_callS3i 46 dX12_size_43 (s_in (by omega) (by omega) (by omega) (by omega) (by omega) (by omega)) lk_X12_146 mX12_in (by decide) (Nat.le_of_ble_eq_true rfl) ?_
      rintro _ _ ⟨rfl, e9⟩
      have e9 := e9.symm
      subst e9
      refine p_if_eq 56 49 dX12_size_46 (by split <;> omega) (by split <;> omega) (fun h46 => ?_) (fun h46 => ?_)
      · have h46 := if_eq0 h46
        refine p_iload_n 57 dX12_size_56 rfl rfl ?_
        have hsw57 : w = 8 ∨ w = 9 ∨ w = 10 ∨ w = 11 ∨ w = 12 ∨ (w < 8 ∨ 12 < w) := by omega
        rcases hsw57 with hs57 | hs57 | hs57 | hs57 | hs57 | hs57
        · refine p_tabJ (off := 35) 8 92 dX12_size_57 hs57 (by decide) (by decide) (by decide) ?_
          refine p_aload_n 93 dX12_size_92 rfl rfl (by decide) ?_
          refine p_getR 124 96 dX12_size_93 fX12_26 rfl (hWg (124, 17, 129) (by decide)) ?_
          refine p_bipush 98 dX12_size_96 rfl ?_
          refine p_iald 129 99 dX12_size_98 rfl (by omega) (by omega) ?_
          try simp only [Int.toNat_natCast, Int.reduceToNat]
          refine p_iret dX12_size_99 rfl ?_
          refine ⟨_, rfl, MQq.of hid_th hW ?_ rfl⟩
          unfold pa_size
          show _ = (if _ then _ else _)
          first
            | (rw [if_neg (by omega), if_pos (by omega)]; done)
            | (subst hs57; rw [if_neg (by omega), if_neg (by omega), if_neg (by omega), if_neg (by omega)]; rfl)
        · refine p_tabJ (off := 43) 9 100 dX12_size_57 hs57 (by decide) (by decide) (by decide) ?_
          refine p_aload_n 101 dX12_size_100 rfl rfl (by decide) ?_
          refine p_getR 124 104 dX12_size_101 fX12_26 rfl (hWg (124, 17, 129) (by decide)) ?_
          refine p_bipush 106 dX12_size_104 rfl ?_
          refine p_iald 129 107 dX12_size_106 rfl (by omega) (by omega) ?_
          try simp only [Int.toNat_natCast, Int.reduceToNat]
          refine p_iret dX12_size_107 rfl ?_
          refine ⟨_, rfl, MQq.of hid_th hW ?_ rfl⟩
          unfold pa_size
          show _ = (if _ then _ else _)
          first
            | (rw [if_neg (by omega), if_pos (by omega)]; done)
            | (subst hs57; rw [if_neg (by omega), if_neg (by omega), if_neg (by omega), if_neg (by omega)]; rfl)
        · refine p_tabJ (off := 51) 10 108 dX12_size_57 hs57 (by decide) (by decide) (by decide) ?_
          refine p_aload_n 109 dX12_size_108 rfl rfl (by decide) ?_
          refine p_getR 124 112 dX12_size_109 fX12_26 rfl (hWg (124, 17, 129) (by decide)) ?_
          refine p_bipush 114 dX12_size_112 rfl ?_
          refine p_iald 129 115 dX12_size_114 rfl (by omega) (by omega) ?_
          try simp only [Int.toNat_natCast, Int.reduceToNat]
          refine p_iret dX12_size_115 rfl ?_
          refine ⟨_, rfl, MQq.of hid_th hW ?_ rfl⟩
          unfold pa_size
          show _ = (if _ then _ else _)
          first
            | (rw [if_neg (by omega), if_pos (by omega)]; done)
            | (subst hs57; rw [if_neg (by omega), if_neg (by omega), if_neg (by omega), if_neg (by omega)]; rfl)
        · refine p_tabJ (off := 59) 11 116 dX12_size_57 hs57 (by decide) (by decide) (by decide) ?_
          refine p_aload_n 117 dX12_size_116 rfl rfl (by decide) ?_
          refine p_getI 124 120 dX12_size_117 fX12_181 rfl ?_
          refine p_iret dX12_size_120 rfl ?_
          refine ⟨_, rfl, MQq.of hid_th hW ?_ rfl⟩
          unfold pa_size
          show _ = (if _ then _ else _)
          first
            | (rw [if_neg (by omega), if_pos (by omega)]; done)
            | (subst hs57; rw [if_neg (by omega), if_neg (by omega), if_neg (by omega), if_neg (by omega)]; rfl)
        · refine p_tabJ (off := 64) 12 121 dX12_size_57 hs57 (by decide) (by decide) (by decide) ?_
          refine p_aload_n 122 dX12_size_121 rfl rfl (by decide) ?_
          refine p_getI 124 125 dX12_size_122 fX12_184 rfl ?_
          refine p_iret dX12_size_125 rfl ?_
          refine ⟨_, rfl, MQq.of hid_th hW ?_ rfl⟩
          unfold pa_size
          show _ = (if _ then _ else _)
          first
            | (rw [if_neg (by omega), if_pos (by omega)]; done)
            | (subst hs57; rw [if_neg (by omega), if_neg (by omega), if_neg (by omega), if_neg (by omega)]; rfl)
        · refine p_tabD 126 dX12_size_57 (by omega) (by omega) hs57 ?_
          refine p_iconst 127 dX12_size_126 ?_
          refine p_iret dX12_size_127 rfl ?_
          refine ⟨_, rfl, MQq.of hid_th hW ?_ rfl⟩
          unfold pa_size
          show _ = (if _ then _ else _)
          first
            | (rw [if_neg (by omega), if_pos (by omega)]; done)
            | (subst hs57; rw [if_neg (by omega), if_neg (by omega), if_neg (by omega), if_neg (by omega)]; rfl)
      · have h46 := if_neq0 h46
        obtain ⟨k, rfl⟩ : ∃ k : Nat, w = (k : Int) := ⟨w.toNat, by omega⟩
        refine p_aload_n 50 dX12_size_49 rfl rfl (by decide) ?_
        refine p_getR 124 53 dX12_size_50 fX12_20 rfl (hWg (124, 15, 127) (by decide)) ?_
        refine p_iload_n 54 dX12_size_53 rfl rfl ?_
        refine p_ialdn 127 55 (k) dX12_size_54 rfl (by omega) (by omega) ?_
        refine p_iret dX12_size_55 rfl ?_
        refine ⟨_, rfl, MQq.of hid_th hW ?_ rfl⟩
        unfold pa_size
        show _ = (if _ then _ else _)
        rw [if_neg (by omega), if_neg (by omega), if_neg (by omega), if_pos (by omega)]
        rfl
    · have h20 : ¬ M 124 14 ≠ 0 := h20
      refine p_iload_n 24 dX12_size_23 rfl rfl ?_
      refine p_iconst 25 dX12_size_24 ?_
      refine p_bipush 27 dX12_size_25 rfl ?_
      refine p_callS3i 30 dX12_size_27 (s_in (by omega) (by omega) (by omega) (by omega) (by omega) (by omega)) lk_X12_146 mX12_in (by decide) (Nat.le_of_ble_eq_true rfl) ?_
      rintro _ _ ⟨rfl, e9⟩
      have e9 := e9.symm
      subst e9
      refine p_if_eq 37 33 dX12_size_30 (by split <;> omega) (by split <;> omega) (fun h30 => ?_) (fun h30 => ?_)
      · have h30 := if_eq0 h30
        refine p_iconst 38 dX12_size_37 ?_
        refine p_iret dX12_size_38 rfl ?_
        refine ⟨_, rfl, MQq.of hid_th hW ?_ rfl⟩
        unfold pa_size
        show _ = (if _ then _ else _)
        first | (rw [if_neg (by omega), if_neg (by omega), if_pos (by omega)]; done) | (rw [if_neg (by omega), if_pos (by omega)]; done)
      · have h30 := if_neq0 h30
        refine p_iconst 34 dX12_size_33 ?_
        refine p_goto 38 dX12_size_34 ?_
        refine p_iret dX12_size_38 rfl ?_
        refine ⟨_, rfl, MQq.of hid_th hW ?_ rfl⟩
        unfold pa_size
        show _ = (if _ then _ else _)
        first | (rw [if_neg (by omega), if_neg (by omega), if_pos (by omega)]; done) | (rw [if_neg (by omega), if_pos (by omega)]; done)
  · refine p_aload_n 12 dX12_size_11 rfl rfl (by decide) ?_
    refine p_getI 124 15 dX12_size_12 fX12_59 rfl ?_
    refine p_iret dX12_size_15 rfl ?_
    refine ⟨_, rfl, MQq.of hid_th hW ?_ rfl⟩
    unfold pa_size
    show _ = (if _ then _ else _)
    rw [if_pos (by omega)]
    rfl
theorem q_opt_nn (o : Option Nat) (h : o ≠ none) : ∃ x : Nat, o = some x := by
  cases o with
  | none => exact absurd rfl h
  | some x => exact ⟨x, rfl⟩
theorem c_sum {l : Launch} {X : ZX} {M : ZM} (hI : IC M M) (hF : WF M) {v w : Int} (hv1 : -2147483648 ≤ v) (hv2 : v < 2147483648) (hw1 : -2147483648 ≤ w) (hw2 : w < 2147483648) : zCi l X 1 yX11_sum tX11_sum [zr 0, zi v, zi w] M (CQ M (pa_sum (M 124 14) (M 127) v w)) := by
  obtain ⟨hW, ⟨c, c', hcc, hco, hsp, hC⟩, ⟨j1, j2, j3, j4, j5⟩, hN, hpast, hten, ⟨hz0, hsea⟩, hfit⟩ := id hI
  have hR := hF.r
  have hT := hF.t
  have hh := hF.h
  have e0 : M 127 0 = (q_n (M 127) 0 : Int) := hR.n (by decide)
  have e2 : M 127 2 = (q_n (M 127) 2 : Int) := hR.n (by decide)
  have e3 : M 127 3 = (q_n (M 127) 3 : Int) := hR.n (by decide)
  have e4 : M 127 4 = (q_n (M 127) 4 : Int) := hR.n (by decide)
  have bR := hR.2.1
  have h20 : M 124 14 = 0 → M 127 2 = 0 := fun h => hF.r0 h 2 (by decide)
  have h30 : M 124 14 = 0 → M 127 3 = 0 := fun h => hF.r0 h 3 (by decide)
  have h40 : M 124 14 = 0 → M 127 4 = 0 := fun h => hF.r0 h 4 (by decide)
  have hwo : M 49 3 = M 129 16 := hN.2.2.2.1
  have t160 := hT.1 16 (by decide)
  have t161 := hT.2.2.2.2.1
  refine zC.of [some (zr 0), some (zi v), some (zi w), none, none] (by decide +kernel) rfl rfl (Nat.le_of_ble_eq_true rfl) rfl ?_
  rcases hcc with ⟨rfl, rfl⟩ | ⟨rfl, rfl⟩
  · have hto : M 2 0 = M 124 14 := hC.1.1
    have hla : M 2 1 = M 127 0 := hC.1.2.1
    have hsn : M 2 2 = M 127 1 := hC.1.2.2.1
    have hcs : M 3 0 = M 127 2 := hC.1.2.2.2.1
    have hca : M 8 0 = M 127 3 := hC.1.2.2.2.2.1
    have hcw : M 13 0 = M 127 4 := hC.1.2.2.2.2.2.1
    have hcb : M 13 1 = M 127 5 := hC.1.2.2.2.2.2.2.1
    have hcor : M 19 0 = M 127 6 := hC.1.2.2.2.2.2.2.2.1
    have hcn : M 19 4 = M 127 7 := hC.1.2.2.2.2.2.2.2.2
    refine p_aload_n 1 dX11_sum_0 rfl rfl (by decide) ?_
    refine p_getR 0 4 dX11_sum_1 fX11_16 rfl hco ?_
    refine p_getI 2 7 dX11_sum_4 fX11_114 rfl ?_
    rw [hto]
    refine p_if_ne 16 10 dX11_sum_7 (by omega) (by omega) (fun h7 => ?_) (fun h7 => ?_)
    · refine p_iload_n 17 dX11_sum_16 rfl rfl ?_
      refine p_if_lt 36 20 dX11_sum_17 (by omega) (by omega) (fun h17 => ?_) (fun h17 => ?_)
      · refine p_aload_n 37 dX11_sum_36 rfl rfl (by decide) ?_
        refine p_iconst 38 dX11_sum_37 ?_
        refine p_callV1i 0 41 dX11_sum_38 s_refuse lk_X11_73 mX11_refuse rfl rfl (by decide) (Nat.le_of_ble_eq_true rfl) ?_
        rintro _ _ ⟨rfl, rfl⟩
        refine p_iret dX11_sum_41 rfl ?_
        exact ⟨_, rfl, CQ.of hI hF (fun k _ => rfl) (by unfold pa_sum; (repeat' split) <;> first | rfl | (exfalso; omega)) (by unfold pa_sum; (repeat' split) <;> first | rfl | (exfalso; omega)) (by decide)⟩
      · refine p_iload_n 21 dX11_sum_20 rfl rfl ?_
        refine p_ldc (z := 99999) 23 dX11_sum_21 kk_X11_117 rfl ?_
        refine p_icmp_gt 36 26 dX11_sum_23 (by omega) (by omega) (by omega) (by omega) (fun h23 => ?_) (fun h23 => ?_)
        · refine p_aload_n 37 dX11_sum_36 rfl rfl (by decide) ?_
          refine p_iconst 38 dX11_sum_37 ?_
          refine p_callV1i 0 41 dX11_sum_38 s_refuse lk_X11_73 mX11_refuse rfl rfl (by decide) (Nat.le_of_ble_eq_true rfl) ?_
          rintro _ _ ⟨rfl, rfl⟩
          refine p_iret dX11_sum_41 rfl ?_
          exact ⟨_, rfl, CQ.of hI hF (fun k _ => rfl) (by unfold pa_sum; (repeat' split) <;> first | rfl | (exfalso; omega)) (by unfold pa_sum; (repeat' split) <;> first | rfl | (exfalso; omega)) (by decide)⟩
        · refine p_iload_n 27 dX11_sum_26 rfl rfl ?_
          refine p_if_lt 36 30 dX11_sum_27 (by omega) (by omega) (fun h27 => ?_) (fun h27 => ?_)
          · refine p_aload_n 37 dX11_sum_36 rfl rfl (by decide) ?_
            refine p_iconst 38 dX11_sum_37 ?_
            refine p_callV1i 0 41 dX11_sum_38 s_refuse lk_X11_73 mX11_refuse rfl rfl (by decide) (Nat.le_of_ble_eq_true rfl) ?_
            rintro _ _ ⟨rfl, rfl⟩
            refine p_iret dX11_sum_41 rfl ?_
            exact ⟨_, rfl, CQ.of hI hF (fun k _ => rfl) (by unfold pa_sum; (repeat' split) <;> first | rfl | (exfalso; omega)) (by unfold pa_sum; (repeat' split) <;> first | rfl | (exfalso; omega)) (by decide)⟩
          · refine p_iload_n 31 dX11_sum_30 rfl rfl ?_
            refine p_ldc (z := 99999) 33 dX11_sum_31 kk_X11_117 rfl ?_
            refine p_icmp_le 42 36 dX11_sum_33 (by omega) (by omega) (by omega) (by omega) (fun h33 => ?_) (fun h33 => ?_)
            · obtain ⟨n, rfl⟩ : ∃ k : Nat, v = (k : Int) := ⟨v.toNat, by omega⟩
              obtain ⟨m, rfl⟩ : ∃ k : Nat, w = (k : Int) := ⟨w.toNat, by omega⟩
              refine p_aload_n 43 dX11_sum_42 rfl rfl (by decide) ?_
              refine p_getR 0 46 dX11_sum_43 fX11_16 rfl hco ?_
              refine p_iload_n 47 dX11_sum_46 rfl rfl ?_
              refine p_callV1i 2 50 dX11_sum_47 (s_thingsFor (c := 2) rfl (k := q_n (M 127) 0) (v := n) (by omega) (hla.trans e0) (by omega)) lk_X11_122 mX0_thingsFor rfl rfl (by decide) (Nat.le_of_ble_eq_true rfl) ?_
              rintro _ _ ⟨rfl, e9⟩
              have e9 := e9.symm
              subst e9
              refine p_istore_n 51 dX11_sum_50 rfl (Nat.le_of_ble_eq_true rfl) rfl rfl ?_
              dsimp only [List.set]
              refine p_aload_n 52 dX11_sum_51 rfl rfl (by decide) ?_
              refine p_getR 0 55 dX11_sum_52 fX11_16 rfl hco ?_
              refine p_iload_n 56 dX11_sum_55 rfl rfl ?_
              refine p_callV1i 2 59 dX11_sum_56 (s_thingsFor (c := 2) rfl (k := q_n (M 127) 0) (v := m) (by omega) (hla.trans e0) (by omega)) lk_X11_122 mX0_thingsFor rfl rfl (by decide) (Nat.le_of_ble_eq_true rfl) ?_
              rintro _ _ ⟨rfl, e9⟩
              have e9 := e9.symm
              subst e9
              refine p_istore 61 dX11_sum_59 (Nat.le_of_ble_eq_true rfl) rfl rfl ?_
              dsimp only [List.set]
              rcases ha : q_rly (q_n (M 127) 0) n with _ | x
              · rcases hb : q_rly (q_n (M 127) 0) m with _ | y
                · rw [show q_opt none = -2 from rfl]
                  skip
                  refine p_iload_n 62 dX11_sum_61 rfl rfl ?_
                  refine p_bipush 64 dX11_sum_62 rfl ?_
                  refine p_icmp_eq 74 67 dX11_sum_64 (by omega) (by omega) (by omega) (by omega) (fun h64 => ?_) (fun h64 => absurd (by omega) (fun h9 : False => h9))
                  refine p_aload_n 75 dX11_sum_74 rfl rfl (by decide) ?_
                  refine p_bipush 77 dX11_sum_75 rfl ?_
                  refine p_callV1i 0 80 dX11_sum_77 s_grant lk_X11_108 mX11_grant rfl rfl (by decide) (Nat.le_of_ble_eq_true rfl) ?_
                  rintro _ _ ⟨rfl, rfl⟩
                  refine p_iret dX11_sum_80 rfl ?_
                  refine ⟨_, rfl, CQ.of hI hF (fun k _ => rfl) ?_ (by unfold pa_sum; (repeat' split) <;> first | rfl | (exfalso; omega)) (by decide)⟩
                  unfold pa_sum
                  rw [if_neg (by omega), if_pos (by omega)]
                  show _ = (match q_rly (q_n (M 127) 0) n, q_rly (q_n (M 127) 0) m with
                    | some a, some b => (q_cnt (q_n (M 127) 0) (a + b) : Int)
                    | _, _ => -2)
                  rw [ha, hb]
                · rw [show q_opt none = -2 from rfl]
                  have ly := q_rly_le _ m m y (Nat.le_refl m) hb
                  rw [show q_opt (some y) = (y : Int) from rfl]
                  refine p_iload_n 62 dX11_sum_61 rfl rfl ?_
                  refine p_bipush 64 dX11_sum_62 rfl ?_
                  refine p_icmp_eq 74 67 dX11_sum_64 (by omega) (by omega) (by omega) (by omega) (fun h64 => ?_) (fun h64 => absurd (by omega) (fun h9 : False => h9))
                  refine p_aload_n 75 dX11_sum_74 rfl rfl (by decide) ?_
                  refine p_bipush 77 dX11_sum_75 rfl ?_
                  refine p_callV1i 0 80 dX11_sum_77 s_grant lk_X11_108 mX11_grant rfl rfl (by decide) (Nat.le_of_ble_eq_true rfl) ?_
                  rintro _ _ ⟨rfl, rfl⟩
                  refine p_iret dX11_sum_80 rfl ?_
                  refine ⟨_, rfl, CQ.of hI hF (fun k _ => rfl) ?_ (by unfold pa_sum; (repeat' split) <;> first | rfl | (exfalso; omega)) (by decide)⟩
                  unfold pa_sum
                  rw [if_neg (by omega), if_pos (by omega)]
                  show _ = (match q_rly (q_n (M 127) 0) n, q_rly (q_n (M 127) 0) m with
                    | some a, some b => (q_cnt (q_n (M 127) 0) (a + b) : Int)
                    | _, _ => -2)
                  rw [ha, hb]
              · rcases hb : q_rly (q_n (M 127) 0) m with _ | y
                · have lx := q_rly_le _ n n x (Nat.le_refl n) ha
                  rw [show q_opt (some x) = (x : Int) from rfl]
                  rw [show q_opt none = -2 from rfl]
                  refine p_iload_n 62 dX11_sum_61 rfl rfl ?_
                  refine p_bipush 64 dX11_sum_62 rfl ?_
                  refine p_icmp_eq 74 67 dX11_sum_64 (by omega) (by omega) (by omega) (by omega) (fun h64 => absurd (by omega) (fun h9 : False => h9)) (fun h64 => ?_)
                  refine p_iload 69 dX11_sum_67 rfl ?_
                  refine p_bipush 71 dX11_sum_69 rfl ?_
                  refine p_icmp_ne 81 74 dX11_sum_71 (by omega) (by omega) (by omega) (by omega) (fun h71 => absurd (by omega) (fun h9 : False => h9)) (fun h71 => ?_)
                  refine p_aload_n 75 dX11_sum_74 rfl rfl (by decide) ?_
                  refine p_bipush 77 dX11_sum_75 rfl ?_
                  refine p_callV1i 0 80 dX11_sum_77 s_grant lk_X11_108 mX11_grant rfl rfl (by decide) (Nat.le_of_ble_eq_true rfl) ?_
                  rintro _ _ ⟨rfl, rfl⟩
                  refine p_iret dX11_sum_80 rfl ?_
                  refine ⟨_, rfl, CQ.of hI hF (fun k _ => rfl) ?_ (by unfold pa_sum; (repeat' split) <;> first | rfl | (exfalso; omega)) (by decide)⟩
                  unfold pa_sum
                  rw [if_neg (by omega), if_pos (by omega)]
                  show _ = (match q_rly (q_n (M 127) 0) n, q_rly (q_n (M 127) 0) m with
                    | some a, some b => (q_cnt (q_n (M 127) 0) (a + b) : Int)
                    | _, _ => -2)
                  rw [ha, hb]
                · have lx := q_rly_le _ n n x (Nat.le_refl n) ha
                  rw [show q_opt (some x) = (x : Int) from rfl]
                  have ly := q_rly_le _ m m y (Nat.le_refl m) hb
                  rw [show q_opt (some y) = (y : Int) from rfl]
                  refine p_iload_n 62 dX11_sum_61 rfl rfl ?_
                  refine p_bipush 64 dX11_sum_62 rfl ?_
                  refine p_icmp_eq 74 67 dX11_sum_64 (by omega) (by omega) (by omega) (by omega) (fun h64 => absurd (by omega) (fun h9 : False => h9)) (fun h64 => ?_)
                  refine p_iload 69 dX11_sum_67 rfl ?_
                  refine p_bipush 71 dX11_sum_69 rfl ?_
                  refine p_icmp_ne 81 74 dX11_sum_71 (by omega) (by omega) (by omega) (by omega) (fun h71 => ?_) (fun h71 => absurd (by omega) (fun h9 : False => h9))
                  refine p_aload_n 82 dX11_sum_81 rfl rfl (by decide) ?_
                  refine p_aload_n 83 dX11_sum_82 rfl rfl (by decide) ?_
                  refine p_getR 0 86 dX11_sum_83 fX11_16 rfl hco ?_
                  refine p_iload_n 87 dX11_sum_86 rfl rfl ?_
                  refine p_iload 89 dX11_sum_87 rfl ?_
                  refine p_iadd 90 dX11_sum_89 ?_
                  rw [show (x : Int) + (y : Int) = ((x + y : Nat) : Int) from by omega]
                  refine p_callV1i 2 93 dX11_sum_90 (s_toldFor (c := 2) rfl (k := q_n (M 127) 0) (v := x + y) (by omega) (hla.trans e0) (by omega)) lk_X11_118 mX0_toldFor rfl rfl (by decide) (Nat.le_of_ble_eq_true rfl) ?_
                  rintro _ _ ⟨rfl, e9⟩
                  have e9 := e9.symm
                  subst e9
                  refine p_callV1i 0 96 dX11_sum_93 s_grant lk_X11_108 mX11_grant rfl rfl (by decide) (Nat.le_of_ble_eq_true rfl) ?_
                  rintro _ _ ⟨rfl, rfl⟩
                  refine p_iret dX11_sum_96 rfl ?_
                  refine ⟨_, rfl, CQ.of hI hF (fun k _ => rfl) ?_ (by unfold pa_sum; (repeat' split) <;> first | rfl | (exfalso; omega)) (by decide)⟩
                  unfold pa_sum
                  rw [if_neg (by omega), if_pos (by omega)]
                  show _ = (match q_rly (q_n (M 127) 0) n, q_rly (q_n (M 127) 0) m with
                    | some a, some b => (q_cnt (q_n (M 127) 0) (a + b) : Int)
                    | _, _ => -2)
                  rw [ha, hb]
            · refine p_aload_n 37 dX11_sum_36 rfl rfl (by decide) ?_
              refine p_iconst 38 dX11_sum_37 ?_
              refine p_callV1i 0 41 dX11_sum_38 s_refuse lk_X11_73 mX11_refuse rfl rfl (by decide) (Nat.le_of_ble_eq_true rfl) ?_
              rintro _ _ ⟨rfl, rfl⟩
              refine p_iret dX11_sum_41 rfl ?_
              exact ⟨_, rfl, CQ.of hI hF (fun k _ => rfl) (by unfold pa_sum; (repeat' split) <;> first | rfl | (exfalso; omega)) (by unfold pa_sum; (repeat' split) <;> first | rfl | (exfalso; omega)) (by decide)⟩
    · refine p_aload_n 11 dX11_sum_10 rfl rfl (by decide) ?_
      refine p_iconst 12 dX11_sum_11 ?_
      refine p_callV1i 0 15 dX11_sum_12 s_refuse lk_X11_73 mX11_refuse rfl rfl (by decide) (Nat.le_of_ble_eq_true rfl) ?_
      rintro _ _ ⟨rfl, rfl⟩
      refine p_iret dX11_sum_15 rfl ?_
      exact ⟨_, rfl, CQ.of hI hF (fun k _ => rfl) (by unfold pa_sum; (repeat' split) <;> first | rfl | (exfalso; omega)) (by unfold pa_sum; (repeat' split) <;> first | rfl | (exfalso; omega)) (by decide)⟩
  · have hto : M 25 0 = M 124 14 := hC.1.1
    have hla : M 25 1 = M 127 0 := hC.1.2.1
    have hsn : M 25 2 = M 127 1 := hC.1.2.2.1
    have hcs : M 26 0 = M 127 2 := hC.1.2.2.2.1
    have hca : M 31 0 = M 127 3 := hC.1.2.2.2.2.1
    have hcw : M 36 0 = M 127 4 := hC.1.2.2.2.2.2.1
    have hcb : M 36 1 = M 127 5 := hC.1.2.2.2.2.2.2.1
    have hcor : M 42 0 = M 127 6 := hC.1.2.2.2.2.2.2.2.1
    have hcn : M 42 4 = M 127 7 := hC.1.2.2.2.2.2.2.2.2
    refine p_aload_n 1 dX11_sum_0 rfl rfl (by decide) ?_
    refine p_getR 0 4 dX11_sum_1 fX11_16 rfl hco ?_
    refine p_getI 25 7 dX11_sum_4 fX11_114 rfl ?_
    rw [hto]
    refine p_if_ne 16 10 dX11_sum_7 (by omega) (by omega) (fun h7 => ?_) (fun h7 => ?_)
    · refine p_iload_n 17 dX11_sum_16 rfl rfl ?_
      refine p_if_lt 36 20 dX11_sum_17 (by omega) (by omega) (fun h17 => ?_) (fun h17 => ?_)
      · refine p_aload_n 37 dX11_sum_36 rfl rfl (by decide) ?_
        refine p_iconst 38 dX11_sum_37 ?_
        refine p_callV1i 0 41 dX11_sum_38 s_refuse lk_X11_73 mX11_refuse rfl rfl (by decide) (Nat.le_of_ble_eq_true rfl) ?_
        rintro _ _ ⟨rfl, rfl⟩
        refine p_iret dX11_sum_41 rfl ?_
        exact ⟨_, rfl, CQ.of hI hF (fun k _ => rfl) (by unfold pa_sum; (repeat' split) <;> first | rfl | (exfalso; omega)) (by unfold pa_sum; (repeat' split) <;> first | rfl | (exfalso; omega)) (by decide)⟩
      · refine p_iload_n 21 dX11_sum_20 rfl rfl ?_
        refine p_ldc (z := 99999) 23 dX11_sum_21 kk_X11_117 rfl ?_
        refine p_icmp_gt 36 26 dX11_sum_23 (by omega) (by omega) (by omega) (by omega) (fun h23 => ?_) (fun h23 => ?_)
        · refine p_aload_n 37 dX11_sum_36 rfl rfl (by decide) ?_
          refine p_iconst 38 dX11_sum_37 ?_
          refine p_callV1i 0 41 dX11_sum_38 s_refuse lk_X11_73 mX11_refuse rfl rfl (by decide) (Nat.le_of_ble_eq_true rfl) ?_
          rintro _ _ ⟨rfl, rfl⟩
          refine p_iret dX11_sum_41 rfl ?_
          exact ⟨_, rfl, CQ.of hI hF (fun k _ => rfl) (by unfold pa_sum; (repeat' split) <;> first | rfl | (exfalso; omega)) (by unfold pa_sum; (repeat' split) <;> first | rfl | (exfalso; omega)) (by decide)⟩
        · refine p_iload_n 27 dX11_sum_26 rfl rfl ?_
          refine p_if_lt 36 30 dX11_sum_27 (by omega) (by omega) (fun h27 => ?_) (fun h27 => ?_)
          · refine p_aload_n 37 dX11_sum_36 rfl rfl (by decide) ?_
            refine p_iconst 38 dX11_sum_37 ?_
            refine p_callV1i 0 41 dX11_sum_38 s_refuse lk_X11_73 mX11_refuse rfl rfl (by decide) (Nat.le_of_ble_eq_true rfl) ?_
            rintro _ _ ⟨rfl, rfl⟩
            refine p_iret dX11_sum_41 rfl ?_
            exact ⟨_, rfl, CQ.of hI hF (fun k _ => rfl) (by unfold pa_sum; (repeat' split) <;> first | rfl | (exfalso; omega)) (by unfold pa_sum; (repeat' split) <;> first | rfl | (exfalso; omega)) (by decide)⟩
          · refine p_iload_n 31 dX11_sum_30 rfl rfl ?_
            refine p_ldc (z := 99999) 33 dX11_sum_31 kk_X11_117 rfl ?_
            refine p_icmp_le 42 36 dX11_sum_33 (by omega) (by omega) (by omega) (by omega) (fun h33 => ?_) (fun h33 => ?_)
            · obtain ⟨n, rfl⟩ : ∃ k : Nat, v = (k : Int) := ⟨v.toNat, by omega⟩
              obtain ⟨m, rfl⟩ : ∃ k : Nat, w = (k : Int) := ⟨w.toNat, by omega⟩
              refine p_aload_n 43 dX11_sum_42 rfl rfl (by decide) ?_
              refine p_getR 0 46 dX11_sum_43 fX11_16 rfl hco ?_
              refine p_iload_n 47 dX11_sum_46 rfl rfl ?_
              refine p_callV1i 25 50 dX11_sum_47 (s_thingsFor (c := 25) rfl (k := q_n (M 127) 0) (v := n) (by omega) (hla.trans e0) (by omega)) lk_X11_122 mX0_thingsFor rfl rfl (by decide) (Nat.le_of_ble_eq_true rfl) ?_
              rintro _ _ ⟨rfl, e9⟩
              have e9 := e9.symm
              subst e9
              refine p_istore_n 51 dX11_sum_50 rfl (Nat.le_of_ble_eq_true rfl) rfl rfl ?_
              dsimp only [List.set]
              refine p_aload_n 52 dX11_sum_51 rfl rfl (by decide) ?_
              refine p_getR 0 55 dX11_sum_52 fX11_16 rfl hco ?_
              refine p_iload_n 56 dX11_sum_55 rfl rfl ?_
              refine p_callV1i 25 59 dX11_sum_56 (s_thingsFor (c := 25) rfl (k := q_n (M 127) 0) (v := m) (by omega) (hla.trans e0) (by omega)) lk_X11_122 mX0_thingsFor rfl rfl (by decide) (Nat.le_of_ble_eq_true rfl) ?_
              rintro _ _ ⟨rfl, e9⟩
              have e9 := e9.symm
              subst e9
              refine p_istore 61 dX11_sum_59 (Nat.le_of_ble_eq_true rfl) rfl rfl ?_
              dsimp only [List.set]
              rcases ha : q_rly (q_n (M 127) 0) n with _ | x
              · rcases hb : q_rly (q_n (M 127) 0) m with _ | y
                · rw [show q_opt none = -2 from rfl]
                  skip
                  refine p_iload_n 62 dX11_sum_61 rfl rfl ?_
                  refine p_bipush 64 dX11_sum_62 rfl ?_
                  refine p_icmp_eq 74 67 dX11_sum_64 (by omega) (by omega) (by omega) (by omega) (fun h64 => ?_) (fun h64 => absurd (by omega) (fun h9 : False => h9))
                  refine p_aload_n 75 dX11_sum_74 rfl rfl (by decide) ?_
                  refine p_bipush 77 dX11_sum_75 rfl ?_
                  refine p_callV1i 0 80 dX11_sum_77 s_grant lk_X11_108 mX11_grant rfl rfl (by decide) (Nat.le_of_ble_eq_true rfl) ?_
                  rintro _ _ ⟨rfl, rfl⟩
                  refine p_iret dX11_sum_80 rfl ?_
                  refine ⟨_, rfl, CQ.of hI hF (fun k _ => rfl) ?_ (by unfold pa_sum; (repeat' split) <;> first | rfl | (exfalso; omega)) (by decide)⟩
                  unfold pa_sum
                  rw [if_neg (by omega), if_pos (by omega)]
                  show _ = (match q_rly (q_n (M 127) 0) n, q_rly (q_n (M 127) 0) m with
                    | some a, some b => (q_cnt (q_n (M 127) 0) (a + b) : Int)
                    | _, _ => -2)
                  rw [ha, hb]
                · rw [show q_opt none = -2 from rfl]
                  have ly := q_rly_le _ m m y (Nat.le_refl m) hb
                  rw [show q_opt (some y) = (y : Int) from rfl]
                  refine p_iload_n 62 dX11_sum_61 rfl rfl ?_
                  refine p_bipush 64 dX11_sum_62 rfl ?_
                  refine p_icmp_eq 74 67 dX11_sum_64 (by omega) (by omega) (by omega) (by omega) (fun h64 => ?_) (fun h64 => absurd (by omega) (fun h9 : False => h9))
                  refine p_aload_n 75 dX11_sum_74 rfl rfl (by decide) ?_
                  refine p_bipush 77 dX11_sum_75 rfl ?_
                  refine p_callV1i 0 80 dX11_sum_77 s_grant lk_X11_108 mX11_grant rfl rfl (by decide) (Nat.le_of_ble_eq_true rfl) ?_
                  rintro _ _ ⟨rfl, rfl⟩
                  refine p_iret dX11_sum_80 rfl ?_
                  refine ⟨_, rfl, CQ.of hI hF (fun k _ => rfl) ?_ (by unfold pa_sum; (repeat' split) <;> first | rfl | (exfalso; omega)) (by decide)⟩
                  unfold pa_sum
                  rw [if_neg (by omega), if_pos (by omega)]
                  show _ = (match q_rly (q_n (M 127) 0) n, q_rly (q_n (M 127) 0) m with
                    | some a, some b => (q_cnt (q_n (M 127) 0) (a + b) : Int)
                    | _, _ => -2)
                  rw [ha, hb]
              · rcases hb : q_rly (q_n (M 127) 0) m with _ | y
                · have lx := q_rly_le _ n n x (Nat.le_refl n) ha
                  rw [show q_opt (some x) = (x : Int) from rfl]
                  rw [show q_opt none = -2 from rfl]
                  refine p_iload_n 62 dX11_sum_61 rfl rfl ?_
                  refine p_bipush 64 dX11_sum_62 rfl ?_
                  refine p_icmp_eq 74 67 dX11_sum_64 (by omega) (by omega) (by omega) (by omega) (fun h64 => absurd (by omega) (fun h9 : False => h9)) (fun h64 => ?_)
                  refine p_iload 69 dX11_sum_67 rfl ?_
                  refine p_bipush 71 dX11_sum_69 rfl ?_
                  refine p_icmp_ne 81 74 dX11_sum_71 (by omega) (by omega) (by omega) (by omega) (fun h71 => absurd (by omega) (fun h9 : False => h9)) (fun h71 => ?_)
                  refine p_aload_n 75 dX11_sum_74 rfl rfl (by decide) ?_
                  refine p_bipush 77 dX11_sum_75 rfl ?_
                  refine p_callV1i 0 80 dX11_sum_77 s_grant lk_X11_108 mX11_grant rfl rfl (by decide) (Nat.le_of_ble_eq_true rfl) ?_
                  rintro _ _ ⟨rfl, rfl⟩
                  refine p_iret dX11_sum_80 rfl ?_
                  refine ⟨_, rfl, CQ.of hI hF (fun k _ => rfl) ?_ (by unfold pa_sum; (repeat' split) <;> first | rfl | (exfalso; omega)) (by decide)⟩
                  unfold pa_sum
                  rw [if_neg (by omega), if_pos (by omega)]
                  show _ = (match q_rly (q_n (M 127) 0) n, q_rly (q_n (M 127) 0) m with
                    | some a, some b => (q_cnt (q_n (M 127) 0) (a + b) : Int)
                    | _, _ => -2)
                  rw [ha, hb]
                · have lx := q_rly_le _ n n x (Nat.le_refl n) ha
                  rw [show q_opt (some x) = (x : Int) from rfl]
                  have ly := q_rly_le _ m m y (Nat.le_refl m) hb
                  rw [show q_opt (some y) = (y : Int) from rfl]
                  refine p_iload_n 62 dX11_sum_61 rfl rfl ?_
                  refine p_bipush 64 dX11_sum_62 rfl ?_
                  refine p_icmp_eq 74 67 dX11_sum_64 (by omega) (by omega) (by omega) (by omega) (fun h64 => absurd (by omega) (fun h9 : False => h9)) (fun h64 => ?_)
                  refine p_iload 69 dX11_sum_67 rfl ?_
                  refine p_bipush 71 dX11_sum_69 rfl ?_
                  refine p_icmp_ne 81 74 dX11_sum_71 (by omega) (by omega) (by omega) (by omega) (fun h71 => ?_) (fun h71 => absurd (by omega) (fun h9 : False => h9))
                  refine p_aload_n 82 dX11_sum_81 rfl rfl (by decide) ?_
                  refine p_aload_n 83 dX11_sum_82 rfl rfl (by decide) ?_
                  refine p_getR 0 86 dX11_sum_83 fX11_16 rfl hco ?_
                  refine p_iload_n 87 dX11_sum_86 rfl rfl ?_
                  refine p_iload 89 dX11_sum_87 rfl ?_
                  refine p_iadd 90 dX11_sum_89 ?_
                  rw [show (x : Int) + (y : Int) = ((x + y : Nat) : Int) from by omega]
                  refine p_callV1i 25 93 dX11_sum_90 (s_toldFor (c := 25) rfl (k := q_n (M 127) 0) (v := x + y) (by omega) (hla.trans e0) (by omega)) lk_X11_118 mX0_toldFor rfl rfl (by decide) (Nat.le_of_ble_eq_true rfl) ?_
                  rintro _ _ ⟨rfl, e9⟩
                  have e9 := e9.symm
                  subst e9
                  refine p_callV1i 0 96 dX11_sum_93 s_grant lk_X11_108 mX11_grant rfl rfl (by decide) (Nat.le_of_ble_eq_true rfl) ?_
                  rintro _ _ ⟨rfl, rfl⟩
                  refine p_iret dX11_sum_96 rfl ?_
                  refine ⟨_, rfl, CQ.of hI hF (fun k _ => rfl) ?_ (by unfold pa_sum; (repeat' split) <;> first | rfl | (exfalso; omega)) (by decide)⟩
                  unfold pa_sum
                  rw [if_neg (by omega), if_pos (by omega)]
                  show _ = (match q_rly (q_n (M 127) 0) n, q_rly (q_n (M 127) 0) m with
                    | some a, some b => (q_cnt (q_n (M 127) 0) (a + b) : Int)
                    | _, _ => -2)
                  rw [ha, hb]
            · refine p_aload_n 37 dX11_sum_36 rfl rfl (by decide) ?_
              refine p_iconst 38 dX11_sum_37 ?_
              refine p_callV1i 0 41 dX11_sum_38 s_refuse lk_X11_73 mX11_refuse rfl rfl (by decide) (Nat.le_of_ble_eq_true rfl) ?_
              rintro _ _ ⟨rfl, rfl⟩
              refine p_iret dX11_sum_41 rfl ?_
              exact ⟨_, rfl, CQ.of hI hF (fun k _ => rfl) (by unfold pa_sum; (repeat' split) <;> first | rfl | (exfalso; omega)) (by unfold pa_sum; (repeat' split) <;> first | rfl | (exfalso; omega)) (by decide)⟩
    · refine p_aload_n 11 dX11_sum_10 rfl rfl (by decide) ?_
      refine p_iconst 12 dX11_sum_11 ?_
      refine p_callV1i 0 15 dX11_sum_12 s_refuse lk_X11_73 mX11_refuse rfl rfl (by decide) (Nat.le_of_ble_eq_true rfl) ?_
      rintro _ _ ⟨rfl, rfl⟩
      refine p_iret dX11_sum_15 rfl ?_
      exact ⟨_, rfl, CQ.of hI hF (fun k _ => rfl) (by unfold pa_sum; (repeat' split) <;> first | rfl | (exfalso; omega)) (by unfold pa_sum; (repeat' split) <;> first | rfl | (exfalso; omega)) (by decide)⟩
theorem m_sum {l : Launch} {X : ZX} {M : ZM} (hW : zWm M) (hF : WF M) {v w : Int} (hv1 : -2147483648 ≤ v) (hv2 : v < 2147483648) (hw1 : -2147483648 ≤ w) (hw2 : w < 2147483648) : zCi l X 1 yX12_sum tX12_sum [zr 124, zi v, zi w] M (MQq M (pa_sum (M 124 14) (M 127) v w)) := by
  have hWg : zWm (zset (zset M 124 0 0) 124 11 0) := (hW.set (by decide +kernel)).set (by decide +kernel)
  have hR := hF.r
  have hT := hF.t
  have hh := hF.h
  have e0 : M 127 0 = (q_n (M 127) 0 : Int) := hR.n (by decide)
  have e2 : M 127 2 = (q_n (M 127) 2 : Int) := hR.n (by decide)
  have e3 : M 127 3 = (q_n (M 127) 3 : Int) := hR.n (by decide)
  have e4 : M 127 4 = (q_n (M 127) 4 : Int) := hR.n (by decide)
  have bR := hR.2.1
  have h20 : M 124 14 = 0 → M 127 2 = 0 := fun h => hF.r0 h 2 (by decide)
  have h30 : M 124 14 = 0 → M 127 3 = 0 := fun h => hF.r0 h 3 (by decide)
  have h40 : M 124 14 = 0 → M 127 4 = 0 := fun h => hF.r0 h 4 (by decide)
  refine zC.of [some (zr 124), some (zi v), some (zi w)] (by decide +kernel) rfl rfl (Nat.le_of_ble_eq_true rfl) rfl ?_
  refine p_aload_n 1 dX12_sum_0 rfl rfl (by decide) ?_
  refine p_callV0v 124 4 dX12_sum_1 s_good lk_X12_165 mX12_good rfl rfl (by decide) (Nat.le_of_ble_eq_true rfl) ?_
  rintro _ rfl
  refine p_aload_n 5 dX12_sum_4 rfl rfl (by decide) ?_
  refine p_getI 124 8 dX12_sum_5 fX12_178 rfl ?_
  refine p_if_ne 17 11 dX12_sum_8 (by show _ ≤ M 124 14; omega) (by show M 124 14 < _; omega) (fun h8 => ?_) (fun h8 => ?_)
  · have h8 : ¬ M 124 14 = 0 := h8
    refine p_iload_n 18 dX12_sum_17 rfl rfl ?_
    refine p_iconst 19 dX12_sum_18 ?_
    refine p_ldcw (z := 99999) 22 dX12_sum_19 kk_X12_261 rfl ?_
    refine p_callS3i 25 dX12_sum_22 (s_in (by omega) (by omega) (by omega) (by omega) (by omega) (by omega)) lk_X12_146 mX12_in (by decide) (Nat.le_of_ble_eq_true rfl) ?_
    rintro _ _ ⟨rfl, e9⟩
    have e9 := e9.symm
    subst e9
    refine p_if_eq 39 28 dX12_sum_25 (by split <;> omega) (by split <;> omega) (fun h25 => ?_) (fun h25 => ?_)
    · have h25 := if_eq0 h25
      refine p_aload_n 40 dX12_sum_39 rfl rfl (by decide) ?_
      refine p_iconst 41 dX12_sum_40 ?_
      refine p_callV1i 124 44 dX12_sum_41 s_no lk_X12_168 mX12_no rfl rfl (by decide) (Nat.le_of_ble_eq_true rfl) ?_
      rintro _ _ ⟨rfl, rfl⟩
      refine p_iret dX12_sum_44 rfl ?_
      exact ⟨_, rfl, MQq.of hid_no hW (by unfold pa_sum; (repeat' split) <;> first | rfl | (exfalso; omega)) (by unfold pa_sum; (repeat' split) <;> first | rfl | (exfalso; omega))⟩
    · have h25 := if_neq0 h25
      refine p_iload_n 29 dX12_sum_28 rfl rfl ?_
      refine p_iconst 30 dX12_sum_29 ?_
      refine p_ldcw (z := 99999) 33 dX12_sum_30 kk_X12_261 rfl ?_
      refine p_callS3i 36 dX12_sum_33 (s_in (by omega) (by omega) (by omega) (by omega) (by omega) (by omega)) lk_X12_146 mX12_in (by decide) (Nat.le_of_ble_eq_true rfl) ?_
      rintro _ _ ⟨rfl, e9⟩
      have e9 := e9.symm
      subst e9
      refine p_if_ne 45 39 dX12_sum_36 (by split <;> omega) (by split <;> omega) (fun h36 => ?_) (fun h36 => ?_)
      · have h36 := if_ne0 h36
        obtain ⟨n, rfl⟩ : ∃ k : Nat, v = (k : Int) := ⟨v.toNat, by omega⟩
        obtain ⟨m, rfl⟩ : ∃ k : Nat, w = (k : Int) := ⟨w.toNat, by omega⟩
        rcases ha : q_rly (q_n (M 127) 0) n with _ | x
        · rcases hb : q_rly (q_n (M 127) 0) m with _ | y
          · skip
            refine p_aload_n 46 dX12_sum_45 rfl rfl (by decide) ?_
            refine p_iload_n 47 dX12_sum_46 rfl rfl ?_
            refine p_callV1i 124 50 dX12_sum_47 (s_reallyOf hWg (k := q_n (M 127) 0) (v := n) (by omega) e0 (by omega)) lk_X12_266 mX12_reallyOf rfl rfl (by decide) (Nat.le_of_ble_eq_true rfl) ?_
            rintro _ _ ⟨rfl, e9⟩
            have e9 := e9.symm
            subst e9
            rw [show q_opt (q_rly (q_n (M 127) 0) n) = -2 from by rw [ha]; rfl]
            refine p_if_lt 61 53 dX12_sum_50 (by omega) (by omega) (fun h50 => ?_) (fun h50 => absurd (by omega) (fun h9 : False => h9))
            refine p_bipush 63 dX12_sum_61 rfl ?_
            refine p_goto 81 dX12_sum_63 ?_
            refine p_iret dX12_sum_81 rfl ?_
            refine ⟨_, rfl, MQq.of hid_good hW ?_ (by unfold pa_sum; (repeat' split) <;> first | rfl | (exfalso; omega))⟩
            unfold pa_sum
            rw [if_neg (by omega), if_pos (by omega)]
            show _ = (match q_rly (q_n (M 127) 0) n, q_rly (q_n (M 127) 0) m with
              | some a, some b => (q_cnt (q_n (M 127) 0) (a + b) : Int)
              | _, _ => -2)
            rw [ha, hb]
          · have ly := q_rly_le _ m m y (Nat.le_refl m) hb
            refine p_aload_n 46 dX12_sum_45 rfl rfl (by decide) ?_
            refine p_iload_n 47 dX12_sum_46 rfl rfl ?_
            refine p_callV1i 124 50 dX12_sum_47 (s_reallyOf hWg (k := q_n (M 127) 0) (v := n) (by omega) e0 (by omega)) lk_X12_266 mX12_reallyOf rfl rfl (by decide) (Nat.le_of_ble_eq_true rfl) ?_
            rintro _ _ ⟨rfl, e9⟩
            have e9 := e9.symm
            subst e9
            rw [show q_opt (q_rly (q_n (M 127) 0) n) = -2 from by rw [ha]; rfl]
            refine p_if_lt 61 53 dX12_sum_50 (by omega) (by omega) (fun h50 => ?_) (fun h50 => absurd (by omega) (fun h9 : False => h9))
            refine p_bipush 63 dX12_sum_61 rfl ?_
            refine p_goto 81 dX12_sum_63 ?_
            refine p_iret dX12_sum_81 rfl ?_
            refine ⟨_, rfl, MQq.of hid_good hW ?_ (by unfold pa_sum; (repeat' split) <;> first | rfl | (exfalso; omega))⟩
            unfold pa_sum
            rw [if_neg (by omega), if_pos (by omega)]
            show _ = (match q_rly (q_n (M 127) 0) n, q_rly (q_n (M 127) 0) m with
              | some a, some b => (q_cnt (q_n (M 127) 0) (a + b) : Int)
              | _, _ => -2)
            rw [ha, hb]
        · rcases hb : q_rly (q_n (M 127) 0) m with _ | y
          · have lx := q_rly_le _ n n x (Nat.le_refl n) ha
            refine p_aload_n 46 dX12_sum_45 rfl rfl (by decide) ?_
            refine p_iload_n 47 dX12_sum_46 rfl rfl ?_
            refine p_callV1i 124 50 dX12_sum_47 (s_reallyOf hWg (k := q_n (M 127) 0) (v := n) (by omega) e0 (by omega)) lk_X12_266 mX12_reallyOf rfl rfl (by decide) (Nat.le_of_ble_eq_true rfl) ?_
            rintro _ _ ⟨rfl, e9⟩
            have e9 := e9.symm
            subst e9
            rw [show q_opt (q_rly (q_n (M 127) 0) n) = (x : Int) from by rw [ha]; rfl]
            refine p_if_lt 61 53 dX12_sum_50 (by omega) (by omega) (fun h50 => absurd (by omega) (fun h9 : False => h9)) (fun h50 => ?_)
            refine p_aload_n 54 dX12_sum_53 rfl rfl (by decide) ?_
            refine p_iload_n 55 dX12_sum_54 rfl rfl ?_
            refine p_callV1i 124 58 dX12_sum_55 (s_reallyOf hWg (k := q_n (M 127) 0) (v := m) (by omega) e0 (by omega)) lk_X12_266 mX12_reallyOf rfl rfl (by decide) (Nat.le_of_ble_eq_true rfl) ?_
            rintro _ _ ⟨rfl, e9⟩
            have e9 := e9.symm
            subst e9
            rw [show q_opt (q_rly (q_n (M 127) 0) m) = -2 from by rw [hb]; rfl]
            refine p_if_ge 66 61 dX12_sum_58 (by omega) (by omega) (fun h58 => absurd (by omega) (fun h9 : False => h9)) (fun h58 => ?_)
            refine p_bipush 63 dX12_sum_61 rfl ?_
            refine p_goto 81 dX12_sum_63 ?_
            refine p_iret dX12_sum_81 rfl ?_
            refine ⟨_, rfl, MQq.of hid_good hW ?_ (by unfold pa_sum; (repeat' split) <;> first | rfl | (exfalso; omega))⟩
            unfold pa_sum
            rw [if_neg (by omega), if_pos (by omega)]
            show _ = (match q_rly (q_n (M 127) 0) n, q_rly (q_n (M 127) 0) m with
              | some a, some b => (q_cnt (q_n (M 127) 0) (a + b) : Int)
              | _, _ => -2)
            rw [ha, hb]
          · have lx := q_rly_le _ n n x (Nat.le_refl n) ha
            have ly := q_rly_le _ m m y (Nat.le_refl m) hb
            refine p_aload_n 46 dX12_sum_45 rfl rfl (by decide) ?_
            refine p_iload_n 47 dX12_sum_46 rfl rfl ?_
            refine p_callV1i 124 50 dX12_sum_47 (s_reallyOf hWg (k := q_n (M 127) 0) (v := n) (by omega) e0 (by omega)) lk_X12_266 mX12_reallyOf rfl rfl (by decide) (Nat.le_of_ble_eq_true rfl) ?_
            rintro _ _ ⟨rfl, e9⟩
            have e9 := e9.symm
            subst e9
            rw [show q_opt (q_rly (q_n (M 127) 0) n) = (x : Int) from by rw [ha]; rfl]
            refine p_if_lt 61 53 dX12_sum_50 (by omega) (by omega) (fun h50 => absurd (by omega) (fun h9 : False => h9)) (fun h50 => ?_)
            refine p_aload_n 54 dX12_sum_53 rfl rfl (by decide) ?_
            refine p_iload_n 55 dX12_sum_54 rfl rfl ?_
            refine p_callV1i 124 58 dX12_sum_55 (s_reallyOf hWg (k := q_n (M 127) 0) (v := m) (by omega) e0 (by omega)) lk_X12_266 mX12_reallyOf rfl rfl (by decide) (Nat.le_of_ble_eq_true rfl) ?_
            rintro _ _ ⟨rfl, e9⟩
            have e9 := e9.symm
            subst e9
            rw [show q_opt (q_rly (q_n (M 127) 0) m) = (y : Int) from by rw [hb]; rfl]
            refine p_if_ge 66 61 dX12_sum_58 (by omega) (by omega) (fun h58 => ?_) (fun h58 => absurd (by omega) (fun h9 : False => h9))
            refine p_aload_n 67 dX12_sum_66 rfl rfl (by decide) ?_
            refine p_aload_n 68 dX12_sum_67 rfl rfl (by decide) ?_
            refine p_iload_n 69 dX12_sum_68 rfl rfl ?_
            refine p_callV1i 124 72 dX12_sum_69 (s_reallyOf hWg (k := q_n (M 127) 0) (v := n) (by omega) e0 (by omega)) lk_X12_266 mX12_reallyOf rfl rfl (by decide) (Nat.le_of_ble_eq_true rfl) ?_
            rintro _ _ ⟨rfl, e9⟩
            have e9 := e9.symm
            subst e9
            rw [show q_opt (q_rly (q_n (M 127) 0) n) = (x : Int) from by rw [ha]; rfl]
            refine p_aload_n 73 dX12_sum_72 rfl rfl (by decide) ?_
            refine p_iload_n 74 dX12_sum_73 rfl rfl ?_
            refine p_callV1i 124 77 dX12_sum_74 (s_reallyOf hWg (k := q_n (M 127) 0) (v := m) (by omega) e0 (by omega)) lk_X12_266 mX12_reallyOf rfl rfl (by decide) (Nat.le_of_ble_eq_true rfl) ?_
            rintro _ _ ⟨rfl, e9⟩
            have e9 := e9.symm
            subst e9
            rw [show q_opt (q_rly (q_n (M 127) 0) m) = (y : Int) from by rw [hb]; rfl]
            refine p_iadd 78 dX12_sum_77 ?_
            rw [show (x : Int) + (y : Int) = ((x + y : Nat) : Int) from by omega]
            refine p_callV1i 124 81 dX12_sum_78 (s_countOf hWg (k := q_n (M 127) 0) (v := x + y) (by omega) e0 (by omega)) lk_X12_262 mX12_countOf rfl rfl (by decide) (Nat.le_of_ble_eq_true rfl) ?_
            rintro _ _ ⟨rfl, e9⟩
            have e9 := e9.symm
            subst e9
            refine p_iret dX12_sum_81 rfl ?_
            refine ⟨_, rfl, MQq.of hid_good hW ?_ (by unfold pa_sum; (repeat' split) <;> first | rfl | (exfalso; omega))⟩
            unfold pa_sum
            rw [if_neg (by omega), if_pos (by omega)]
            show _ = (match q_rly (q_n (M 127) 0) n, q_rly (q_n (M 127) 0) m with
              | some a, some b => (q_cnt (q_n (M 127) 0) (a + b) : Int)
              | _, _ => -2)
            rw [ha, hb]
      · have h36 := if_nne0 h36
        refine p_aload_n 40 dX12_sum_39 rfl rfl (by decide) ?_
        refine p_iconst 41 dX12_sum_40 ?_
        refine p_callV1i 124 44 dX12_sum_41 s_no lk_X12_168 mX12_no rfl rfl (by decide) (Nat.le_of_ble_eq_true rfl) ?_
        rintro _ _ ⟨rfl, rfl⟩
        refine p_iret dX12_sum_44 rfl ?_
        exact ⟨_, rfl, MQq.of hid_no hW (by unfold pa_sum; (repeat' split) <;> first | rfl | (exfalso; omega)) (by unfold pa_sum; (repeat' split) <;> first | rfl | (exfalso; omega))⟩
  · have h8 : ¬ M 124 14 ≠ 0 := h8
    refine p_aload_n 12 dX12_sum_11 rfl rfl (by decide) ?_
    refine p_iconst 13 dX12_sum_12 ?_
    refine p_callV1i 124 16 dX12_sum_13 s_no lk_X12_168 mX12_no rfl rfl (by decide) (Nat.le_of_ble_eq_true rfl) ?_
    rintro _ _ ⟨rfl, rfl⟩
    refine p_iret dX12_sum_16 rfl ?_
    exact ⟨_, rfl, MQq.of hid_no hW (by unfold pa_sum; (repeat' split) <;> first | rfl | (exfalso; omega)) (by unfold pa_sum; (repeat' split) <;> first | rfl | (exfalso; omega))⟩
