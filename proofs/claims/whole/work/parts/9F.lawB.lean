/-! THE LAW, CASE BY CASE -/
theorem law_26 {nm : String} {l : Launch} {X : ZX} {p : Program} {e : Env} {s : State} {m : MethodId} {below : List Frame} {meth : Method} {c0 : Code} {b Len u i : Nat} {xs : Nat → Int32} {M : ZM} (B : pz_bd X (tL_law nm) p s m #[Value.ref b] meth c0) (hX : xs_at X s b Len xs) (hu : u ≤ 511) (hi : i + 6 ≤ Len) (hI : Inv M) (K : ∀ M', Inv M' → zX l X (tL_law nm) p e room_1 s m #[Value.ref b] below meth c0 (lw_Z below #[Value.ref b] s) (139 + u) (pz_ss 139 + 6 * u) 1638 [some (zr 4000), some (zr 0), some (zr 124), some (zr 138), some (zi (i : Int)), none, none] [] M') : zX l X (tL_law nm) p e room_1 s m #[Value.ref b] below meth c0 (lw_Z below #[Value.ref b] s) (139 + u) (pz_ss 139 + 6 * u) 1002 [some (zr 4000), some (zr 0), some (zr 124), some (zr 138), some (zi (i : Int)), none, none] [] M := by
  have hk : 139 + u ≤ room_1.cells ∧ pz_ss 139 + 6 * u ≤ room_1.slots := law_hk hu
  refine x_aload_n B 1003 dL_law_1002 rfl rfl (by decide) ?_
  refine x_callV0i B 0 1006 dL_law_1003 (c_rows hI.2.2 hI.1 ) lk_L_128 mX11_rows rfl rfl hk ⟨by decide, by decide⟩ (Nat.le_of_ble_eq_true rfl) ?_
  intro a1 M1 h1
  have up : Up M M1 := h1.2.2
  have hW1 : zWm M1 := up.zWm hI.2.1
  have hF1 : WF M1 := up.wf hI.1
  refine x_aload_n B 1007 dL_law_1006 rfl rfl (by decide) ?_
  refine x_callV0i B 124 1010 dL_law_1007 (m_rows hW1 hF1 ) lk_L_131 mX12_rows rfl rfl hk ⟨by decide, by decide⟩ (Nat.le_of_ble_eq_true rfl) ?_
  intro a2 M2 h2
  rw [up 124 (by decide), up 127 (by decide), up 129 (by decide)] at h2
  obtain ⟨hab, hI2⟩ := Inv.query hI (pb_rows _ _ _) h1 h2
  refine x_eqI B 1638 dL_law_1010 hab ?_
  exact K M2 hI2
theorem law_27 {nm : String} {l : Launch} {X : ZX} {p : Program} {e : Env} {s : State} {m : MethodId} {below : List Frame} {meth : Method} {c0 : Code} {b Len u i : Nat} {xs : Nat → Int32} {M : ZM} (B : pz_bd X (tL_law nm) p s m #[Value.ref b] meth c0) (hX : xs_at X s b Len xs) (hu : u ≤ 511) (hi : i + 6 ≤ Len) (hI : Inv M) (K : ∀ M', Inv M' → zX l X (tL_law nm) p e room_1 s m #[Value.ref b] below meth c0 (lw_Z below #[Value.ref b] s) (139 + u) (pz_ss 139 + 6 * u) 1638 [some (zr 4000), some (zr 0), some (zr 124), some (zr 138), some (zi (i : Int)), none, none] [] M') : zX l X (tL_law nm) p e room_1 s m #[Value.ref b] below meth c0 (lw_Z below #[Value.ref b] s) (139 + u) (pz_ss 139 + 6 * u) 1015 [some (zr 4000), some (zr 0), some (zr 124), some (zr 138), some (zi (i : Int)), none, none] [] M := by
  have hk : 139 + u ≤ room_1.cells ∧ pz_ss 139 + 6 * u ≤ room_1.slots := law_hk hu
  refine x_aload_n B 1016 dL_law_1015 rfl rfl (by decide) ?_
  refine x_callV0i B 0 1019 dL_law_1016 (c_fits hI.2.2 hI.1 ) lk_L_132 mX11_fits rfl rfl hk ⟨by decide, by decide⟩ (Nat.le_of_ble_eq_true rfl) ?_
  intro a1 M1 h1
  have up : Up M M1 := h1.2.2
  have hW1 : zWm M1 := up.zWm hI.2.1
  have hF1 : WF M1 := up.wf hI.1
  refine x_aload_n B 1020 dL_law_1019 rfl rfl (by decide) ?_
  refine x_callV0i B 124 1023 dL_law_1020 (m_fits hW1 hF1 ) lk_L_135 mX12_fits rfl rfl hk ⟨by decide, by decide⟩ (Nat.le_of_ble_eq_true rfl) ?_
  intro a2 M2 h2
  rw [up 124 (by decide), up 127 (by decide)] at h2
  obtain ⟨hab, hI2⟩ := Inv.query hI (pb_fits _ _) h1 h2
  refine x_eqI B 1638 dL_law_1023 hab ?_
  exact K M2 hI2
theorem law_28 {nm : String} {l : Launch} {X : ZX} {p : Program} {e : Env} {s : State} {m : MethodId} {below : List Frame} {meth : Method} {c0 : Code} {b Len u i : Nat} {xs : Nat → Int32} {M : ZM} (B : pz_bd X (tL_law nm) p s m #[Value.ref b] meth c0) (hX : xs_at X s b Len xs) (hu : u ≤ 511) (hi : i + 6 ≤ Len) (hI : Inv M) (K : ∀ M', Inv M' → zX l X (tL_law nm) p e room_1 s m #[Value.ref b] below meth c0 (lw_Z below #[Value.ref b] s) (139 + u) (pz_ss 139 + 6 * u) 1638 [some (zr 4000), some (zr 0), some (zr 124), some (zr 138), some (zi (i : Int)), none, none] [] M') : zX l X (tL_law nm) p e room_1 s m #[Value.ref b] below meth c0 (lw_Z below #[Value.ref b] s) (139 + u) (pz_ss 139 + 6 * u) 1028 [some (zr 4000), some (zr 0), some (zr 124), some (zr 138), some (zi (i : Int)), none, none] [] M := by
  have hk : 139 + u ≤ room_1.cells ∧ pz_ss 139 + 6 * u ≤ room_1.slots := law_hk hu
  refine x_aload_n B 1029 dL_law_1028 rfl rfl (by decide) ?_
  refine x_callV0i B 0 1032 dL_law_1029 (c_could hI.2.2 hI.1 ) lk_L_136 mX11_could rfl rfl hk ⟨by decide, by decide⟩ (Nat.le_of_ble_eq_true rfl) ?_
  intro a1 M1 h1
  have up : Up M M1 := h1.2.2
  have hW1 : zWm M1 := up.zWm hI.2.1
  have hF1 : WF M1 := up.wf hI.1
  refine x_aload_n B 1033 dL_law_1032 rfl rfl (by decide) ?_
  refine x_callV0i B 124 1036 dL_law_1033 (m_could hW1 hF1 ) lk_L_139 mX12_could rfl rfl hk ⟨by decide, by decide⟩ (Nat.le_of_ble_eq_true rfl) ?_
  intro a2 M2 h2
  rw [up 124 (by decide), up 127 (by decide)] at h2
  obtain ⟨hab, hI2⟩ := Inv.query hI (pb_could _ _) h1 h2
  refine x_eqI B 1638 dL_law_1036 hab ?_
  exact K M2 hI2
theorem law_29 {nm : String} {l : Launch} {X : ZX} {p : Program} {e : Env} {s : State} {m : MethodId} {below : List Frame} {meth : Method} {c0 : Code} {b Len u i : Nat} {xs : Nat → Int32} {M : ZM} (B : pz_bd X (tL_law nm) p s m #[Value.ref b] meth c0) (hX : xs_at X s b Len xs) (hu : u ≤ 511) (hi : i + 6 ≤ Len) (hI : Inv M) (K : ∀ M', Inv M' → zX l X (tL_law nm) p e room_1 s m #[Value.ref b] below meth c0 (lw_Z below #[Value.ref b] s) (139 + u) (pz_ss 139 + 6 * u) 1638 [some (zr 4000), some (zr 0), some (zr 124), some (zr 138), some (zi (i : Int)), none, none] [] M') : zX l X (tL_law nm) p e room_1 s m #[Value.ref b] below meth c0 (lw_Z below #[Value.ref b] s) (139 + u) (pz_ss 139 + 6 * u) 1041 [some (zr 4000), some (zr 0), some (zr 124), some (zr 138), some (zi (i : Int)), none, none] [] M := by
  have hk : 139 + u ≤ room_1.cells ∧ pz_ss 139 + 6 * u ≤ room_1.slots := law_hk hu
  refine x_aload_n B 1042 dL_law_1041 rfl rfl (by decide) ?_
  refine x_callV0i B 0 1045 dL_law_1042 (c_surely hI.2.2 hI.1 ) lk_L_140 mX11_surely rfl rfl hk ⟨by decide, by decide⟩ (Nat.le_of_ble_eq_true rfl) ?_
  intro a1 M1 h1
  have up : Up M M1 := h1.2.2
  have hW1 : zWm M1 := up.zWm hI.2.1
  have hF1 : WF M1 := up.wf hI.1
  refine x_aload_n B 1046 dL_law_1045 rfl rfl (by decide) ?_
  refine x_callV0i B 124 1049 dL_law_1046 (m_surely hW1 hF1 ) lk_L_143 mX12_surely rfl rfl hk ⟨by decide, by decide⟩ (Nat.le_of_ble_eq_true rfl) ?_
  intro a2 M2 h2
  rw [up 124 (by decide), up 127 (by decide)] at h2
  obtain ⟨hab, hI2⟩ := Inv.query hI (pb_surely _ _) h1 h2
  refine x_eqI B 1638 dL_law_1049 hab ?_
  exact K M2 hI2
theorem law_30 {nm : String} {l : Launch} {X : ZX} {p : Program} {e : Env} {s : State} {m : MethodId} {below : List Frame} {meth : Method} {c0 : Code} {b Len u i : Nat} {xs : Nat → Int32} {M : ZM} (B : pz_bd X (tL_law nm) p s m #[Value.ref b] meth c0) (hX : xs_at X s b Len xs) (hu : u ≤ 511) (hi : i + 6 ≤ Len) (hI : Inv M) (K : ∀ M', Inv M' → zX l X (tL_law nm) p e room_1 s m #[Value.ref b] below meth c0 (lw_Z below #[Value.ref b] s) (139 + u) (pz_ss 139 + 6 * u) 1638 [some (zr 4000), some (zr 0), some (zr 124), some (zr 138), some (zi (i : Int)), none, none] [] M') : zX l X (tL_law nm) p e room_1 s m #[Value.ref b] below meth c0 (lw_Z below #[Value.ref b] s) (139 + u) (pz_ss 139 + 6 * u) 1054 [some (zr 4000), some (zr 0), some (zr 124), some (zr 138), some (zi (i : Int)), none, none] [] M := by
  have hk : 139 + u ≤ room_1.cells ∧ pz_ss 139 + 6 * u ≤ room_1.slots := law_hk hu
  refine x_aload_n B 1055 dL_law_1054 rfl rfl (by decide) ?_
  refine x_callV0i B 0 1058 dL_law_1055 (c_ask hI.2.2 hI.1 ) lk_L_144 mX11_ask rfl rfl hk ⟨by decide, by decide⟩ (Nat.le_of_ble_eq_true rfl) ?_
  intro a1 M1 h1
  have up : Up M M1 := h1.2.2
  have hW1 : zWm M1 := up.zWm hI.2.1
  have hF1 : WF M1 := up.wf hI.1
  refine x_aload_n B 1059 dL_law_1058 rfl rfl (by decide) ?_
  refine x_callV0i B 124 1062 dL_law_1059 (m_ask hW1 hF1 ) lk_L_147 mX12_ask rfl rfl hk ⟨by decide, by decide⟩ (Nat.le_of_ble_eq_true rfl) ?_
  intro a2 M2 h2
  rw [up 124 (by decide), up 127 (by decide)] at h2
  obtain ⟨hab, hI2⟩ := Inv.query hI (pb_ask _ _) h1 h2
  refine x_eqI B 1638 dL_law_1062 hab ?_
  exact K M2 hI2
theorem law_31 {nm : String} {l : Launch} {X : ZX} {p : Program} {e : Env} {s : State} {m : MethodId} {below : List Frame} {meth : Method} {c0 : Code} {b Len u i : Nat} {xs : Nat → Int32} {M : ZM} (B : pz_bd X (tL_law nm) p s m #[Value.ref b] meth c0) (hX : xs_at X s b Len xs) (hu : u ≤ 511) (hi : i + 6 ≤ Len) (hI : Inv M) (K : ∀ M', Inv M' → zX l X (tL_law nm) p e room_1 s m #[Value.ref b] below meth c0 (lw_Z below #[Value.ref b] s) (139 + u) (pz_ss 139 + 6 * u) 1638 [some (zr 4000), some (zr 0), some (zr 124), some (zr 138), some (zi (i : Int)), none, none] [] M') : zX l X (tL_law nm) p e room_1 s m #[Value.ref b] below meth c0 (lw_Z below #[Value.ref b] s) (139 + u) (pz_ss 139 + 6 * u) 1067 [some (zr 4000), some (zr 0), some (zr 124), some (zr 138), some (zi (i : Int)), none, none] [] M := by
  have hk : 139 + u ≤ room_1.cells ∧ pz_ss 139 + 6 * u ≤ room_1.slots := law_hk hu
  refine x_aload_n B 1068 dL_law_1067 rfl rfl (by decide) ?_
  refine x_callV0i B 0 1071 dL_law_1068 (c_askLeaves hI.2.2 hI.1 ) lk_L_148 mX11_askLeaves rfl rfl hk ⟨by decide, by decide⟩ (Nat.le_of_ble_eq_true rfl) ?_
  intro a1 M1 h1
  have up : Up M M1 := h1.2.2
  have hW1 : zWm M1 := up.zWm hI.2.1
  have hF1 : WF M1 := up.wf hI.1
  refine x_aload_n B 1072 dL_law_1071 rfl rfl (by decide) ?_
  refine x_callV0i B 124 1075 dL_law_1072 (m_askLeaves hW1 hF1 ) lk_L_151 mX12_askLeaves rfl rfl hk ⟨by decide, by decide⟩ (Nat.le_of_ble_eq_true rfl) ?_
  intro a2 M2 h2
  rw [up 124 (by decide), up 127 (by decide)] at h2
  obtain ⟨hab, hI2⟩ := Inv.query hI (pb_askLeaves _ _) h1 h2
  refine x_eqI B 1638 dL_law_1075 hab ?_
  exact K M2 hI2
theorem law_32 {nm : String} {l : Launch} {X : ZX} {p : Program} {e : Env} {s : State} {m : MethodId} {below : List Frame} {meth : Method} {c0 : Code} {b Len u i : Nat} {xs : Nat → Int32} {M : ZM} (B : pz_bd X (tL_law nm) p s m #[Value.ref b] meth c0) (hX : xs_at X s b Len xs) (hu : u ≤ 511) (hi : i + 6 ≤ Len) (hI : Inv M) (K : ∀ M', Inv M' → zX l X (tL_law nm) p e room_1 s m #[Value.ref b] below meth c0 (lw_Z below #[Value.ref b] s) (139 + u) (pz_ss 139 + 6 * u) 1638 [some (zr 4000), some (zr 0), some (zr 124), some (zr 138), some (zi (i : Int)), none, none] [] M') : zX l X (tL_law nm) p e room_1 s m #[Value.ref b] below meth c0 (lw_Z below #[Value.ref b] s) (139 + u) (pz_ss 139 + 6 * u) 1080 [some (zr 4000), some (zr 0), some (zr 124), some (zr 138), some (zi (i : Int)), none, none] [] M := by
  have hk : 139 + u ≤ room_1.cells ∧ pz_ss 139 + 6 * u ≤ room_1.slots := law_hk hu
  refine x_aload_n B 1081 dL_law_1080 rfl rfl (by decide) ?_
  refine x_callV0i B 0 1084 dL_law_1081 (c_judge hI.2.2 hI.1 ) lk_L_152 mX11_judge rfl rfl hk ⟨by decide, by decide⟩ (Nat.le_of_ble_eq_true rfl) ?_
  intro a1 M1 h1
  have up : Up M M1 := h1.2.2
  have hW1 : zWm M1 := up.zWm hI.2.1
  have hF1 : WF M1 := up.wf hI.1
  refine x_aload_n B 1085 dL_law_1084 rfl rfl (by decide) ?_
  refine x_callV0i B 124 1088 dL_law_1085 (m_judge hW1 hF1 ) lk_L_155 mX12_judge rfl rfl hk ⟨by decide, by decide⟩ (Nat.le_of_ble_eq_true rfl) ?_
  intro a2 M2 h2
  rw [up 124 (by decide), up 127 (by decide)] at h2
  obtain ⟨hab, hI2⟩ := Inv.query hI (pb_judge _ _) h1 h2
  refine x_eqI B 1638 dL_law_1088 hab ?_
  exact K M2 hI2
theorem law_33 {nm : String} {l : Launch} {X : ZX} {p : Program} {e : Env} {s : State} {m : MethodId} {below : List Frame} {meth : Method} {c0 : Code} {b Len u i : Nat} {xs : Nat → Int32} {M : ZM} (B : pz_bd X (tL_law nm) p s m #[Value.ref b] meth c0) (hX : xs_at X s b Len xs) (hu : u ≤ 511) (hi : i + 6 ≤ Len) (hI : Inv M) (K : ∀ M', Inv M' → zX l X (tL_law nm) p e room_1 s m #[Value.ref b] below meth c0 (lw_Z below #[Value.ref b] s) (139 + u) (pz_ss 139 + 6 * u) 1638 [some (zr 4000), some (zr 0), some (zr 124), some (zr 138), some (zi (i : Int)), none, none] [] M') : zX l X (tL_law nm) p e room_1 s m #[Value.ref b] below meth c0 (lw_Z below #[Value.ref b] s) (139 + u) (pz_ss 139 + 6 * u) 1093 [some (zr 4000), some (zr 0), some (zr 124), some (zr 138), some (zi (i : Int)), none, none] [] M := by
  have hk : 139 + u ≤ room_1.cells ∧ pz_ss 139 + 6 * u ≤ room_1.slots := law_hk hu
  refine x_aload_n B 1094 dL_law_1093 rfl rfl (by decide) ?_
  refine x_aload_n B 1095 dL_law_1094 rfl rfl (by decide) ?_
  refine x_iload B 1097 dL_law_1095 rfl ?_
  refine x_iconst B 1098 dL_law_1097 ?_
  refine x_iadd B 1099 dL_law_1098 ?_
  refine x_sld B hX 1100 (i + 1) dL_law_1099 rfl (by omega) ?_
  refine x_callV1i B 0 1103 dL_law_1100 (c_together hI.2.2 hI.1 (xs_lo _) (xs_hi _)) lk_L_156 mX11_together rfl rfl hk ⟨by decide, by decide⟩ (Nat.le_of_ble_eq_true rfl) ?_
  intro a1 M1 h1
  have up : Up M M1 := h1.2.2
  have hW1 : zWm M1 := up.zWm hI.2.1
  have hF1 : WF M1 := up.wf hI.1
  refine x_aload_n B 1104 dL_law_1103 rfl rfl (by decide) ?_
  refine x_aload_n B 1105 dL_law_1104 rfl rfl (by decide) ?_
  refine x_iload B 1107 dL_law_1105 rfl ?_
  refine x_iconst B 1108 dL_law_1107 ?_
  refine x_iadd B 1109 dL_law_1108 ?_
  refine x_sld B hX 1110 (i + 1) dL_law_1109 rfl (by omega) ?_
  refine x_callV1i B 124 1113 dL_law_1110 (m_together hW1 hF1 (xs_lo _) (xs_hi _)) lk_L_159 mX12_together rfl rfl hk ⟨by decide, by decide⟩ (Nat.le_of_ble_eq_true rfl) ?_
  intro a2 M2 h2
  rw [up 124 (by decide), up 127 (by decide)] at h2
  obtain ⟨hab, hI2⟩ := Inv.query hI (pb_together _ _ _) h1 h2
  refine x_eqI B 1638 dL_law_1113 hab ?_
  exact K M2 hI2
theorem law_34 {nm : String} {l : Launch} {X : ZX} {p : Program} {e : Env} {s : State} {m : MethodId} {below : List Frame} {meth : Method} {c0 : Code} {b Len u i : Nat} {xs : Nat → Int32} {M : ZM} (B : pz_bd X (tL_law nm) p s m #[Value.ref b] meth c0) (hX : xs_at X s b Len xs) (hu : u ≤ 511) (hi : i + 6 ≤ Len) (hI : Inv M) (K : ∀ M', Inv M' → zX l X (tL_law nm) p e room_1 s m #[Value.ref b] below meth c0 (lw_Z below #[Value.ref b] s) (139 + u) (pz_ss 139 + 6 * u) 1638 [some (zr 4000), some (zr 0), some (zr 124), some (zr 138), some (zi (i : Int)), none, none] [] M') : zX l X (tL_law nm) p e room_1 s m #[Value.ref b] below meth c0 (lw_Z below #[Value.ref b] s) (139 + u) (pz_ss 139 + 6 * u) 1118 [some (zr 4000), some (zr 0), some (zr 124), some (zr 138), some (zi (i : Int)), none, none] [] M := by
  have hk : 139 + u ≤ room_1.cells ∧ pz_ss 139 + 6 * u ≤ room_1.slots := law_hk hu
  refine x_aload_n B 1119 dL_law_1118 rfl rfl (by decide) ?_
  refine x_callV0i B 0 1122 dL_law_1119 (c_clash hI.2.2 hI.1 ) lk_L_160 mX11_clash rfl rfl hk ⟨by decide, by decide⟩ (Nat.le_of_ble_eq_true rfl) ?_
  intro a1 M1 h1
  have up : Up M M1 := h1.2.2
  have hW1 : zWm M1 := up.zWm hI.2.1
  have hF1 : WF M1 := up.wf hI.1
  refine x_aload_n B 1123 dL_law_1122 rfl rfl (by decide) ?_
  refine x_callV0i B 124 1126 dL_law_1123 (m_clash hW1 hF1 ) lk_L_163 mX12_clash rfl rfl hk ⟨by decide, by decide⟩ (Nat.le_of_ble_eq_true rfl) ?_
  intro a2 M2 h2
  rw [up 124 (by decide), up 127 (by decide)] at h2
  obtain ⟨hab, hI2⟩ := Inv.query hI (pb_clash _ _) h1 h2
  refine x_eqI B 1638 dL_law_1126 hab ?_
  exact K M2 hI2
theorem law_35 {nm : String} {l : Launch} {X : ZX} {p : Program} {e : Env} {s : State} {m : MethodId} {below : List Frame} {meth : Method} {c0 : Code} {b Len u i : Nat} {xs : Nat → Int32} {M : ZM} (B : pz_bd X (tL_law nm) p s m #[Value.ref b] meth c0) (hX : xs_at X s b Len xs) (hu : u ≤ 511) (hi : i + 6 ≤ Len) (hI : Inv M) (K : ∀ M', Inv M' → zX l X (tL_law nm) p e room_1 s m #[Value.ref b] below meth c0 (lw_Z below #[Value.ref b] s) (139 + u) (pz_ss 139 + 6 * u) 1638 [some (zr 4000), some (zr 0), some (zr 124), some (zr 138), some (zi (i : Int)), none, none] [] M') : zX l X (tL_law nm) p e room_1 s m #[Value.ref b] below meth c0 (lw_Z below #[Value.ref b] s) (139 + u) (pz_ss 139 + 6 * u) 1131 [some (zr 4000), some (zr 0), some (zr 124), some (zr 138), some (zi (i : Int)), none, none] [] M := by
  have hk : 139 + u ≤ room_1.cells ∧ pz_ss 139 + 6 * u ≤ room_1.slots := law_hk hu
  by_cases hb4 : (xs (i + 4)).toInt = 0
  · refine x_aload_n B 1132 dL_law_1131 rfl rfl (by decide) ?_
    refine x_aload_n B 1133 dL_law_1132 rfl rfl (by decide) ?_
    refine x_iload B 1135 dL_law_1133 rfl ?_
    refine x_iconst B 1136 dL_law_1135 ?_
    refine x_iadd B 1137 dL_law_1136 ?_
    refine x_sld B hX 1138 (i + 1) dL_law_1137 rfl (by omega) ?_
    refine x_aload_n B 1139 dL_law_1138 rfl rfl (by decide) ?_
    refine x_iload B 1141 dL_law_1139 rfl ?_
    refine x_iconst B 1142 dL_law_1141 ?_
    refine x_iadd B 1143 dL_law_1142 ?_
    refine x_sld B hX 1144 (i + 2) dL_law_1143 rfl (by omega) ?_
    refine x_aload_n B 1145 dL_law_1144 rfl rfl (by decide) ?_
    refine x_iload B 1147 dL_law_1145 rfl ?_
    refine x_iconst B 1148 dL_law_1147 ?_
    refine x_iadd B 1149 dL_law_1148 ?_
    refine x_sld B hX 1150 (i + 3) dL_law_1149 rfl (by omega) ?_
    refine x_aload_n B 1151 dL_law_1150 rfl rfl (by decide) ?_
    refine x_iload B 1153 dL_law_1151 rfl ?_
    refine x_iconst B 1154 dL_law_1153 ?_
    refine x_iadd B 1155 dL_law_1154 ?_
    refine x_sld B hX 1156 (i + 4) dL_law_1155 rfl (by omega) ?_
    refine x_if_eq B 1163 1159 dL_law_1156 (xs_lo _) (xs_hi _) (fun _ => ?_) (fun h => absurd hb4 h)
    refine x_iconst B 1164 dL_law_1163 ?_
    refine x_callV4i B 0 1167 dL_law_1164 (c_envoys hI.2.2 hI.1 (xs_lo _) (xs_hi _) (xs_lo _) (xs_hi _) (xs_lo _) (xs_hi _) (Or.inl rfl)) lk_L_164 mX11_envoys rfl rfl hk ⟨by decide, by decide⟩ (Nat.le_of_ble_eq_true rfl) ?_
    intro a1 M1 h1
    have up : Up M M1 := h1.2.2
    have hW1 : zWm M1 := up.zWm hI.2.1
    have hF1 : WF M1 := up.wf hI.1
    refine x_aload_n B 1168 dL_law_1167 rfl rfl (by decide) ?_
    refine x_aload_n B 1169 dL_law_1168 rfl rfl (by decide) ?_
    refine x_iload B 1171 dL_law_1169 rfl ?_
    refine x_iconst B 1172 dL_law_1171 ?_
    refine x_iadd B 1173 dL_law_1172 ?_
    refine x_sld B hX 1174 (i + 1) dL_law_1173 rfl (by omega) ?_
    refine x_aload_n B 1175 dL_law_1174 rfl rfl (by decide) ?_
    refine x_iload B 1177 dL_law_1175 rfl ?_
    refine x_iconst B 1178 dL_law_1177 ?_
    refine x_iadd B 1179 dL_law_1178 ?_
    refine x_sld B hX 1180 (i + 2) dL_law_1179 rfl (by omega) ?_
    refine x_aload_n B 1181 dL_law_1180 rfl rfl (by decide) ?_
    refine x_iload B 1183 dL_law_1181 rfl ?_
    refine x_iconst B 1184 dL_law_1183 ?_
    refine x_iadd B 1185 dL_law_1184 ?_
    refine x_sld B hX 1186 (i + 3) dL_law_1185 rfl (by omega) ?_
    refine x_aload_n B 1187 dL_law_1186 rfl rfl (by decide) ?_
    refine x_iload B 1189 dL_law_1187 rfl ?_
    refine x_iconst B 1190 dL_law_1189 ?_
    refine x_iadd B 1191 dL_law_1190 ?_
    refine x_sld B hX 1192 (i + 4) dL_law_1191 rfl (by omega) ?_
    refine x_if_eq B 1199 1195 dL_law_1192 (xs_lo _) (xs_hi _) (fun _ => ?_) (fun h => absurd hb4 h)
    refine x_iconst B 1200 dL_law_1199 ?_
    refine x_callV4i B 124 1203 dL_law_1200 (m_envoys hW1 hF1 (xs_lo _) (xs_hi _) (xs_lo _) (xs_hi _) (xs_lo _) (xs_hi _) (Or.inl rfl)) lk_L_168 mX12_envoys rfl rfl hk ⟨by decide, by decide⟩ (Nat.le_of_ble_eq_true rfl) ?_
    intro a2 M2 h2
    rw [up 124 (by decide)] at h2
    obtain ⟨hab, hI2⟩ := Inv.query hI (pb_envoys _ _ _ _ _) h1 h2
    refine x_eqI B 1638 dL_law_1203 hab ?_
    exact K M2 hI2
  · refine x_aload_n B 1132 dL_law_1131 rfl rfl (by decide) ?_
    refine x_aload_n B 1133 dL_law_1132 rfl rfl (by decide) ?_
    refine x_iload B 1135 dL_law_1133 rfl ?_
    refine x_iconst B 1136 dL_law_1135 ?_
    refine x_iadd B 1137 dL_law_1136 ?_
    refine x_sld B hX 1138 (i + 1) dL_law_1137 rfl (by omega) ?_
    refine x_aload_n B 1139 dL_law_1138 rfl rfl (by decide) ?_
    refine x_iload B 1141 dL_law_1139 rfl ?_
    refine x_iconst B 1142 dL_law_1141 ?_
    refine x_iadd B 1143 dL_law_1142 ?_
    refine x_sld B hX 1144 (i + 2) dL_law_1143 rfl (by omega) ?_
    refine x_aload_n B 1145 dL_law_1144 rfl rfl (by decide) ?_
    refine x_iload B 1147 dL_law_1145 rfl ?_
    refine x_iconst B 1148 dL_law_1147 ?_
    refine x_iadd B 1149 dL_law_1148 ?_
    refine x_sld B hX 1150 (i + 3) dL_law_1149 rfl (by omega) ?_
    refine x_aload_n B 1151 dL_law_1150 rfl rfl (by decide) ?_
    refine x_iload B 1153 dL_law_1151 rfl ?_
    refine x_iconst B 1154 dL_law_1153 ?_
    refine x_iadd B 1155 dL_law_1154 ?_
    refine x_sld B hX 1156 (i + 4) dL_law_1155 rfl (by omega) ?_
    refine x_if_eq B 1163 1159 dL_law_1156 (xs_lo _) (xs_hi _) (fun h => absurd h hb4) (fun _ => ?_)
    refine x_iconst B 1160 dL_law_1159 ?_
    refine x_goto B 1164 dL_law_1160 ?_
    refine x_callV4i B 0 1167 dL_law_1164 (c_envoys hI.2.2 hI.1 (xs_lo _) (xs_hi _) (xs_lo _) (xs_hi _) (xs_lo _) (xs_hi _) (Or.inr rfl)) lk_L_164 mX11_envoys rfl rfl hk ⟨by decide, by decide⟩ (Nat.le_of_ble_eq_true rfl) ?_
    intro a1 M1 h1
    have up : Up M M1 := h1.2.2
    have hW1 : zWm M1 := up.zWm hI.2.1
    have hF1 : WF M1 := up.wf hI.1
    refine x_aload_n B 1168 dL_law_1167 rfl rfl (by decide) ?_
    refine x_aload_n B 1169 dL_law_1168 rfl rfl (by decide) ?_
    refine x_iload B 1171 dL_law_1169 rfl ?_
    refine x_iconst B 1172 dL_law_1171 ?_
    refine x_iadd B 1173 dL_law_1172 ?_
    refine x_sld B hX 1174 (i + 1) dL_law_1173 rfl (by omega) ?_
    refine x_aload_n B 1175 dL_law_1174 rfl rfl (by decide) ?_
    refine x_iload B 1177 dL_law_1175 rfl ?_
    refine x_iconst B 1178 dL_law_1177 ?_
    refine x_iadd B 1179 dL_law_1178 ?_
    refine x_sld B hX 1180 (i + 2) dL_law_1179 rfl (by omega) ?_
    refine x_aload_n B 1181 dL_law_1180 rfl rfl (by decide) ?_
    refine x_iload B 1183 dL_law_1181 rfl ?_
    refine x_iconst B 1184 dL_law_1183 ?_
    refine x_iadd B 1185 dL_law_1184 ?_
    refine x_sld B hX 1186 (i + 3) dL_law_1185 rfl (by omega) ?_
    refine x_aload_n B 1187 dL_law_1186 rfl rfl (by decide) ?_
    refine x_iload B 1189 dL_law_1187 rfl ?_
    refine x_iconst B 1190 dL_law_1189 ?_
    refine x_iadd B 1191 dL_law_1190 ?_
    refine x_sld B hX 1192 (i + 4) dL_law_1191 rfl (by omega) ?_
    refine x_if_eq B 1199 1195 dL_law_1192 (xs_lo _) (xs_hi _) (fun h => absurd h hb4) (fun _ => ?_)
    refine x_iconst B 1196 dL_law_1195 ?_
    refine x_goto B 1200 dL_law_1196 ?_
    refine x_callV4i B 124 1203 dL_law_1200 (m_envoys hW1 hF1 (xs_lo _) (xs_hi _) (xs_lo _) (xs_hi _) (xs_lo _) (xs_hi _) (Or.inr rfl)) lk_L_168 mX12_envoys rfl rfl hk ⟨by decide, by decide⟩ (Nat.le_of_ble_eq_true rfl) ?_
    intro a2 M2 h2
    rw [up 124 (by decide)] at h2
    obtain ⟨hab, hI2⟩ := Inv.query hI (pb_envoys _ _ _ _ _) h1 h2
    refine x_eqI B 1638 dL_law_1203 hab ?_
    exact K M2 hI2
theorem law_36 {nm : String} {l : Launch} {X : ZX} {p : Program} {e : Env} {s : State} {m : MethodId} {below : List Frame} {meth : Method} {c0 : Code} {b Len u i : Nat} {xs : Nat → Int32} {M : ZM} (B : pz_bd X (tL_law nm) p s m #[Value.ref b] meth c0) (hX : xs_at X s b Len xs) (hu : u ≤ 511) (hi : i + 6 ≤ Len) (hI : Inv M) (K : ∀ M', Inv M' → zX l X (tL_law nm) p e room_1 s m #[Value.ref b] below meth c0 (lw_Z below #[Value.ref b] s) (139 + u) (pz_ss 139 + 6 * u) 1638 [some (zr 4000), some (zr 0), some (zr 124), some (zr 138), some (zi (i : Int)), none, none] [] M') : zX l X (tL_law nm) p e room_1 s m #[Value.ref b] below meth c0 (lw_Z below #[Value.ref b] s) (139 + u) (pz_ss 139 + 6 * u) 1208 [some (zr 4000), some (zr 0), some (zr 124), some (zr 138), some (zi (i : Int)), none, none] [] M := by
  have hk : 139 + u ≤ room_1.cells ∧ pz_ss 139 + 6 * u ≤ room_1.slots := law_hk hu
  refine x_aload_n B 1209 dL_law_1208 rfl rfl (by decide) ?_
  refine x_aload_n B 1210 dL_law_1209 rfl rfl (by decide) ?_
  refine x_iload B 1212 dL_law_1210 rfl ?_
  refine x_iconst B 1213 dL_law_1212 ?_
  refine x_iadd B 1214 dL_law_1213 ?_
  refine x_sld B hX 1215 (i + 1) dL_law_1214 rfl (by omega) ?_
  refine x_callV1i B 0 1218 dL_law_1215 (c_rests hI.2.2 hI.1 (xs_lo _) (xs_hi _)) lk_L_169 mX11_rests rfl rfl hk ⟨by decide, by decide⟩ (Nat.le_of_ble_eq_true rfl) ?_
  intro a1 M1 h1
  have up : Up M M1 := h1.2.2
  have hW1 : zWm M1 := up.zWm hI.2.1
  have hF1 : WF M1 := up.wf hI.1
  refine x_aload_n B 1219 dL_law_1218 rfl rfl (by decide) ?_
  refine x_aload_n B 1220 dL_law_1219 rfl rfl (by decide) ?_
  refine x_iload B 1222 dL_law_1220 rfl ?_
  refine x_iconst B 1223 dL_law_1222 ?_
  refine x_iadd B 1224 dL_law_1223 ?_
  refine x_sld B hX 1225 (i + 1) dL_law_1224 rfl (by omega) ?_
  refine x_callV1i B 124 1228 dL_law_1225 (m_rests hW1 hF1 (xs_lo _) (xs_hi _)) lk_L_172 mX12_rests rfl rfl hk ⟨by decide, by decide⟩ (Nat.le_of_ble_eq_true rfl) ?_
  intro a2 M2 h2
  rw [up 124 (by decide)] at h2
  obtain ⟨hab, hI2⟩ := Inv.query hI (pb_rests _ _) h1 h2
  refine x_eqI B 1638 dL_law_1228 hab ?_
  exact K M2 hI2
theorem law_37 {nm : String} {l : Launch} {X : ZX} {p : Program} {e : Env} {s : State} {m : MethodId} {below : List Frame} {meth : Method} {c0 : Code} {b Len u i : Nat} {xs : Nat → Int32} {M : ZM} (B : pz_bd X (tL_law nm) p s m #[Value.ref b] meth c0) (hX : xs_at X s b Len xs) (hu : u ≤ 511) (hi : i + 6 ≤ Len) (hI : Inv M) (K : ∀ M', Inv M' → zX l X (tL_law nm) p e room_1 s m #[Value.ref b] below meth c0 (lw_Z below #[Value.ref b] s) (139 + u) (pz_ss 139 + 6 * u) 1638 [some (zr 4000), some (zr 0), some (zr 124), some (zr 138), some (zi (i : Int)), none, none] [] M') : zX l X (tL_law nm) p e room_1 s m #[Value.ref b] below meth c0 (lw_Z below #[Value.ref b] s) (139 + u) (pz_ss 139 + 6 * u) 1233 [some (zr 4000), some (zr 0), some (zr 124), some (zr 138), some (zi (i : Int)), none, none] [] M := by
  have hk : 139 + u ≤ room_1.cells ∧ pz_ss 139 + 6 * u ≤ room_1.slots := law_hk hu
  refine x_aload_n B 1234 dL_law_1233 rfl rfl (by decide) ?_
  refine x_aload_n B 1235 dL_law_1234 rfl rfl (by decide) ?_
  refine x_iload B 1237 dL_law_1235 rfl ?_
  refine x_iconst B 1238 dL_law_1237 ?_
  refine x_iadd B 1239 dL_law_1238 ?_
  refine x_sld B hX 1240 (i + 1) dL_law_1239 rfl (by omega) ?_
  refine x_callV1i B 0 1243 dL_law_1240 (c_rest hI.2.2 hI.1 (xs_lo _) (xs_hi _)) lk_L_173 mX11_rest rfl rfl hk ⟨by decide, by decide⟩ (Nat.le_of_ble_eq_true rfl) ?_
  intro a1 M1 h1
  have up : Up M M1 := h1.2.2
  have hW1 : zWm M1 := up.zWm hI.2.1
  have hF1 : WF M1 := up.wf hI.1
  refine x_aload_n B 1244 dL_law_1243 rfl rfl (by decide) ?_
  refine x_aload_n B 1245 dL_law_1244 rfl rfl (by decide) ?_
  refine x_iload B 1247 dL_law_1245 rfl ?_
  refine x_iconst B 1248 dL_law_1247 ?_
  refine x_iadd B 1249 dL_law_1248 ?_
  refine x_sld B hX 1250 (i + 1) dL_law_1249 rfl (by omega) ?_
  refine x_callV1i B 124 1253 dL_law_1250 (m_rest hW1 hF1 (xs_lo _) (xs_hi _)) lk_L_176 mX12_rest rfl rfl hk ⟨by decide, by decide⟩ (Nat.le_of_ble_eq_true rfl) ?_
  intro a2 M2 h2
  rw [up 124 (by decide)] at h2
  obtain ⟨hab, hI2⟩ := Inv.query hI (pb_rest _ _) h1 h2
  refine x_eqI B 1638 dL_law_1253 hab ?_
  exact K M2 hI2
theorem law_38 {nm : String} {l : Launch} {X : ZX} {p : Program} {e : Env} {s : State} {m : MethodId} {below : List Frame} {meth : Method} {c0 : Code} {b Len u i : Nat} {xs : Nat → Int32} {M : ZM} (B : pz_bd X (tL_law nm) p s m #[Value.ref b] meth c0) (hX : xs_at X s b Len xs) (hu : u ≤ 511) (hi : i + 6 ≤ Len) (hI : Inv M) (K : ∀ M', Inv M' → zX l X (tL_law nm) p e room_1 s m #[Value.ref b] below meth c0 (lw_Z below #[Value.ref b] s) (139 + u) (pz_ss 139 + 6 * u) 1638 [some (zr 4000), some (zr 0), some (zr 124), some (zr 138), some (zi (i : Int)), none, none] [] M') : zX l X (tL_law nm) p e room_1 s m #[Value.ref b] below meth c0 (lw_Z below #[Value.ref b] s) (139 + u) (pz_ss 139 + 6 * u) 1258 [some (zr 4000), some (zr 0), some (zr 124), some (zr 138), some (zi (i : Int)), none, none] [] M := by
  have hk : 139 + u ≤ room_1.cells ∧ pz_ss 139 + 6 * u ≤ room_1.slots := law_hk hu
  refine x_aload_n B 1259 dL_law_1258 rfl rfl (by decide) ?_
  refine x_aload_n B 1260 dL_law_1259 rfl rfl (by decide) ?_
  refine x_iload B 1262 dL_law_1260 rfl ?_
  refine x_iconst B 1263 dL_law_1262 ?_
  refine x_iadd B 1264 dL_law_1263 ?_
  refine x_sld B hX 1265 (i + 1) dL_law_1264 rfl (by omega) ?_
  refine x_aload_n B 1266 dL_law_1265 rfl rfl (by decide) ?_
  refine x_iload B 1268 dL_law_1266 rfl ?_
  refine x_iconst B 1269 dL_law_1268 ?_
  refine x_iadd B 1270 dL_law_1269 ?_
  refine x_sld B hX 1271 (i + 2) dL_law_1270 rfl (by omega) ?_
  refine x_callV2i B 0 1274 dL_law_1271 (c_winters hI.2.2 hI.1 (xs_lo _) (xs_hi _) (xs_lo _) (xs_hi _)) lk_L_177 mX11_winters rfl rfl hk ⟨by decide, by decide⟩ (Nat.le_of_ble_eq_true rfl) ?_
  intro a1 M1 h1
  have up : Up M M1 := h1.2.2
  have hW1 : zWm M1 := up.zWm hI.2.1
  have hF1 : WF M1 := up.wf hI.1
  refine x_aload_n B 1275 dL_law_1274 rfl rfl (by decide) ?_
  refine x_aload_n B 1276 dL_law_1275 rfl rfl (by decide) ?_
  refine x_iload B 1278 dL_law_1276 rfl ?_
  refine x_iconst B 1279 dL_law_1278 ?_
  refine x_iadd B 1280 dL_law_1279 ?_
  refine x_sld B hX 1281 (i + 1) dL_law_1280 rfl (by omega) ?_
  refine x_aload_n B 1282 dL_law_1281 rfl rfl (by decide) ?_
  refine x_iload B 1284 dL_law_1282 rfl ?_
  refine x_iconst B 1285 dL_law_1284 ?_
  refine x_iadd B 1286 dL_law_1285 ?_
  refine x_sld B hX 1287 (i + 2) dL_law_1286 rfl (by omega) ?_
  refine x_callV2i B 124 1290 dL_law_1287 (m_winters hW1 hF1 (xs_lo _) (xs_hi _) (xs_lo _) (xs_hi _)) lk_L_180 mX12_winters rfl rfl hk ⟨by decide, by decide⟩ (Nat.le_of_ble_eq_true rfl) ?_
  intro a2 M2 h2
  rw [up 124 (by decide), up 127 (by decide), up 129 (by decide)] at h2
  obtain ⟨hab, hI2⟩ := Inv.query hI (pb_winters _ _ _ _ _) h1 h2
  refine x_eqI B 1638 dL_law_1290 hab ?_
  exact K M2 hI2
theorem law_39 {nm : String} {l : Launch} {X : ZX} {p : Program} {e : Env} {s : State} {m : MethodId} {below : List Frame} {meth : Method} {c0 : Code} {b Len u i : Nat} {xs : Nat → Int32} {M : ZM} (B : pz_bd X (tL_law nm) p s m #[Value.ref b] meth c0) (hX : xs_at X s b Len xs) (hu : u ≤ 511) (hi : i + 6 ≤ Len) (hI : Inv M) (K : ∀ M', Inv M' → zX l X (tL_law nm) p e room_1 s m #[Value.ref b] below meth c0 (lw_Z below #[Value.ref b] s) (139 + u) (pz_ss 139 + 6 * u) 1638 [some (zr 4000), some (zr 0), some (zr 124), some (zr 138), some (zi (i : Int)), none, none] [] M') : zX l X (tL_law nm) p e room_1 s m #[Value.ref b] below meth c0 (lw_Z below #[Value.ref b] s) (139 + u) (pz_ss 139 + 6 * u) 1295 [some (zr 4000), some (zr 0), some (zr 124), some (zr 138), some (zi (i : Int)), none, none] [] M := by
  have hk : 139 + u ≤ room_1.cells ∧ pz_ss 139 + 6 * u ≤ room_1.slots := law_hk hu
  refine x_aload_n B 1296 dL_law_1295 rfl rfl (by decide) ?_
  refine x_aload_n B 1297 dL_law_1296 rfl rfl (by decide) ?_
  refine x_iload B 1299 dL_law_1297 rfl ?_
  refine x_iconst B 1300 dL_law_1299 ?_
  refine x_iadd B 1301 dL_law_1300 ?_
  refine x_sld B hX 1302 (i + 1) dL_law_1301 rfl (by omega) ?_
  refine x_aload_n B 1303 dL_law_1302 rfl rfl (by decide) ?_
  refine x_iload B 1305 dL_law_1303 rfl ?_
  refine x_iconst B 1306 dL_law_1305 ?_
  refine x_iadd B 1307 dL_law_1306 ?_
  refine x_sld B hX 1308 (i + 2) dL_law_1307 rfl (by omega) ?_
  refine x_aload_n B 1309 dL_law_1308 rfl rfl (by decide) ?_
  refine x_iload B 1311 dL_law_1309 rfl ?_
  refine x_iconst B 1312 dL_law_1311 ?_
  refine x_iadd B 1313 dL_law_1312 ?_
  refine x_sld B hX 1314 (i + 3) dL_law_1313 rfl (by omega) ?_
  refine x_callV3i B 0 1317 dL_law_1314 (c_wintersOf hI.2.2 hI.1 (xs_lo _) (xs_hi _) (xs_lo _) (xs_hi _) (xs_lo _) (xs_hi _)) lk_L_181 mX11_wintersOf rfl rfl hk ⟨by decide, by decide⟩ (Nat.le_of_ble_eq_true rfl) ?_
  intro a1 M1 h1
  have up : Up M M1 := h1.2.2
  have hW1 : zWm M1 := up.zWm hI.2.1
  have hF1 : WF M1 := up.wf hI.1
  refine x_aload_n B 1318 dL_law_1317 rfl rfl (by decide) ?_
  refine x_aload_n B 1319 dL_law_1318 rfl rfl (by decide) ?_
  refine x_iload B 1321 dL_law_1319 rfl ?_
  refine x_iconst B 1322 dL_law_1321 ?_
  refine x_iadd B 1323 dL_law_1322 ?_
  refine x_sld B hX 1324 (i + 1) dL_law_1323 rfl (by omega) ?_
  refine x_aload_n B 1325 dL_law_1324 rfl rfl (by decide) ?_
  refine x_iload B 1327 dL_law_1325 rfl ?_
  refine x_iconst B 1328 dL_law_1327 ?_
  refine x_iadd B 1329 dL_law_1328 ?_
  refine x_sld B hX 1330 (i + 2) dL_law_1329 rfl (by omega) ?_
  refine x_aload_n B 1331 dL_law_1330 rfl rfl (by decide) ?_
  refine x_iload B 1333 dL_law_1331 rfl ?_
  refine x_iconst B 1334 dL_law_1333 ?_
  refine x_iadd B 1335 dL_law_1334 ?_
  refine x_sld B hX 1336 (i + 3) dL_law_1335 rfl (by omega) ?_
  refine x_callV3i B 124 1339 dL_law_1336 (m_wintersOf hW1 hF1 (xs_lo _) (xs_hi _) (xs_lo _) (xs_hi _) (xs_lo _) (xs_hi _)) lk_L_185 mX12_wintersOf rfl rfl hk ⟨by decide, by decide⟩ (Nat.le_of_ble_eq_true rfl) ?_
  intro a2 M2 h2
  rw [up 124 (by decide), up 127 (by decide), up 129 (by decide)] at h2
  obtain ⟨hab, hI2⟩ := Inv.query hI (pb_wintersOf _ _ _ _ _ _) h1 h2
  refine x_eqI B 1638 dL_law_1339 hab ?_
  exact K M2 hI2
theorem law_40 {nm : String} {l : Launch} {X : ZX} {p : Program} {e : Env} {s : State} {m : MethodId} {below : List Frame} {meth : Method} {c0 : Code} {b Len u i : Nat} {xs : Nat → Int32} {M : ZM} (B : pz_bd X (tL_law nm) p s m #[Value.ref b] meth c0) (hX : xs_at X s b Len xs) (hu : u ≤ 511) (hi : i + 6 ≤ Len) (hI : Inv M) (K : ∀ M', Inv M' → zX l X (tL_law nm) p e room_1 s m #[Value.ref b] below meth c0 (lw_Z below #[Value.ref b] s) (139 + u) (pz_ss 139 + 6 * u) 1638 [some (zr 4000), some (zr 0), some (zr 124), some (zr 138), some (zi (i : Int)), none, none] [] M') : zX l X (tL_law nm) p e room_1 s m #[Value.ref b] below meth c0 (lw_Z below #[Value.ref b] s) (139 + u) (pz_ss 139 + 6 * u) 1344 [some (zr 4000), some (zr 0), some (zr 124), some (zr 138), some (zi (i : Int)), none, none] [] M := by
  have hk : 139 + u ≤ room_1.cells ∧ pz_ss 139 + 6 * u ≤ room_1.slots := law_hk hu
  refine x_aload_n B 1345 dL_law_1344 rfl rfl (by decide) ?_
  refine x_aload_n B 1346 dL_law_1345 rfl rfl (by decide) ?_
  refine x_iload B 1348 dL_law_1346 rfl ?_
  refine x_iconst B 1349 dL_law_1348 ?_
  refine x_iadd B 1350 dL_law_1349 ?_
  refine x_sld B hX 1351 (i + 1) dL_law_1350 rfl (by omega) ?_
  refine x_aload_n B 1352 dL_law_1351 rfl rfl (by decide) ?_
  refine x_iload B 1354 dL_law_1352 rfl ?_
  refine x_iconst B 1355 dL_law_1354 ?_
  refine x_iadd B 1356 dL_law_1355 ?_
  refine x_sld B hX 1357 (i + 2) dL_law_1356 rfl (by omega) ?_
  refine x_aload_n B 1358 dL_law_1357 rfl rfl (by decide) ?_
  refine x_iload B 1360 dL_law_1358 rfl ?_
  refine x_iconst B 1361 dL_law_1360 ?_
  refine x_iadd B 1362 dL_law_1361 ?_
  refine x_sld B hX 1363 (i + 3) dL_law_1362 rfl (by omega) ?_
  refine x_callV3i B 0 1366 dL_law_1363 (c_above hI.2.2 hI.1 (xs_lo _) (xs_hi _) (xs_lo _) (xs_hi _) (xs_lo _) (xs_hi _)) lk_L_186 mX11_above rfl rfl hk ⟨by decide, by decide⟩ (Nat.le_of_ble_eq_true rfl) ?_
  intro a1 M1 h1
  have up : Up M M1 := h1.2.2
  have hW1 : zWm M1 := up.zWm hI.2.1
  have hF1 : WF M1 := up.wf hI.1
  refine x_aload_n B 1367 dL_law_1366 rfl rfl (by decide) ?_
  refine x_aload_n B 1368 dL_law_1367 rfl rfl (by decide) ?_
  refine x_iload B 1370 dL_law_1368 rfl ?_
  refine x_iconst B 1371 dL_law_1370 ?_
  refine x_iadd B 1372 dL_law_1371 ?_
  refine x_sld B hX 1373 (i + 1) dL_law_1372 rfl (by omega) ?_
  refine x_aload_n B 1374 dL_law_1373 rfl rfl (by decide) ?_
  refine x_iload B 1376 dL_law_1374 rfl ?_
  refine x_iconst B 1377 dL_law_1376 ?_
  refine x_iadd B 1378 dL_law_1377 ?_
  refine x_sld B hX 1379 (i + 2) dL_law_1378 rfl (by omega) ?_
  refine x_aload_n B 1380 dL_law_1379 rfl rfl (by decide) ?_
  refine x_iload B 1382 dL_law_1380 rfl ?_
  refine x_iconst B 1383 dL_law_1382 ?_
  refine x_iadd B 1384 dL_law_1383 ?_
  refine x_sld B hX 1385 (i + 3) dL_law_1384 rfl (by omega) ?_
  refine x_callV3i B 124 1388 dL_law_1385 (m_above hW1 hF1 (xs_lo _) (xs_hi _) (xs_lo _) (xs_hi _) (xs_lo _) (xs_hi _)) lk_L_189 mX12_above rfl rfl hk ⟨by decide, by decide⟩ (Nat.le_of_ble_eq_true rfl) ?_
  intro a2 M2 h2
  rw [up 124 (by decide), up 127 (by decide), up 129 (by decide)] at h2
  obtain ⟨hab, hI2⟩ := Inv.query hI (pb_above _ _ _ _ _ _) h1 h2
  refine x_eqI B 1638 dL_law_1388 hab ?_
  exact K M2 hI2
theorem law_41 {nm : String} {l : Launch} {X : ZX} {p : Program} {e : Env} {s : State} {m : MethodId} {below : List Frame} {meth : Method} {c0 : Code} {b Len u i : Nat} {xs : Nat → Int32} {M : ZM} (B : pz_bd X (tL_law nm) p s m #[Value.ref b] meth c0) (hX : xs_at X s b Len xs) (hu : u ≤ 511) (hi : i + 6 ≤ Len) (hI : Inv M) (K : ∀ M', Inv M' → zX l X (tL_law nm) p e room_1 s m #[Value.ref b] below meth c0 (lw_Z below #[Value.ref b] s) (139 + u) (pz_ss 139 + 6 * u) 1638 [some (zr 4000), some (zr 0), some (zr 124), some (zr 138), some (zi (i : Int)), none, none] [] M') : zX l X (tL_law nm) p e room_1 s m #[Value.ref b] below meth c0 (lw_Z below #[Value.ref b] s) (139 + u) (pz_ss 139 + 6 * u) 1393 [some (zr 4000), some (zr 0), some (zr 124), some (zr 138), some (zi (i : Int)), none, none] [] M := by
  have hk : 139 + u ≤ room_1.cells ∧ pz_ss 139 + 6 * u ≤ room_1.slots := law_hk hu
  refine x_aload_n B 1394 dL_law_1393 rfl rfl (by decide) ?_
  refine x_aload_n B 1395 dL_law_1394 rfl rfl (by decide) ?_
  refine x_iload B 1397 dL_law_1395 rfl ?_
  refine x_iconst B 1398 dL_law_1397 ?_
  refine x_iadd B 1399 dL_law_1398 ?_
  refine x_sld B hX 1400 (i + 1) dL_law_1399 rfl (by omega) ?_
  refine x_aload_n B 1401 dL_law_1400 rfl rfl (by decide) ?_
  refine x_iload B 1403 dL_law_1401 rfl ?_
  refine x_iconst B 1404 dL_law_1403 ?_
  refine x_iadd B 1405 dL_law_1404 ?_
  refine x_sld B hX 1406 (i + 2) dL_law_1405 rfl (by omega) ?_
  refine x_callV2i B 0 1409 dL_law_1406 (c_tend hI.2.2 hI.1 (xs_lo _) (xs_hi _) (xs_lo _) (xs_hi _)) lk_L_190 mX11_tend rfl rfl hk ⟨by decide, by decide⟩ (Nat.le_of_ble_eq_true rfl) ?_
  intro a1 M1 h1
  have up : Up M M1 := h1.2.2
  have hW1 : zWm M1 := up.zWm hI.2.1
  have hF1 : WF M1 := up.wf hI.1
  refine x_aload_n B 1410 dL_law_1409 rfl rfl (by decide) ?_
  refine x_aload_n B 1411 dL_law_1410 rfl rfl (by decide) ?_
  refine x_iload B 1413 dL_law_1411 rfl ?_
  refine x_iconst B 1414 dL_law_1413 ?_
  refine x_iadd B 1415 dL_law_1414 ?_
  refine x_sld B hX 1416 (i + 1) dL_law_1415 rfl (by omega) ?_
  refine x_aload_n B 1417 dL_law_1416 rfl rfl (by decide) ?_
  refine x_iload B 1419 dL_law_1417 rfl ?_
  refine x_iconst B 1420 dL_law_1419 ?_
  refine x_iadd B 1421 dL_law_1420 ?_
  refine x_sld B hX 1422 (i + 2) dL_law_1421 rfl (by omega) ?_
  refine x_callV2i B 124 1425 dL_law_1422 (m_tend hW1 hF1 (xs_lo _) (xs_hi _) (xs_lo _) (xs_hi _)) lk_L_194 mX12_tend rfl rfl hk ⟨by decide, by decide⟩ (Nat.le_of_ble_eq_true rfl) ?_
  intro a2 M2 h2
  obtain ⟨hab, hI2⟩ := Inv.act (WF.tend hI.1 _ _) (up_tend up _ _) h1 h2
  refine x_eqI B 1638 dL_law_1425 hab ?_
  exact K M2 hI2
theorem law_42 {nm : String} {l : Launch} {X : ZX} {p : Program} {e : Env} {s : State} {m : MethodId} {below : List Frame} {meth : Method} {c0 : Code} {b Len u i : Nat} {xs : Nat → Int32} {M : ZM} (B : pz_bd X (tL_law nm) p s m #[Value.ref b] meth c0) (hX : xs_at X s b Len xs) (hu : u ≤ 511) (hi : i + 6 ≤ Len) (hI : Inv M) (K : ∀ M', Inv M' → zX l X (tL_law nm) p e room_1 s m #[Value.ref b] below meth c0 (lw_Z below #[Value.ref b] s) (139 + u) (pz_ss 139 + 6 * u) 1638 [some (zr 4000), some (zr 0), some (zr 124), some (zr 138), some (zi (i : Int)), none, none] [] M') : zX l X (tL_law nm) p e room_1 s m #[Value.ref b] below meth c0 (lw_Z below #[Value.ref b] s) (139 + u) (pz_ss 139 + 6 * u) 1430 [some (zr 4000), some (zr 0), some (zr 124), some (zr 138), some (zi (i : Int)), none, none] [] M := by
  have hk : 139 + u ≤ room_1.cells ∧ pz_ss 139 + 6 * u ≤ room_1.slots := law_hk hu
  refine x_aload_n B 1431 dL_law_1430 rfl rfl (by decide) ?_
  refine x_callV0i B 0 1434 dL_law_1431 (c_day hI.2.2 hI.1 ) lk_L_195 mX11_day rfl rfl hk ⟨by decide, by decide⟩ (Nat.le_of_ble_eq_true rfl) ?_
  intro a1 M1 h1
  have up : Up M M1 := h1.2.2
  have hW1 : zWm M1 := up.zWm hI.2.1
  have hF1 : WF M1 := up.wf hI.1
  refine x_aload_n B 1435 dL_law_1434 rfl rfl (by decide) ?_
  refine x_callV0i B 124 1438 dL_law_1435 (m_day hW1 hF1 ) lk_L_198 mX12_day rfl rfl hk ⟨by decide, by decide⟩ (Nat.le_of_ble_eq_true rfl) ?_
  intro a2 M2 h2
  obtain ⟨hab, hI2⟩ := Inv.act (WF.day hI.1 ) (up_day up ) h1 h2
  refine x_eqI B 1638 dL_law_1438 hab ?_
  exact K M2 hI2
theorem law_43 {nm : String} {l : Launch} {X : ZX} {p : Program} {e : Env} {s : State} {m : MethodId} {below : List Frame} {meth : Method} {c0 : Code} {b Len u i : Nat} {xs : Nat → Int32} {M : ZM} (B : pz_bd X (tL_law nm) p s m #[Value.ref b] meth c0) (hX : xs_at X s b Len xs) (hu : u ≤ 511) (hi : i + 6 ≤ Len) (hI : Inv M) (K : ∀ M', Inv M' → zX l X (tL_law nm) p e room_1 s m #[Value.ref b] below meth c0 (lw_Z below #[Value.ref b] s) (139 + u) (pz_ss 139 + 6 * u) 1638 [some (zr 4000), some (zr 0), some (zr 124), some (zr 138), some (zi (i : Int)), none, none] [] M') : zX l X (tL_law nm) p e room_1 s m #[Value.ref b] below meth c0 (lw_Z below #[Value.ref b] s) (139 + u) (pz_ss 139 + 6 * u) 1443 [some (zr 4000), some (zr 0), some (zr 124), some (zr 138), some (zi (i : Int)), none, none] [] M := by
  have hk : 139 + u ≤ room_1.cells ∧ pz_ss 139 + 6 * u ≤ room_1.slots := law_hk hu
  refine x_aload_n B 1444 dL_law_1443 rfl rfl (by decide) ?_
  refine x_aload_n B 1445 dL_law_1444 rfl rfl (by decide) ?_
  refine x_iload B 1447 dL_law_1445 rfl ?_
  refine x_iconst B 1448 dL_law_1447 ?_
  refine x_iadd B 1449 dL_law_1448 ?_
  refine x_sld B hX 1450 (i + 1) dL_law_1449 rfl (by omega) ?_
  refine x_callV1i B 0 1453 dL_law_1450 (c_say hI.2.2 hI.1 (xs_lo _) (xs_hi _)) lk_L_199 mX11_say rfl rfl hk ⟨by decide, by decide⟩ (Nat.le_of_ble_eq_true rfl) ?_
  intro a1 M1 h1
  have up : Up M M1 := h1.2.2
  have hW1 : zWm M1 := up.zWm hI.2.1
  have hF1 : WF M1 := up.wf hI.1
  refine x_aload_n B 1454 dL_law_1453 rfl rfl (by decide) ?_
  refine x_aload_n B 1455 dL_law_1454 rfl rfl (by decide) ?_
  refine x_iload B 1457 dL_law_1455 rfl ?_
  refine x_iconst B 1458 dL_law_1457 ?_
  refine x_iadd B 1459 dL_law_1458 ?_
  refine x_sld B hX 1460 (i + 1) dL_law_1459 rfl (by omega) ?_
  refine x_callV1i B 124 1463 dL_law_1460 (m_say hW1 hF1 (xs_lo _) (xs_hi _)) lk_L_202 mX12_say rfl rfl hk ⟨by decide, by decide⟩ (Nat.le_of_ble_eq_true rfl) ?_
  intro a2 M2 h2
  obtain ⟨hab, hI2⟩ := Inv.act (WF.say hI.1 _) (up_say up _) h1 h2
  refine x_eqI B 1638 dL_law_1463 hab ?_
  exact K M2 hI2
theorem law_44 {nm : String} {l : Launch} {X : ZX} {p : Program} {e : Env} {s : State} {m : MethodId} {below : List Frame} {meth : Method} {c0 : Code} {b Len u i : Nat} {xs : Nat → Int32} {M : ZM} (B : pz_bd X (tL_law nm) p s m #[Value.ref b] meth c0) (hX : xs_at X s b Len xs) (hu : u ≤ 511) (hi : i + 6 ≤ Len) (hI : Inv M) (K : ∀ M', Inv M' → zX l X (tL_law nm) p e room_1 s m #[Value.ref b] below meth c0 (lw_Z below #[Value.ref b] s) (139 + u) (pz_ss 139 + 6 * u) 1638 [some (zr 4000), some (zr 0), some (zr 124), some (zr 138), some (zi (i : Int)), none, none] [] M') : zX l X (tL_law nm) p e room_1 s m #[Value.ref b] below meth c0 (lw_Z below #[Value.ref b] s) (139 + u) (pz_ss 139 + 6 * u) 1468 [some (zr 4000), some (zr 0), some (zr 124), some (zr 138), some (zi (i : Int)), none, none] [] M := by
  have hk : 139 + u ≤ room_1.cells ∧ pz_ss 139 + 6 * u ≤ room_1.slots := law_hk hu
  refine x_aload_n B 1469 dL_law_1468 rfl rfl (by decide) ?_
  refine x_aload_n B 1470 dL_law_1469 rfl rfl (by decide) ?_
  refine x_iload B 1472 dL_law_1470 rfl ?_
  refine x_iconst B 1473 dL_law_1472 ?_
  refine x_iadd B 1474 dL_law_1473 ?_
  refine x_sld B hX 1475 (i + 1) dL_law_1474 rfl (by omega) ?_
  refine x_callV1i B 0 1478 dL_law_1475 (c_seed hI.2.2 hI.1 (xs_lo _) (xs_hi _)) lk_L_203 mX11_seed rfl rfl hk ⟨by decide, by decide⟩ (Nat.le_of_ble_eq_true rfl) ?_
  intro a1 M1 h1
  have up : Up M M1 := h1.2.2
  have hW1 : zWm M1 := up.zWm hI.2.1
  have hF1 : WF M1 := up.wf hI.1
  refine x_aload_n B 1479 dL_law_1478 rfl rfl (by decide) ?_
  refine x_aload_n B 1480 dL_law_1479 rfl rfl (by decide) ?_
  refine x_iload B 1482 dL_law_1480 rfl ?_
  refine x_iconst B 1483 dL_law_1482 ?_
  refine x_iadd B 1484 dL_law_1483 ?_
  refine x_sld B hX 1485 (i + 1) dL_law_1484 rfl (by omega) ?_
  refine x_callV1i B 124 1488 dL_law_1485 (m_seed hW1 hF1 (xs_lo _) (xs_hi _)) lk_L_207 mX12_seed rfl rfl hk ⟨by decide, by decide⟩ (Nat.le_of_ble_eq_true rfl) ?_
  intro a2 M2 h2
  obtain ⟨hab, hI2⟩ := Inv.act (WF.seed hI.1 _) (up_seed up _) h1 h2
  refine x_eqI B 1638 dL_law_1488 hab ?_
  exact K M2 hI2
theorem law_45 {nm : String} {l : Launch} {X : ZX} {p : Program} {e : Env} {s : State} {m : MethodId} {below : List Frame} {meth : Method} {c0 : Code} {b Len u i : Nat} {xs : Nat → Int32} {M : ZM} (B : pz_bd X (tL_law nm) p s m #[Value.ref b] meth c0) (hX : xs_at X s b Len xs) (hu : u ≤ 511) (hi : i + 6 ≤ Len) (hI : Inv M) (K : ∀ M', Inv M' → zX l X (tL_law nm) p e room_1 s m #[Value.ref b] below meth c0 (lw_Z below #[Value.ref b] s) (139 + u) (pz_ss 139 + 6 * u) 1638 [some (zr 4000), some (zr 0), some (zr 124), some (zr 138), some (zi (i : Int)), none, none] [] M') : zX l X (tL_law nm) p e room_1 s m #[Value.ref b] below meth c0 (lw_Z below #[Value.ref b] s) (139 + u) (pz_ss 139 + 6 * u) 1493 [some (zr 4000), some (zr 0), some (zr 124), some (zr 138), some (zi (i : Int)), none, none] [] M := by
  have hk : 139 + u ≤ room_1.cells ∧ pz_ss 139 + 6 * u ≤ room_1.slots := law_hk hu
  refine x_aload_n B 1494 dL_law_1493 rfl rfl (by decide) ?_
  refine x_callV0i B 0 1497 dL_law_1494 (c_undo hI.2.2 hI.1 ) lk_L_208 mX11_undo rfl rfl hk ⟨by decide, by decide⟩ (Nat.le_of_ble_eq_true rfl) ?_
  intro a1 M1 h1
  have up : Up M M1 := h1.2.2
  have hW1 : zWm M1 := up.zWm hI.2.1
  have hF1 : WF M1 := up.wf hI.1
  refine x_aload_n B 1498 dL_law_1497 rfl rfl (by decide) ?_
  refine x_callV0i B 124 1501 dL_law_1498 (m_undo hW1 hF1 ) lk_L_212 mX12_undo rfl rfl hk ⟨by decide, by decide⟩ (Nat.le_of_ble_eq_true rfl) ?_
  intro a2 M2 h2
  obtain ⟨hab, hI2⟩ := Inv.act (WF.undo hI.1 ) (up_undo up ) h1 h2
  refine x_eqI B 1638 dL_law_1501 hab ?_
  exact K M2 hI2
theorem law_46 {nm : String} {l : Launch} {X : ZX} {p : Program} {e : Env} {s : State} {m : MethodId} {below : List Frame} {meth : Method} {c0 : Code} {b Len u i : Nat} {xs : Nat → Int32} {M : ZM} (B : pz_bd X (tL_law nm) p s m #[Value.ref b] meth c0) (hX : xs_at X s b Len xs) (hu : u ≤ 511) (hi : i + 6 ≤ Len) (hI : Inv M) (K : ∀ M', Inv M' → zX l X (tL_law nm) p e room_1 s m #[Value.ref b] below meth c0 (lw_Z below #[Value.ref b] s) (139 + u) (pz_ss 139 + 6 * u) 1638 [some (zr 4000), some (zr 0), some (zr 124), some (zr 138), some (zi (i : Int)), none, none] [] M') : zX l X (tL_law nm) p e room_1 s m #[Value.ref b] below meth c0 (lw_Z below #[Value.ref b] s) (139 + u) (pz_ss 139 + 6 * u) 1506 [some (zr 4000), some (zr 0), some (zr 124), some (zr 138), some (zi (i : Int)), none, none] [] M := by
  have hk : 139 + u ≤ room_1.cells ∧ pz_ss 139 + 6 * u ≤ room_1.slots := law_hk hu
  refine x_aload_n B 1507 dL_law_1506 rfl rfl (by decide) ?_
  refine x_callV0i B 0 1510 dL_law_1507 (c_image hI.2.2 hI.1 ) lk_L_213 mX11_image rfl rfl hk ⟨by decide, by decide⟩ (Nat.le_of_ble_eq_true rfl) ?_
  intro a1 M1 h1
  have up : Up M M1 := h1.2.2
  have hW1 : zWm M1 := up.zWm hI.2.1
  have hF1 : WF M1 := up.wf hI.1
  refine x_aload_n B 1511 dL_law_1510 rfl rfl (by decide) ?_
  refine x_callV0i B 124 1514 dL_law_1511 (m_image hW1 hF1 ) lk_L_216 mX12_image rfl rfl hk ⟨by decide, by decide⟩ (Nat.le_of_ble_eq_true rfl) ?_
  intro a2 M2 h2
  obtain ⟨hab, hI2⟩ := Inv.act (WF.image hI.1 ) (up_image up ) h1 h2
  refine x_eqI B 1638 dL_law_1514 hab ?_
  exact K M2 hI2
theorem law_47 {nm : String} {l : Launch} {X : ZX} {p : Program} {e : Env} {s : State} {m : MethodId} {below : List Frame} {meth : Method} {c0 : Code} {b Len u i : Nat} {xs : Nat → Int32} {M : ZM} (B : pz_bd X (tL_law nm) p s m #[Value.ref b] meth c0) (hX : xs_at X s b Len xs) (hu : u ≤ 511) (hi : i + 6 ≤ Len) (hI : Inv M) (K : ∀ M', Inv M' → zX l X (tL_law nm) p e room_1 s m #[Value.ref b] below meth c0 (lw_Z below #[Value.ref b] s) (139 + u) (pz_ss 139 + 6 * u) 1638 [some (zr 4000), some (zr 0), some (zr 124), some (zr 138), some (zi (i : Int)), none, none] [] M') : zX l X (tL_law nm) p e room_1 s m #[Value.ref b] below meth c0 (lw_Z below #[Value.ref b] s) (139 + u) (pz_ss 139 + 6 * u) 1519 [some (zr 4000), some (zr 0), some (zr 124), some (zr 138), some (zi (i : Int)), none, none] [] M := by
  have hk : 139 + u ≤ room_1.cells ∧ pz_ss 139 + 6 * u ≤ room_1.slots := law_hk hu
  refine x_aload_n B 1520 dL_law_1519 rfl rfl (by decide) ?_
  refine x_aload_n B 1521 dL_law_1520 rfl rfl (by decide) ?_
  refine x_iload B 1523 dL_law_1521 rfl ?_
  refine x_iconst B 1524 dL_law_1523 ?_
  refine x_iadd B 1525 dL_law_1524 ?_
  refine x_sld B hX 1526 (i + 1) dL_law_1525 rfl (by omega) ?_
  refine x_callV1i B 0 1529 dL_law_1526 (c_back hI.2.2 hI.1 (xs_lo _) (xs_hi _)) lk_L_217 mX11_back rfl rfl hk ⟨by decide, by decide⟩ (Nat.le_of_ble_eq_true rfl) ?_
  intro a1 M1 h1
  have up : Up M M1 := h1.2.2
  have hW1 : zWm M1 := up.zWm hI.2.1
  have hF1 : WF M1 := up.wf hI.1
  refine x_aload_n B 1530 dL_law_1529 rfl rfl (by decide) ?_
  refine x_aload_n B 1531 dL_law_1530 rfl rfl (by decide) ?_
  refine x_iload B 1533 dL_law_1531 rfl ?_
  refine x_iconst B 1534 dL_law_1533 ?_
  refine x_iadd B 1535 dL_law_1534 ?_
  refine x_sld B hX 1536 (i + 1) dL_law_1535 rfl (by omega) ?_
  refine x_callV1i B 124 1539 dL_law_1536 (m_back hW1 hF1 (xs_lo _) (xs_hi _)) lk_L_220 mX12_back rfl rfl hk ⟨by decide, by decide⟩ (Nat.le_of_ble_eq_true rfl) ?_
  intro a2 M2 h2
  obtain ⟨hab, hI2⟩ := Inv.act (WF.back hI.1 _) (up_back up _) h1 h2
  refine x_eqI B 1638 dL_law_1539 hab ?_
  exact K M2 hI2
theorem law_49 {nm : String} {l : Launch} {X : ZX} {p : Program} {e : Env} {s : State} {m : MethodId} {below : List Frame} {meth : Method} {c0 : Code} {b Len u i : Nat} {xs : Nat → Int32} {M : ZM} (B : pz_bd X (tL_law nm) p s m #[Value.ref b] meth c0) (hX : xs_at X s b Len xs) (hu : u ≤ 511) (hi : i + 6 ≤ Len) (hI : Inv M) (K : ∀ M', Inv M' → zX l X (tL_law nm) p e room_1 s m #[Value.ref b] below meth c0 (lw_Z below #[Value.ref b] s) (139 + u) (pz_ss 139 + 6 * u) 1638 [some (zr 4000), some (zr 0), some (zr 124), some (zr 138), some (zi (i : Int)), none, none] [] M') : zX l X (tL_law nm) p e room_1 s m #[Value.ref b] below meth c0 (lw_Z below #[Value.ref b] s) (139 + u) (pz_ss 139 + 6 * u) 1600 [some (zr 4000), some (zr 0), some (zr 124), some (zr 138), some (zi (i : Int)), none, none] [] M := by
  have hk : 139 + u ≤ room_1.cells ∧ pz_ss 139 + 6 * u ≤ room_1.slots := law_hk hu
  refine x_aload_n B 1601 dL_law_1600 rfl rfl (by decide) ?_
  refine x_aload_n B 1602 dL_law_1601 rfl rfl (by decide) ?_
  refine x_iload B 1604 dL_law_1602 rfl ?_
  refine x_iconst B 1605 dL_law_1604 ?_
  refine x_iadd B 1606 dL_law_1605 ?_
  refine x_sld B hX 1607 (i + 1) dL_law_1606 rfl (by omega) ?_
  refine x_callV1i B 0 1610 dL_law_1607 (c_size hI.2.2 hI.1 (xs_lo _) (xs_hi _)) lk_L_230 mX11_size rfl rfl hk ⟨by decide, by decide⟩ (Nat.le_of_ble_eq_true rfl) ?_
  intro a1 M1 h1
  have up : Up M M1 := h1.2.2
  have hW1 : zWm M1 := up.zWm hI.2.1
  have hF1 : WF M1 := up.wf hI.1
  refine x_aload_n B 1611 dL_law_1610 rfl rfl (by decide) ?_
  refine x_aload_n B 1612 dL_law_1611 rfl rfl (by decide) ?_
  refine x_iload B 1614 dL_law_1612 rfl ?_
  refine x_iconst B 1615 dL_law_1614 ?_
  refine x_iadd B 1616 dL_law_1615 ?_
  refine x_sld B hX 1617 (i + 1) dL_law_1616 rfl (by omega) ?_
  refine x_callV1i B 124 1620 dL_law_1617 (m_size hW1 hF1 (xs_lo _) (xs_hi _)) lk_L_233 mX12_size rfl rfl hk ⟨by decide, by decide⟩ (Nat.le_of_ble_eq_true rfl) ?_
  intro a2 M2 h2
  rw [show pa_size M1 = pa_size M from by funext w; unfold pa_size; rw [up 124 (by decide), up 127 (by decide), up 129 (by decide)]] at h2
  obtain ⟨hab, hI2⟩ := Inv.query hI ⟨hI.1.2.2.1.1, hI.1.2.2.1.2⟩ h1 h2
  refine x_eqI B 1638 dL_law_1620 hab ?_
  exact K M2 hI2
theorem law_50 {nm : String} {l : Launch} {X : ZX} {p : Program} {e : Env} {s : State} {m : MethodId} {below : List Frame} {meth : Method} {c0 : Code} {b Len u i : Nat} {xs : Nat → Int32} {M : ZM} (B : pz_bd X (tL_law nm) p s m #[Value.ref b] meth c0) (hX : xs_at X s b Len xs) (hu : u ≤ 511) (hi : i + 6 ≤ Len) (hI : Inv M) (K : ∀ M', Inv M' → zX l X (tL_law nm) p e room_1 s m #[Value.ref b] below meth c0 (lw_Z below #[Value.ref b] s) (139 + u) (pz_ss 139 + 6 * u) 1638 [some (zr 4000), some (zr 0), some (zr 124), some (zr 138), some (zi (i : Int)), none, none] [] M') : zX l X (tL_law nm) p e room_1 s m #[Value.ref b] below meth c0 (lw_Z below #[Value.ref b] s) (139 + u) (pz_ss 139 + 6 * u) 1625 [some (zr 4000), some (zr 0), some (zr 124), some (zr 138), some (zi (i : Int)), none, none] [] M := by
  have hk : 139 + u ≤ room_1.cells ∧ pz_ss 139 + 6 * u ≤ room_1.slots := law_hk hu
  refine x_aload_n B 1626 dL_law_1625 rfl rfl (by decide) ?_
  refine x_callV0i B 0 1629 dL_law_1626 (c_trouble hI.2.2 hI.1 ) lk_L_234 mX11_trouble rfl rfl hk ⟨by decide, by decide⟩ (Nat.le_of_ble_eq_true rfl) ?_
  intro a1 M1 h1
  have up : Up M M1 := h1.2.2
  have hW1 : zWm M1 := up.zWm hI.2.1
  have hF1 : WF M1 := up.wf hI.1
  refine x_aload_n B 1630 dL_law_1629 rfl rfl (by decide) ?_
  refine x_callV0i B 124 1633 dL_law_1630 (m_trouble hW1 hF1 ) lk_L_237 mX12_trouble rfl rfl hk ⟨by decide, by decide⟩ (Nat.le_of_ble_eq_true rfl) ?_
  intro a2 M2 h2
  rw [up 124 (by decide)] at h2
  obtain ⟨hab, hI2⟩ := Inv.query hI ⟨hI.1.2.2.1.1, hI.1.2.2.1.2⟩ h1 h2
  refine x_eqI B 1638 dL_law_1633 hab ?_
  exact K M2 hI2
