/-! CONSTRUCTORS -/
theorem k_newa_int {l : Launch} {X : ZX} {d : Nat} {mt : ZT} {pc : Nat} {L : List (Option ZV)} {S : List ZV} {n : Nat} {M : ZM} {out : ZO} (len : Nat) (hd : decode mt.2.1 pc = .ok (.newarray .int, 2)) (hc : zTT[n]? = some (.inr (0, len))) (hb : len * 4 ≤ 536870912) (hn : n + 1 ≤ out.2.1) (kk : zGo l X d mt (pc + 2) L (zr (n : Int) :: S) (n + 1) (znew M n (.inr (0, len))) out) : zGo l X d mt pc L (zi (len : Int) :: S) n M out :=
  go_newa (t := 0) (ty := .int) hd hc rfl ac_int rfl (fun C h => by cases h) (fun cA => rfl) hb hn kk
theorem k_newa_byte {l : Launch} {X : ZX} {d : Nat} {mt : ZT} {pc : Nat} {L : List (Option ZV)} {S : List ZV} {n : Nat} {M : ZM} {out : ZO} (len : Nat) (hd : decode mt.2.1 pc = .ok (.newarray .byte, 2)) (hc : zTT[n]? = some (.inr (1, len))) (hb : len * 1 ≤ 536870912) (hn : n + 1 ≤ out.2.1) (kk : zGo l X d mt (pc + 2) L (zr (n : Int) :: S) (n + 1) (znew M n (.inr (1, len))) out) : zGo l X d mt pc L (zi (len : Int) :: S) n M out :=
  go_newa (t := 1) (ty := .byte) hd hc rfl ac_byte rfl (fun C h => by cases h) (fun cA => rfl) hb hn kk
theorem k_newa_long {l : Launch} {X : ZX} {d : Nat} {mt : ZT} {pc : Nat} {L : List (Option ZV)} {S : List ZV} {n : Nat} {M : ZM} {out : ZO} (len : Nat) (hd : decode mt.2.1 pc = .ok (.newarray .long, 2)) (hc : zTT[n]? = some (.inr (2, len))) (hb : len * 8 ≤ 536870912) (hn : n + 1 ≤ out.2.1) (kk : zGo l X d mt (pc + 2) L (zr (n : Int) :: S) (n + 1) (znew M n (.inr (2, len))) out) : zGo l X d mt pc L (zi (len : Int) :: S) n M out :=
  go_newa (t := 2) (ty := .long) hd hc rfl ac_long rfl (fun C h => by cases h) (fun cA => rfl) hb hn kk
theorem k_newa_boolean {l : Launch} {X : ZX} {d : Nat} {mt : ZT} {pc : Nat} {L : List (Option ZV)} {S : List ZV} {n : Nat} {M : ZM} {out : ZO} (len : Nat) (hd : decode mt.2.1 pc = .ok (.newarray .boolean, 2)) (hc : zTT[n]? = some (.inr (4, len))) (hb : len * 1 ≤ 536870912) (hn : n + 1 ≤ out.2.1) (kk : zGo l X d mt (pc + 2) L (zr (n : Int) :: S) (n + 1) (znew M n (.inr (4, len))) out) : zGo l X d mt pc L (zi (len : Int) :: S) n M out :=
  go_newa (t := 4) (ty := .boolean) hd hc rfl ac_boolean rfl (fun C h => by cases h) (fun cA => rfl) hb hn kk
def zk_X3 (c : Nat) (M : ZM) : ZM := (zset (znew (zset (znew M (c + 1) (.inr (0, 7))) (c) 4 ((c + 1 : Nat) : Int)) (c + 2) (.inr (0, 7))) (c) 5 ((c + 2 : Nat) : Int))
theorem k_X3 {l : Launch} {X : ZX} {M : ZM} {c : Nat} (h0 : zTT[c]? = some (.inl 3)) (h1 : zTT[c + 1]? = some (.inr (0, 7))) (h2 : zTT[c + 2]? = some (.inr (0, 7))) : zMet l X 1 yX3_init tX3_init [zr (c : Int)] (c + 1) M (none, c + 3, zk_X3 c M) := by
  refine zMet.of [some (zr (c : Int))] (by decide +kernel) rfl rfl (by show c + 1 ≤ c + 3; omega) (Nat.le_of_ble_eq_true rfl) rfl ?_
  refine go_aload_n dX3_init_0 rfl rfl (by omega) ?_
  refine go_objInit (by omega) dX3_init_1 lk_X3_3 (by decide) (by decide) ?_
  refine go_aload_n dX3_init_4 rfl rfl (by omega) ?_
  refine go_bipush dX3_init_5 rfl ?_
  refine k_newa_int 7 dX3_init_7 h1 (by decide) (by show _ ≤ c + 3; omega) ?_
  refine go_putF (t := 2) (v := ((c + 1 : Nat) : Int)) (k := 4) (c) rfl dX3_init_9 h0 (by omega) rfl inX3 tyX3_ok nmX3 (by decide) fk_X3_9 rfl rfl rfl rfl rfl (by show (0 : Int) ≤ _; omega) ?_
  refine go_aload_n dX3_init_12 rfl rfl (by omega) ?_
  refine go_bipush dX3_init_13 rfl ?_
  refine k_newa_int 7 dX3_init_15 h2 (by decide) (by show _ ≤ c + 3; omega) ?_
  refine go_putF (t := 2) (v := ((c + 2 : Nat) : Int)) (k := 5) (c) rfl dX3_init_17 h0 (by omega) rfl inX3 tyX3_ok nmX3 (by decide) fk_X3_15 rfl rfl rfl rfl rfl (by show (0 : Int) ≤ _; omega) ?_
  exact go_vret dX3_init_20 rfl
def zk_X8_3 (M : ZM) : ZM := (zset (znew (zset (znew (zset (znew (zset (znew M 4 (.inr (2, 7))) 3 1 (4)) 5 (.inr (0, 7))) 3 2 (5)) 6 (.inr (0, 7))) 3 3 (6)) 7 (.inr (0, 7))) 3 4 (7))
theorem k_X8_3 {l : Launch} {X : ZX} {M : ZM} : zMet l X 1 yX8_init tX8_init [zr 3] 4 M (none, 8, zk_X8_3 M) := by
  refine zMet.of [some (zr 3)] (by decide +kernel) rfl rfl (Nat.le_of_ble_eq_true rfl) (Nat.le_of_ble_eq_true rfl) rfl ?_
  refine go_aload_n dX8_init_0 rfl rfl (by decide) ?_
  refine go_objInit (by decide) dX8_init_1 lk_X8_3 (by decide) (by decide) ?_
  refine go_aload_n dX8_init_4 rfl rfl (by decide) ?_
  refine go_bipush dX8_init_5 rfl ?_
  refine k_newa_long 7 dX8_init_7 rfl (by decide) (Nat.le_of_ble_eq_true rfl) ?_
  refine go_putF (t := 2) (v := (4)) (k := 1) 3 rfl dX8_init_9 rfl (by decide) rfl inX8 tyX8_ok nmX8 (by decide) fk_X8_9 rfl rfl rfl rfl rfl (by show (0 : Int) ≤ _; decide) ?_
  refine go_aload_n dX8_init_12 rfl rfl (by decide) ?_
  refine go_bipush dX8_init_13 rfl ?_
  refine k_newa_int 7 dX8_init_15 rfl (by decide) (Nat.le_of_ble_eq_true rfl) ?_
  refine go_putF (t := 2) (v := (5)) (k := 2) 3 rfl dX8_init_17 rfl (by decide) rfl inX8 tyX8_ok nmX8 (by decide) fk_X8_15 rfl rfl rfl rfl rfl (by show (0 : Int) ≤ _; decide) ?_
  refine go_aload_n dX8_init_20 rfl rfl (by decide) ?_
  refine go_bipush dX8_init_21 rfl ?_
  refine k_newa_int 7 dX8_init_23 rfl (by decide) (Nat.le_of_ble_eq_true rfl) ?_
  refine go_putF (t := 2) (v := (6)) (k := 3) 3 rfl dX8_init_25 rfl (by decide) rfl inX8 tyX8_ok nmX8 (by decide) fk_X8_19 rfl rfl rfl rfl rfl (by show (0 : Int) ≤ _; decide) ?_
  refine go_aload_n dX8_init_28 rfl rfl (by decide) ?_
  refine go_bipush dX8_init_29 rfl ?_
  refine k_newa_int 7 dX8_init_31 rfl (by decide) (Nat.le_of_ble_eq_true rfl) ?_
  refine go_putF (t := 2) (v := (7)) (k := 4) 3 rfl dX8_init_33 rfl (by decide) rfl inX8 tyX8_ok nmX8 (by decide) fk_X8_22 rfl rfl rfl rfl rfl (by show (0 : Int) ≤ _; decide) ?_
  exact go_vret dX8_init_36 rfl
def zk_X2_8 (M : ZM) : ZM := (zset (znew (zset (znew (zset (znew (zset (znew M 9 (.inr (2, 3))) 8 1 (9)) 10 (.inr (0, 3))) 8 2 (10)) 11 (.inr (0, 3))) 8 3 (11)) 12 (.inr (0, 3))) 8 4 (12))
theorem k_X2_8 {l : Launch} {X : ZX} {M : ZM} : zMet l X 1 yX2_init tX2_init [zr 8] 9 M (none, 13, zk_X2_8 M) := by
  refine zMet.of [some (zr 8)] (by decide +kernel) rfl rfl (Nat.le_of_ble_eq_true rfl) (Nat.le_of_ble_eq_true rfl) rfl ?_
  refine go_aload_n dX2_init_0 rfl rfl (by decide) ?_
  refine go_objInit (by decide) dX2_init_1 lk_X2_3 (by decide) (by decide) ?_
  refine go_aload_n dX2_init_4 rfl rfl (by decide) ?_
  refine go_iconst dX2_init_5 ?_
  refine k_newa_long 3 dX2_init_6 rfl (by decide) (Nat.le_of_ble_eq_true rfl) ?_
  refine go_putF (t := 2) (v := (9)) (k := 1) 8 rfl dX2_init_8 rfl (by decide) rfl inX2 tyX2_ok nmX2 (by decide) fk_X2_9 rfl rfl rfl rfl rfl (by show (0 : Int) ≤ _; decide) ?_
  refine go_aload_n dX2_init_11 rfl rfl (by decide) ?_
  refine go_iconst dX2_init_12 ?_
  refine k_newa_int 3 dX2_init_13 rfl (by decide) (Nat.le_of_ble_eq_true rfl) ?_
  refine go_putF (t := 2) (v := (10)) (k := 2) 8 rfl dX2_init_15 rfl (by decide) rfl inX2 tyX2_ok nmX2 (by decide) fk_X2_15 rfl rfl rfl rfl rfl (by show (0 : Int) ≤ _; decide) ?_
  refine go_aload_n dX2_init_18 rfl rfl (by decide) ?_
  refine go_iconst dX2_init_19 ?_
  refine k_newa_int 3 dX2_init_20 rfl (by decide) (Nat.le_of_ble_eq_true rfl) ?_
  refine go_putF (t := 2) (v := (11)) (k := 3) 8 rfl dX2_init_22 rfl (by decide) rfl inX2 tyX2_ok nmX2 (by decide) fk_X2_19 rfl rfl rfl rfl rfl (by show (0 : Int) ≤ _; decide) ?_
  refine go_aload_n dX2_init_25 rfl rfl (by decide) ?_
  refine go_iconst dX2_init_26 ?_
  refine k_newa_int 3 dX2_init_27 rfl (by decide) (Nat.le_of_ble_eq_true rfl) ?_
  refine go_putF (t := 2) (v := (12)) (k := 4) 8 rfl dX2_init_29 rfl (by decide) rfl inX2 tyX2_ok nmX2 (by decide) fk_X2_22 rfl rfl rfl rfl rfl (by show (0 : Int) ≤ _; decide) ?_
  exact go_vret dX2_init_32 rfl
def zk_X10_13 (M : ZM) : ZM := (zset (znew (zset (znew (zset (znew (zset (znew (zset (znew M 14 (.inr (2, 7))) 13 2 (14)) 15 (.inr (0, 7))) 13 3 (15)) 16 (.inr (0, 7))) 13 4 (16)) 17 (.inr (0, 7))) 13 5 (17)) 18 (.inr (0, 7))) 13 6 (18))
theorem k_X10_13 {l : Launch} {X : ZX} {M : ZM} : zMet l X 1 yX10_init tX10_init [zr 13] 14 M (none, 19, zk_X10_13 M) := by
  refine zMet.of [some (zr 13)] (by decide +kernel) rfl rfl (Nat.le_of_ble_eq_true rfl) (Nat.le_of_ble_eq_true rfl) rfl ?_
  refine go_aload_n dX10_init_0 rfl rfl (by decide) ?_
  refine go_objInit (by decide) dX10_init_1 lk_X10_3 (by decide) (by decide) ?_
  refine go_aload_n dX10_init_4 rfl rfl (by decide) ?_
  refine go_bipush dX10_init_5 rfl ?_
  refine k_newa_long 7 dX10_init_7 rfl (by decide) (Nat.le_of_ble_eq_true rfl) ?_
  refine go_putF (t := 2) (v := (14)) (k := 2) 13 rfl dX10_init_9 rfl (by decide) rfl inX10 tyX10_ok nmX10 (by decide) fk_X10_9 rfl rfl rfl rfl rfl (by show (0 : Int) ≤ _; decide) ?_
  refine go_aload_n dX10_init_12 rfl rfl (by decide) ?_
  refine go_bipush dX10_init_13 rfl ?_
  refine k_newa_int 7 dX10_init_15 rfl (by decide) (Nat.le_of_ble_eq_true rfl) ?_
  refine go_putF (t := 2) (v := (15)) (k := 3) 13 rfl dX10_init_17 rfl (by decide) rfl inX10 tyX10_ok nmX10 (by decide) fk_X10_15 rfl rfl rfl rfl rfl (by show (0 : Int) ≤ _; decide) ?_
  refine go_aload_n dX10_init_20 rfl rfl (by decide) ?_
  refine go_bipush dX10_init_21 rfl ?_
  refine k_newa_int 7 dX10_init_23 rfl (by decide) (Nat.le_of_ble_eq_true rfl) ?_
  refine go_putF (t := 2) (v := (16)) (k := 4) 13 rfl dX10_init_25 rfl (by decide) rfl inX10 tyX10_ok nmX10 (by decide) fk_X10_19 rfl rfl rfl rfl rfl (by show (0 : Int) ≤ _; decide) ?_
  refine go_aload_n dX10_init_28 rfl rfl (by decide) ?_
  refine go_bipush dX10_init_29 rfl ?_
  refine k_newa_int 7 dX10_init_31 rfl (by decide) (Nat.le_of_ble_eq_true rfl) ?_
  refine go_putF (t := 2) (v := (17)) (k := 5) 13 rfl dX10_init_33 rfl (by decide) rfl inX10 tyX10_ok nmX10 (by decide) fk_X10_22 rfl rfl rfl rfl rfl (by show (0 : Int) ≤ _; decide) ?_
  refine go_aload_n dX10_init_36 rfl rfl (by decide) ?_
  refine go_bipush dX10_init_37 rfl ?_
  refine k_newa_int 7 dX10_init_39 rfl (by decide) (Nat.le_of_ble_eq_true rfl) ?_
  refine go_putF (t := 2) (v := (18)) (k := 6) 13 rfl dX10_init_41 rfl (by decide) rfl inX10 tyX10_ok nmX10 (by decide) fk_X10_25 rfl rfl rfl rfl rfl (by show (0 : Int) ≤ _; decide) ?_
  exact go_vret dX10_init_44 rfl
def zk_X4_19 (M : ZM) : ZM := (zset (znew (zset (znew (zset (znew (zset (znew (zset (znew M 20 (.inr (2, 6))) 19 1 (20)) 21 (.inr (2, 6))) 19 2 (21)) 22 (.inr (0, 6))) 19 3 (22)) 23 (.inr (2, 5))) 19 5 (23)) 24 (.inr (2, 5))) 19 6 (24))
theorem k_X4_19 {l : Launch} {X : ZX} {M : ZM} : zMet l X 1 yX4_init tX4_init [zr 19] 20 M (none, 25, zk_X4_19 M) := by
  refine zMet.of [some (zr 19)] (by decide +kernel) rfl rfl (Nat.le_of_ble_eq_true rfl) (Nat.le_of_ble_eq_true rfl) rfl ?_
  refine go_aload_n dX4_init_0 rfl rfl (by decide) ?_
  refine go_objInit (by decide) dX4_init_1 lk_X4_3 (by decide) (by decide) ?_
  refine go_aload_n dX4_init_4 rfl rfl (by decide) ?_
  refine go_bipush dX4_init_5 rfl ?_
  refine k_newa_long 6 dX4_init_7 rfl (by decide) (Nat.le_of_ble_eq_true rfl) ?_
  refine go_putF (t := 2) (v := (20)) (k := 1) 19 rfl dX4_init_9 rfl (by decide) rfl inX4 tyX4_ok nmX4 (by decide) fk_X4_9 rfl rfl rfl rfl rfl (by show (0 : Int) ≤ _; decide) ?_
  refine go_aload_n dX4_init_12 rfl rfl (by decide) ?_
  refine go_bipush dX4_init_13 rfl ?_
  refine k_newa_long 6 dX4_init_15 rfl (by decide) (Nat.le_of_ble_eq_true rfl) ?_
  refine go_putF (t := 2) (v := (21)) (k := 2) 19 rfl dX4_init_17 rfl (by decide) rfl inX4 tyX4_ok nmX4 (by decide) fk_X4_15 rfl rfl rfl rfl rfl (by show (0 : Int) ≤ _; decide) ?_
  refine go_aload_n dX4_init_20 rfl rfl (by decide) ?_
  refine go_bipush dX4_init_21 rfl ?_
  refine k_newa_int 6 dX4_init_23 rfl (by decide) (Nat.le_of_ble_eq_true rfl) ?_
  refine go_putF (t := 2) (v := (22)) (k := 3) 19 rfl dX4_init_25 rfl (by decide) rfl inX4 tyX4_ok nmX4 (by decide) fk_X4_18 rfl rfl rfl rfl rfl (by show (0 : Int) ≤ _; decide) ?_
  refine go_aload_n dX4_init_28 rfl rfl (by decide) ?_
  refine go_iconst dX4_init_29 ?_
  refine k_newa_long 5 dX4_init_30 rfl (by decide) (Nat.le_of_ble_eq_true rfl) ?_
  refine go_putF (t := 2) (v := (23)) (k := 5) 19 rfl dX4_init_32 rfl (by decide) rfl inX4 tyX4_ok nmX4 (by decide) fk_X4_22 rfl rfl rfl rfl rfl (by show (0 : Int) ≤ _; decide) ?_
  refine go_aload_n dX4_init_35 rfl rfl (by decide) ?_
  refine go_iconst dX4_init_36 ?_
  refine k_newa_long 5 dX4_init_37 rfl (by decide) (Nat.le_of_ble_eq_true rfl) ?_
  refine go_putF (t := 2) (v := (24)) (k := 6) 19 rfl dX4_init_39 rfl (by decide) rfl inX4 tyX4_ok nmX4 (by decide) fk_X4_25 rfl rfl rfl rfl rfl (by show (0 : Int) ≤ _; decide) ?_
  exact go_vret dX4_init_42 rfl
def zk_X0_2 (M : ZM) : ZM := (zset (zk_X4_19 (znew (zset (zk_X10_13 (znew (zset (zk_X2_8 (znew (zset (zk_X8_3 (znew M 3 (.inl 8))) 2 3 (3)) 8 (.inl 2))) 2 4 (8)) 13 (.inl 10))) 2 5 (13)) 19 (.inl 4))) 2 6 (19))
theorem k_X0_2 {l : Launch} {X : ZX} {M : ZM} : zMet l X 2 yX0_init tX0_init [zr 2] 3 M (none, 25, zk_X0_2 M) := by
  refine zMet.of [some (zr 2)] (by decide +kernel) rfl rfl (Nat.le_of_ble_eq_true rfl) (Nat.le_of_ble_eq_true rfl) rfl ?_
  refine go_aload_n dX0_init_0 rfl rfl (by decide) ?_
  refine go_objInit (by decide) dX0_init_1 lk_X0_3 (by decide) (by decide) ?_
  refine go_aload_n dX0_init_4 rfl rfl (by decide) ?_
  refine go_new dX0_init_5 rfl rfl inX8 tyX8_ok ck_X0_9 ik_X8 nk_X8 (by decide +kernel) rfl (Nat.le_of_ble_eq_true rfl) ?_
  refine go_dup dX0_init_8 (fun z => by intro h9; cases h9) ?_
  refine go_callIN [] [zr (3), zr (2)] 3 rfl dX0_init_9 k_X8_3 ln_X0_11 mX8_init rfl (by decide) (by decide) (Nat.le_of_ble_eq_true rfl) ?_
  refine go_putF (t := 2) (v := (3)) (k := 3) 2 rfl dX0_init_12 rfl (by decide) rfl inX0 tyX0_ok nmX0 (by decide) fk_X0_12 rfl rfl rfl rfl rfl (by show (0 : Int) ≤ _; decide) ?_
  refine go_aload_n dX0_init_15 rfl rfl (by decide) ?_
  refine go_new dX0_init_16 rfl rfl inX2 tyX2_ok ck_X0_18 ik_X2 nk_X2 (by decide +kernel) rfl (Nat.le_of_ble_eq_true rfl) ?_
  refine go_dup dX0_init_19 (fun z => by intro h9; cases h9) ?_
  refine go_callIN [] [zr (8), zr (2)] 8 rfl dX0_init_20 k_X2_8 ln_X0_20 mX2_init rfl (by decide) (by decide) (Nat.le_of_ble_eq_true rfl) ?_
  refine go_putF (t := 2) (v := (8)) (k := 4) 2 rfl dX0_init_23 rfl (by decide) rfl inX0 tyX0_ok nmX0 (by decide) fk_X0_21 rfl rfl rfl rfl rfl (by show (0 : Int) ≤ _; decide) ?_
  refine go_aload_n dX0_init_26 rfl rfl (by decide) ?_
  refine go_new dX0_init_27 rfl rfl inX10 tyX10_ok ck_X0_25 ik_X10 nk_X10 (by decide +kernel) rfl (Nat.le_of_ble_eq_true rfl) ?_
  refine go_dup dX0_init_30 (fun z => by intro h9; cases h9) ?_
  refine go_callIN [] [zr (13), zr (2)] 13 rfl dX0_init_31 k_X10_13 ln_X0_27 mX10_init rfl (by decide) (by decide) (Nat.le_of_ble_eq_true rfl) ?_
  refine go_putF (t := 2) (v := (13)) (k := 5) 2 rfl dX0_init_34 rfl (by decide) rfl inX0 tyX0_ok nmX0 (by decide) fk_X0_28 rfl rfl rfl rfl rfl (by show (0 : Int) ≤ _; decide) ?_
  refine go_aload_n dX0_init_37 rfl rfl (by decide) ?_
  refine go_new dX0_init_38 rfl rfl inX4 tyX4_ok ck_X0_32 ik_X4 nk_X4 (by decide +kernel) rfl (Nat.le_of_ble_eq_true rfl) ?_
  refine go_dup dX0_init_41 (fun z => by intro h9; cases h9) ?_
  refine go_callIN [] [zr (19), zr (2)] 19 rfl dX0_init_42 k_X4_19 ln_X0_34 mX4_init rfl (by decide) (by decide) (Nat.le_of_ble_eq_true rfl) ?_
  refine go_putF (t := 2) (v := (19)) (k := 6) 2 rfl dX0_init_45 rfl (by decide) rfl inX0 tyX0_ok nmX0 (by decide) fk_X0_35 rfl rfl rfl rfl rfl (by show (0 : Int) ≤ _; decide) ?_
  exact go_vret dX0_init_48 rfl
def zk_X8_26 (M : ZM) : ZM := (zset (znew (zset (znew (zset (znew (zset (znew M 27 (.inr (2, 7))) 26 1 (27)) 28 (.inr (0, 7))) 26 2 (28)) 29 (.inr (0, 7))) 26 3 (29)) 30 (.inr (0, 7))) 26 4 (30))
theorem k_X8_26 {l : Launch} {X : ZX} {M : ZM} : zMet l X 1 yX8_init tX8_init [zr 26] 27 M (none, 31, zk_X8_26 M) := by
  refine zMet.of [some (zr 26)] (by decide +kernel) rfl rfl (Nat.le_of_ble_eq_true rfl) (Nat.le_of_ble_eq_true rfl) rfl ?_
  refine go_aload_n dX8_init_0 rfl rfl (by decide) ?_
  refine go_objInit (by decide) dX8_init_1 lk_X8_3 (by decide) (by decide) ?_
  refine go_aload_n dX8_init_4 rfl rfl (by decide) ?_
  refine go_bipush dX8_init_5 rfl ?_
  refine k_newa_long 7 dX8_init_7 rfl (by decide) (Nat.le_of_ble_eq_true rfl) ?_
  refine go_putF (t := 2) (v := (27)) (k := 1) 26 rfl dX8_init_9 rfl (by decide) rfl inX8 tyX8_ok nmX8 (by decide) fk_X8_9 rfl rfl rfl rfl rfl (by show (0 : Int) ≤ _; decide) ?_
  refine go_aload_n dX8_init_12 rfl rfl (by decide) ?_
  refine go_bipush dX8_init_13 rfl ?_
  refine k_newa_int 7 dX8_init_15 rfl (by decide) (Nat.le_of_ble_eq_true rfl) ?_
  refine go_putF (t := 2) (v := (28)) (k := 2) 26 rfl dX8_init_17 rfl (by decide) rfl inX8 tyX8_ok nmX8 (by decide) fk_X8_15 rfl rfl rfl rfl rfl (by show (0 : Int) ≤ _; decide) ?_
  refine go_aload_n dX8_init_20 rfl rfl (by decide) ?_
  refine go_bipush dX8_init_21 rfl ?_
  refine k_newa_int 7 dX8_init_23 rfl (by decide) (Nat.le_of_ble_eq_true rfl) ?_
  refine go_putF (t := 2) (v := (29)) (k := 3) 26 rfl dX8_init_25 rfl (by decide) rfl inX8 tyX8_ok nmX8 (by decide) fk_X8_19 rfl rfl rfl rfl rfl (by show (0 : Int) ≤ _; decide) ?_
  refine go_aload_n dX8_init_28 rfl rfl (by decide) ?_
  refine go_bipush dX8_init_29 rfl ?_
  refine k_newa_int 7 dX8_init_31 rfl (by decide) (Nat.le_of_ble_eq_true rfl) ?_
  refine go_putF (t := 2) (v := (30)) (k := 4) 26 rfl dX8_init_33 rfl (by decide) rfl inX8 tyX8_ok nmX8 (by decide) fk_X8_22 rfl rfl rfl rfl rfl (by show (0 : Int) ≤ _; decide) ?_
  exact go_vret dX8_init_36 rfl
def zk_X2_31 (M : ZM) : ZM := (zset (znew (zset (znew (zset (znew (zset (znew M 32 (.inr (2, 3))) 31 1 (32)) 33 (.inr (0, 3))) 31 2 (33)) 34 (.inr (0, 3))) 31 3 (34)) 35 (.inr (0, 3))) 31 4 (35))
theorem k_X2_31 {l : Launch} {X : ZX} {M : ZM} : zMet l X 1 yX2_init tX2_init [zr 31] 32 M (none, 36, zk_X2_31 M) := by
  refine zMet.of [some (zr 31)] (by decide +kernel) rfl rfl (Nat.le_of_ble_eq_true rfl) (Nat.le_of_ble_eq_true rfl) rfl ?_
  refine go_aload_n dX2_init_0 rfl rfl (by decide) ?_
  refine go_objInit (by decide) dX2_init_1 lk_X2_3 (by decide) (by decide) ?_
  refine go_aload_n dX2_init_4 rfl rfl (by decide) ?_
  refine go_iconst dX2_init_5 ?_
  refine k_newa_long 3 dX2_init_6 rfl (by decide) (Nat.le_of_ble_eq_true rfl) ?_
  refine go_putF (t := 2) (v := (32)) (k := 1) 31 rfl dX2_init_8 rfl (by decide) rfl inX2 tyX2_ok nmX2 (by decide) fk_X2_9 rfl rfl rfl rfl rfl (by show (0 : Int) ≤ _; decide) ?_
  refine go_aload_n dX2_init_11 rfl rfl (by decide) ?_
  refine go_iconst dX2_init_12 ?_
  refine k_newa_int 3 dX2_init_13 rfl (by decide) (Nat.le_of_ble_eq_true rfl) ?_
  refine go_putF (t := 2) (v := (33)) (k := 2) 31 rfl dX2_init_15 rfl (by decide) rfl inX2 tyX2_ok nmX2 (by decide) fk_X2_15 rfl rfl rfl rfl rfl (by show (0 : Int) ≤ _; decide) ?_
  refine go_aload_n dX2_init_18 rfl rfl (by decide) ?_
  refine go_iconst dX2_init_19 ?_
  refine k_newa_int 3 dX2_init_20 rfl (by decide) (Nat.le_of_ble_eq_true rfl) ?_
  refine go_putF (t := 2) (v := (34)) (k := 3) 31 rfl dX2_init_22 rfl (by decide) rfl inX2 tyX2_ok nmX2 (by decide) fk_X2_19 rfl rfl rfl rfl rfl (by show (0 : Int) ≤ _; decide) ?_
  refine go_aload_n dX2_init_25 rfl rfl (by decide) ?_
  refine go_iconst dX2_init_26 ?_
  refine k_newa_int 3 dX2_init_27 rfl (by decide) (Nat.le_of_ble_eq_true rfl) ?_
  refine go_putF (t := 2) (v := (35)) (k := 4) 31 rfl dX2_init_29 rfl (by decide) rfl inX2 tyX2_ok nmX2 (by decide) fk_X2_22 rfl rfl rfl rfl rfl (by show (0 : Int) ≤ _; decide) ?_
  exact go_vret dX2_init_32 rfl
def zk_X10_36 (M : ZM) : ZM := (zset (znew (zset (znew (zset (znew (zset (znew (zset (znew M 37 (.inr (2, 7))) 36 2 (37)) 38 (.inr (0, 7))) 36 3 (38)) 39 (.inr (0, 7))) 36 4 (39)) 40 (.inr (0, 7))) 36 5 (40)) 41 (.inr (0, 7))) 36 6 (41))
theorem k_X10_36 {l : Launch} {X : ZX} {M : ZM} : zMet l X 1 yX10_init tX10_init [zr 36] 37 M (none, 42, zk_X10_36 M) := by
  refine zMet.of [some (zr 36)] (by decide +kernel) rfl rfl (Nat.le_of_ble_eq_true rfl) (Nat.le_of_ble_eq_true rfl) rfl ?_
  refine go_aload_n dX10_init_0 rfl rfl (by decide) ?_
  refine go_objInit (by decide) dX10_init_1 lk_X10_3 (by decide) (by decide) ?_
  refine go_aload_n dX10_init_4 rfl rfl (by decide) ?_
  refine go_bipush dX10_init_5 rfl ?_
  refine k_newa_long 7 dX10_init_7 rfl (by decide) (Nat.le_of_ble_eq_true rfl) ?_
  refine go_putF (t := 2) (v := (37)) (k := 2) 36 rfl dX10_init_9 rfl (by decide) rfl inX10 tyX10_ok nmX10 (by decide) fk_X10_9 rfl rfl rfl rfl rfl (by show (0 : Int) ≤ _; decide) ?_
  refine go_aload_n dX10_init_12 rfl rfl (by decide) ?_
  refine go_bipush dX10_init_13 rfl ?_
  refine k_newa_int 7 dX10_init_15 rfl (by decide) (Nat.le_of_ble_eq_true rfl) ?_
  refine go_putF (t := 2) (v := (38)) (k := 3) 36 rfl dX10_init_17 rfl (by decide) rfl inX10 tyX10_ok nmX10 (by decide) fk_X10_15 rfl rfl rfl rfl rfl (by show (0 : Int) ≤ _; decide) ?_
  refine go_aload_n dX10_init_20 rfl rfl (by decide) ?_
  refine go_bipush dX10_init_21 rfl ?_
  refine k_newa_int 7 dX10_init_23 rfl (by decide) (Nat.le_of_ble_eq_true rfl) ?_
  refine go_putF (t := 2) (v := (39)) (k := 4) 36 rfl dX10_init_25 rfl (by decide) rfl inX10 tyX10_ok nmX10 (by decide) fk_X10_19 rfl rfl rfl rfl rfl (by show (0 : Int) ≤ _; decide) ?_
  refine go_aload_n dX10_init_28 rfl rfl (by decide) ?_
  refine go_bipush dX10_init_29 rfl ?_
  refine k_newa_int 7 dX10_init_31 rfl (by decide) (Nat.le_of_ble_eq_true rfl) ?_
  refine go_putF (t := 2) (v := (40)) (k := 5) 36 rfl dX10_init_33 rfl (by decide) rfl inX10 tyX10_ok nmX10 (by decide) fk_X10_22 rfl rfl rfl rfl rfl (by show (0 : Int) ≤ _; decide) ?_
  refine go_aload_n dX10_init_36 rfl rfl (by decide) ?_
  refine go_bipush dX10_init_37 rfl ?_
  refine k_newa_int 7 dX10_init_39 rfl (by decide) (Nat.le_of_ble_eq_true rfl) ?_
  refine go_putF (t := 2) (v := (41)) (k := 6) 36 rfl dX10_init_41 rfl (by decide) rfl inX10 tyX10_ok nmX10 (by decide) fk_X10_25 rfl rfl rfl rfl rfl (by show (0 : Int) ≤ _; decide) ?_
  exact go_vret dX10_init_44 rfl
def zk_X4_42 (M : ZM) : ZM := (zset (znew (zset (znew (zset (znew (zset (znew (zset (znew M 43 (.inr (2, 6))) 42 1 (43)) 44 (.inr (2, 6))) 42 2 (44)) 45 (.inr (0, 6))) 42 3 (45)) 46 (.inr (2, 5))) 42 5 (46)) 47 (.inr (2, 5))) 42 6 (47))
theorem k_X4_42 {l : Launch} {X : ZX} {M : ZM} : zMet l X 1 yX4_init tX4_init [zr 42] 43 M (none, 48, zk_X4_42 M) := by
  refine zMet.of [some (zr 42)] (by decide +kernel) rfl rfl (Nat.le_of_ble_eq_true rfl) (Nat.le_of_ble_eq_true rfl) rfl ?_
  refine go_aload_n dX4_init_0 rfl rfl (by decide) ?_
  refine go_objInit (by decide) dX4_init_1 lk_X4_3 (by decide) (by decide) ?_
  refine go_aload_n dX4_init_4 rfl rfl (by decide) ?_
  refine go_bipush dX4_init_5 rfl ?_
  refine k_newa_long 6 dX4_init_7 rfl (by decide) (Nat.le_of_ble_eq_true rfl) ?_
  refine go_putF (t := 2) (v := (43)) (k := 1) 42 rfl dX4_init_9 rfl (by decide) rfl inX4 tyX4_ok nmX4 (by decide) fk_X4_9 rfl rfl rfl rfl rfl (by show (0 : Int) ≤ _; decide) ?_
  refine go_aload_n dX4_init_12 rfl rfl (by decide) ?_
  refine go_bipush dX4_init_13 rfl ?_
  refine k_newa_long 6 dX4_init_15 rfl (by decide) (Nat.le_of_ble_eq_true rfl) ?_
  refine go_putF (t := 2) (v := (44)) (k := 2) 42 rfl dX4_init_17 rfl (by decide) rfl inX4 tyX4_ok nmX4 (by decide) fk_X4_15 rfl rfl rfl rfl rfl (by show (0 : Int) ≤ _; decide) ?_
  refine go_aload_n dX4_init_20 rfl rfl (by decide) ?_
  refine go_bipush dX4_init_21 rfl ?_
  refine k_newa_int 6 dX4_init_23 rfl (by decide) (Nat.le_of_ble_eq_true rfl) ?_
  refine go_putF (t := 2) (v := (45)) (k := 3) 42 rfl dX4_init_25 rfl (by decide) rfl inX4 tyX4_ok nmX4 (by decide) fk_X4_18 rfl rfl rfl rfl rfl (by show (0 : Int) ≤ _; decide) ?_
  refine go_aload_n dX4_init_28 rfl rfl (by decide) ?_
  refine go_iconst dX4_init_29 ?_
  refine k_newa_long 5 dX4_init_30 rfl (by decide) (Nat.le_of_ble_eq_true rfl) ?_
  refine go_putF (t := 2) (v := (46)) (k := 5) 42 rfl dX4_init_32 rfl (by decide) rfl inX4 tyX4_ok nmX4 (by decide) fk_X4_22 rfl rfl rfl rfl rfl (by show (0 : Int) ≤ _; decide) ?_
  refine go_aload_n dX4_init_35 rfl rfl (by decide) ?_
  refine go_iconst dX4_init_36 ?_
  refine k_newa_long 5 dX4_init_37 rfl (by decide) (Nat.le_of_ble_eq_true rfl) ?_
  refine go_putF (t := 2) (v := (47)) (k := 6) 42 rfl dX4_init_39 rfl (by decide) rfl inX4 tyX4_ok nmX4 (by decide) fk_X4_25 rfl rfl rfl rfl rfl (by show (0 : Int) ≤ _; decide) ?_
  exact go_vret dX4_init_42 rfl
def zk_X0_25 (M : ZM) : ZM := (zset (zk_X4_42 (znew (zset (zk_X10_36 (znew (zset (zk_X2_31 (znew (zset (zk_X8_26 (znew M 26 (.inl 8))) 25 3 (26)) 31 (.inl 2))) 25 4 (31)) 36 (.inl 10))) 25 5 (36)) 42 (.inl 4))) 25 6 (42))
theorem k_X0_25 {l : Launch} {X : ZX} {M : ZM} : zMet l X 2 yX0_init tX0_init [zr 25] 26 M (none, 48, zk_X0_25 M) := by
  refine zMet.of [some (zr 25)] (by decide +kernel) rfl rfl (Nat.le_of_ble_eq_true rfl) (Nat.le_of_ble_eq_true rfl) rfl ?_
  refine go_aload_n dX0_init_0 rfl rfl (by decide) ?_
  refine go_objInit (by decide) dX0_init_1 lk_X0_3 (by decide) (by decide) ?_
  refine go_aload_n dX0_init_4 rfl rfl (by decide) ?_
  refine go_new dX0_init_5 rfl rfl inX8 tyX8_ok ck_X0_9 ik_X8 nk_X8 (by decide +kernel) rfl (Nat.le_of_ble_eq_true rfl) ?_
  refine go_dup dX0_init_8 (fun z => by intro h9; cases h9) ?_
  refine go_callIN [] [zr (26), zr (25)] 26 rfl dX0_init_9 k_X8_26 ln_X0_11 mX8_init rfl (by decide) (by decide) (Nat.le_of_ble_eq_true rfl) ?_
  refine go_putF (t := 2) (v := (26)) (k := 3) 25 rfl dX0_init_12 rfl (by decide) rfl inX0 tyX0_ok nmX0 (by decide) fk_X0_12 rfl rfl rfl rfl rfl (by show (0 : Int) ≤ _; decide) ?_
  refine go_aload_n dX0_init_15 rfl rfl (by decide) ?_
  refine go_new dX0_init_16 rfl rfl inX2 tyX2_ok ck_X0_18 ik_X2 nk_X2 (by decide +kernel) rfl (Nat.le_of_ble_eq_true rfl) ?_
  refine go_dup dX0_init_19 (fun z => by intro h9; cases h9) ?_
  refine go_callIN [] [zr (31), zr (25)] 31 rfl dX0_init_20 k_X2_31 ln_X0_20 mX2_init rfl (by decide) (by decide) (Nat.le_of_ble_eq_true rfl) ?_
  refine go_putF (t := 2) (v := (31)) (k := 4) 25 rfl dX0_init_23 rfl (by decide) rfl inX0 tyX0_ok nmX0 (by decide) fk_X0_21 rfl rfl rfl rfl rfl (by show (0 : Int) ≤ _; decide) ?_
  refine go_aload_n dX0_init_26 rfl rfl (by decide) ?_
  refine go_new dX0_init_27 rfl rfl inX10 tyX10_ok ck_X0_25 ik_X10 nk_X10 (by decide +kernel) rfl (Nat.le_of_ble_eq_true rfl) ?_
  refine go_dup dX0_init_30 (fun z => by intro h9; cases h9) ?_
  refine go_callIN [] [zr (36), zr (25)] 36 rfl dX0_init_31 k_X10_36 ln_X0_27 mX10_init rfl (by decide) (by decide) (Nat.le_of_ble_eq_true rfl) ?_
  refine go_putF (t := 2) (v := (36)) (k := 5) 25 rfl dX0_init_34 rfl (by decide) rfl inX0 tyX0_ok nmX0 (by decide) fk_X0_28 rfl rfl rfl rfl rfl (by show (0 : Int) ≤ _; decide) ?_
  refine go_aload_n dX0_init_37 rfl rfl (by decide) ?_
  refine go_new dX0_init_38 rfl rfl inX4 tyX4_ok ck_X0_32 ik_X4 nk_X4 (by decide +kernel) rfl (Nat.le_of_ble_eq_true rfl) ?_
  refine go_dup dX0_init_41 (fun z => by intro h9; cases h9) ?_
  refine go_callIN [] [zr (42), zr (25)] 42 rfl dX0_init_42 k_X4_42 ln_X0_34 mX4_init rfl (by decide) (by decide) (Nat.le_of_ble_eq_true rfl) ?_
  refine go_putF (t := 2) (v := (42)) (k := 6) 25 rfl dX0_init_45 rfl (by decide) rfl inX0 tyX0_ok nmX0 (by decide) fk_X0_35 rfl rfl rfl rfl rfl (by show (0 : Int) ≤ _; decide) ?_
  exact go_vret dX0_init_48 rfl
def zk_X6_48 (M : ZM) : ZM := M
theorem k_X6_48 {l : Launch} {X : ZX} {M : ZM} : zMet l X 1 yX6_init tX6_init [zr 48] 49 M (none, 49, zk_X6_48 M) := by
  refine zMet.of [some (zr 48)] (by decide +kernel) rfl rfl (Nat.le_of_ble_eq_true rfl) (Nat.le_of_ble_eq_true rfl) rfl ?_
  refine go_aload_n dX6_init_0 rfl rfl (by decide) ?_
  refine go_objInit (by decide) dX6_init_1 lk_X6_3 (by decide) (by decide) ?_
  exact go_vret dX6_init_4 rfl
theorem zk_X3_lo (M : ZM) {c a : Nat} (ha : a < c) : zk_X3 c M a = M a := by
  funext b
  unfold zk_X3
  rw [zset_ne _ (by omega)]
  show (if a = c + 2 then _ else zset _ c _ _ a b) = M a b
  rw [if_neg (by omega), zset_ne _ (by omega)]
  show (if a = c + 1 then _ else M a b) = M a b
  rw [if_neg (by omega)]
def zk_k5 (M : ZM) : Nat → ZM
  | 0 => M
  | i + 1 => zset (zk_X3 (55 + 3 * i) (znew (zk_k5 M i) (55 + 3 * i) (.inl 3))) 53 i ((55 + 3 * i : Nat) : Int)
theorem tt_k5 : ∀ i, i < 16 → zTT[55 + 3 * i]? = some (.inl 3) ∧ zTT[55 + 3 * i + 1]? = some (.inr (0, 7)) ∧ zTT[55 + 3 * i + 2]? = some (.inr (0, 7)) := by decide +kernel
theorem zk_k5_lo (M : ZM) {a : Nat} (ha : a < 55) (hc : a ≠ 53) : ∀ i, zk_k5 M i a = M a := by
  intro i
  induction i with
  | zero => rfl
  | succ i ih =>
    show zset (zk_X3 _ _) _ _ _ a = M a
    rw [zset_ne _ hc, zk_X3_lo _ (by omega)]
    funext b
    show (if a = _ then _ else zk_k5 M i a b) = M a b
    rw [if_neg (by omega), ih]
theorem l_k5 {l : Launch} {X : ZX} {M : ZM} {out : ZO} (hM : M 52 0 = 53) (ho : 103 ≤ out.2.1) (kk : zGo l X 2 tX5_init 48 [some (zr 52), some (zi 16)] [] 103 (zk_k5 M 16) out) : ∀ (j i : Nat), i + j = 16 → zGo l X 2 tX5_init 23 [some (zr 52), some (zi (i : Int))] [] (55 + 3 * i) (zk_k5 M i) out := by
  intro j
  induction j with
  | zero =>
    intro i hi
    rw [Nat.add_zero] at hi
    subst hi
    refine go_iload_n dX5_init_23 rfl rfl ?_
    refine go_bipush dX5_init_24 rfl ?_
    refine go_icmp_ge (tgt := 48) dX5_init_26 rfl (fun _ => kk) (fun h => absurd (by decide) h)
  | succ j ih =>
    intro i hi
    obtain ⟨t0, t1, t2⟩ := tt_k5 i (by omega)
    have hr : zk_k5 M i 52 0 = 53 := by rw [zk_k5_lo M (by decide) (by decide)]; exact hM
    refine go_iload_n dX5_init_23 rfl rfl ?_
    refine go_bipush dX5_init_24 rfl ?_
    refine go_icmp_ge (tgt := 48) dX5_init_26 rfl (fun h => absurd h (by rw [w32_id (by omega) (by omega), w32_id (by omega) (by omega)]; omega)) (fun _ => ?_)
    refine go_aload_n dX5_init_29 rfl rfl (by decide) ?_
    refine go_get (t := 2) 52 rfl dX5_init_30 rfl (by omega) rfl inX5 (k := 0) (by decide) fk_X5_11 rfl rfl ?_
    rw [hr]
    refine go_iload_n dX5_init_33 rfl rfl ?_
    refine go_new dX5_init_34 t0 rfl inX3 tyX3_ok ck_X5_9 ik_X3 nk_X3 (by decide +kernel) rfl (by omega) ?_
    refine go_dup dX5_init_37 (fun z => by intro h9; cases h9) ?_
    refine go_callIN [] [zr ((55 + 3 * i : Nat) : Int), zi (i : Int), zr 53] (55 + 3 * i) rfl dX5_init_38 (k_X3 t0 t1 t2) ln_X5_20 mX3_init t0 (by decide) (Nat.le_of_ble_eq_true rfl) (by omega) ?_
    refine go_aast 53 (55 + 3 * i) rfl rfl dX5_init_41 rfl t0 (by omega) (by omega) (by omega) (by omega) ?_
    rw [Int.toNat_natCast]
    refine go_iinc dX5_init_42 rfl rfl ?_
    refine go_goto (tgt := 23) dX5_init_45 rfl ?_
    exact ih (i + 1) (by omega)
def zk_i5 (M : ZM) : Nat → ZM
  | 0 => M
  | i + 1 => zset (zk_X3 (103 + 3 * i) (znew (zk_i5 M i) (103 + 3 * i) (.inl 3))) 54 i ((103 + 3 * i : Nat) : Int)
theorem tt_i5 : ∀ i, i < 3 → zTT[103 + 3 * i]? = some (.inl 3) ∧ zTT[103 + 3 * i + 1]? = some (.inr (0, 7)) ∧ zTT[103 + 3 * i + 2]? = some (.inr (0, 7)) := by decide +kernel
theorem zk_i5_lo (M : ZM) {a : Nat} (ha : a < 103) (hc : a ≠ 54) : ∀ i, zk_i5 M i a = M a := by
  intro i
  induction i with
  | zero => rfl
  | succ i ih =>
    show zset (zk_X3 _ _) _ _ _ a = M a
    rw [zset_ne _ hc, zk_X3_lo _ (by omega)]
    funext b
    show (if a = _ then _ else zk_i5 M i a b) = M a b
    rw [if_neg (by omega), ih]
theorem l_i5 {l : Launch} {X : ZX} {M : ZM} {out : ZO} (hM : M 52 3 = 54) (ho : 112 ≤ out.2.1) (kk : zGo l X 2 tX5_init 74 [some (zr 52), some (zi 3)] [] 112 (zk_i5 M 3) out) : ∀ (j i : Nat), i + j = 3 → zGo l X 2 tX5_init 50 [some (zr 52), some (zi (i : Int))] [] (103 + 3 * i) (zk_i5 M i) out := by
  intro j
  induction j with
  | zero =>
    intro i hi
    rw [Nat.add_zero] at hi
    subst hi
    refine go_iload_n dX5_init_50 rfl rfl ?_
    refine go_iconst dX5_init_51 ?_
    refine go_icmp_ge (tgt := 74) dX5_init_52 rfl (fun _ => kk) (fun h => absurd (by decide) h)
  | succ j ih =>
    intro i hi
    obtain ⟨t0, t1, t2⟩ := tt_i5 i (by omega)
    have hr : zk_i5 M i 52 3 = 54 := by rw [zk_i5_lo M (by decide) (by decide)]; exact hM
    refine go_iload_n dX5_init_50 rfl rfl ?_
    refine go_iconst dX5_init_51 ?_
    refine go_icmp_ge (tgt := 74) dX5_init_52 rfl (fun h => absurd h (by rw [w32_id (by omega) (by omega), w32_id (by omega) (by omega)]; omega)) (fun _ => ?_)
    refine go_aload_n dX5_init_55 rfl rfl (by decide) ?_
    refine go_get (t := 2) 52 rfl dX5_init_56 rfl (by omega) rfl inX5 (k := 3) (by decide) fk_X5_17 rfl rfl ?_
    rw [hr]
    refine go_iload_n dX5_init_59 rfl rfl ?_
    refine go_new dX5_init_60 t0 rfl inX3 tyX3_ok ck_X5_9 ik_X3 nk_X3 (by decide +kernel) rfl (by omega) ?_
    refine go_dup dX5_init_63 (fun z => by intro h9; cases h9) ?_
    refine go_callIN [] [zr ((103 + 3 * i : Nat) : Int), zi (i : Int), zr 54] (103 + 3 * i) rfl dX5_init_64 (k_X3 t0 t1 t2) ln_X5_20 mX3_init t0 (by decide) (Nat.le_of_ble_eq_true rfl) (by omega) ?_
    refine go_aast 54 (103 + 3 * i) rfl rfl dX5_init_67 rfl t0 (by omega) (by omega) (by omega) (by omega) ?_
    rw [Int.toNat_natCast]
    refine go_iinc dX5_init_68 rfl rfl ?_
    refine go_goto (tgt := 50) dX5_init_71 rfl ?_
    exact ih (i + 1) (by omega)

def zk_X5_52 (M : ZM) : ZM := zk_i5 (zk_k5 (zset (znew (zset (znew M 53 (.inr (3, 16))) 52 0 (53)) 54 (.inr (3, 3))) 52 3 (54)) 16) 3
theorem k_X5_52 {l : Launch} {X : ZX} {M : ZM} : zMet l X 2 yX5_init tX5_init [zr 52] 53 M (none, 112, zk_X5_52 M) := by
  refine zMet.of [some (zr 52), none] (by decide +kernel) rfl rfl (Nat.le_of_ble_eq_true rfl) (Nat.le_of_ble_eq_true rfl) rfl ?_
  refine go_aload_n dX5_init_0 rfl rfl (by decide) ?_
  refine go_objInit (by decide) dX5_init_1 lk_X5_3 (by decide) (by decide) ?_
  refine go_aload_n dX5_init_4 rfl rfl (by decide) ?_
  refine go_bipush dX5_init_5 rfl ?_
  refine go_newq dX5_init_7 rfl ck_X5_9 (by decide) (Nat.le_of_ble_eq_true rfl) ?_
  refine go_putF (t := 2) (v := (53)) (k := 0) 52 rfl dX5_init_10 rfl (by decide) rfl inX5 tyX5_ok nmX5 (by decide) fk_X5_11 rfl rfl rfl rfl rfl (by show (0 : Int) ≤ _; decide) ?_
  refine go_aload_n dX5_init_13 rfl rfl (by decide) ?_
  refine go_iconst dX5_init_14 ?_
  refine go_newq dX5_init_15 rfl ck_X5_9 (by decide) (Nat.le_of_ble_eq_true rfl) ?_
  refine go_putF (t := 2) (v := (54)) (k := 3) 52 rfl dX5_init_18 rfl (by decide) rfl inX5 tyX5_ok nmX5 (by decide) fk_X5_17 rfl rfl rfl rfl rfl (by show (0 : Int) ≤ _; decide) ?_
  refine go_iconst dX5_init_21 ?_
  refine go_istore_n dX5_init_22 rfl (Nat.le_of_ble_eq_true rfl) rfl ?_
  refine l_k5 (M := (zset (znew (zset (znew M 53 (.inr (3, 16))) 52 0 (53)) 54 (.inr (3, 3))) 52 3 (54))) rfl (Nat.le_of_ble_eq_true rfl) ?_ 16 0 rfl
  refine go_iconst dX5_init_48 ?_
  refine go_istore_n dX5_init_49 rfl (Nat.le_of_ble_eq_true rfl) rfl ?_
  refine l_i5 (M := zk_k5 (zset (znew (zset (znew M 53 (.inr (3, 16))) 52 0 (53)) 54 (.inr (3, 3))) 52 3 (54)) 16) ((congrFun (zk_k5_lo (zset (znew (zset (znew M 53 (.inr (3, 16))) 52 0 (53)) 54 (.inr (3, 3))) 52 3 (54)) (by decide) (by decide) 16) 3).trans rfl) (Nat.le_of_ble_eq_true rfl) ?_ 3 0 rfl
  exact go_vret dX5_init_74 rfl
def zk_X9_112 (M : ZM) : ZM := (zset (znew (zset (znew M 113 (.inr (0, 7))) 112 3 (113)) 114 (.inr (0, 2928))) 112 4 (114))
theorem k_X9_112 {l : Launch} {X : ZX} {M : ZM} : zMet l X 1 yX9_init tX9_init [zr 112] 113 M (none, 115, zk_X9_112 M) := by
  refine zMet.of [some (zr 112)] (by decide +kernel) rfl rfl (Nat.le_of_ble_eq_true rfl) (Nat.le_of_ble_eq_true rfl) rfl ?_
  refine go_aload_n dX9_init_0 rfl rfl (by decide) ?_
  refine go_objInit (by decide) dX9_init_1 lk_X9_3 (by decide) (by decide) ?_
  refine go_aload_n dX9_init_4 rfl rfl (by decide) ?_
  refine go_bipush dX9_init_5 rfl ?_
  refine k_newa_int 7 dX9_init_7 rfl (by decide) (Nat.le_of_ble_eq_true rfl) ?_
  refine go_putF (t := 2) (v := (113)) (k := 3) 112 rfl dX9_init_9 rfl (by decide) rfl inX9 tyX9_ok nmX9 (by decide) fk_X9_9 rfl rfl rfl rfl rfl (by show (0 : Int) ≤ _; decide) ?_
  refine go_aload_n dX9_init_12 rfl rfl (by decide) ?_
  refine go_sipush dX9_init_13 rfl ?_
  refine k_newa_int 2928 dX9_init_16 rfl (by decide) (Nat.le_of_ble_eq_true rfl) ?_
  refine go_putF (t := 2) (v := (114)) (k := 4) 112 rfl dX9_init_18 rfl (by decide) rfl inX9 tyX9_ok nmX9 (by decide) fk_X9_15 rfl rfl rfl rfl rfl (by show (0 : Int) ≤ _; decide) ?_
  exact go_vret dX9_init_21 rfl
def zk_X7_115 (M : ZM) : ZM := (zset (znew (zset (znew (zset (znew (zset (znew (zset (znew M 116 (.inr (0, 128))) 115 1 (116)) 117 (.inr (0, 128))) 115 2 (117)) 118 (.inr (0, 128))) 115 3 (118)) 119 (.inr (0, 128))) 115 4 (119)) 120 (.inr (0, 128))) 115 5 (120))
theorem k_X7_115 {l : Launch} {X : ZX} {M : ZM} : zMet l X 1 yX7_init tX7_init [zr 115] 116 M (none, 121, zk_X7_115 M) := by
  refine zMet.of [some (zr 115)] (by decide +kernel) rfl rfl (Nat.le_of_ble_eq_true rfl) (Nat.le_of_ble_eq_true rfl) rfl ?_
  refine go_aload_n dX7_init_0 rfl rfl (by decide) ?_
  refine go_objInit (by decide) dX7_init_1 lk_X7_3 (by decide) (by decide) ?_
  refine go_aload_n dX7_init_4 rfl rfl (by decide) ?_
  refine go_sipush dX7_init_5 rfl ?_
  refine k_newa_int 128 dX7_init_8 rfl (by decide) (Nat.le_of_ble_eq_true rfl) ?_
  refine go_putF (t := 2) (v := (116)) (k := 1) 115 rfl dX7_init_10 rfl (by decide) rfl inX7 tyX7_ok nmX7 (by decide) fk_X7_11 rfl rfl rfl rfl rfl (by show (0 : Int) ≤ _; decide) ?_
  refine go_aload_n dX7_init_13 rfl rfl (by decide) ?_
  refine go_sipush dX7_init_14 rfl ?_
  refine k_newa_int 128 dX7_init_17 rfl (by decide) (Nat.le_of_ble_eq_true rfl) ?_
  refine go_putF (t := 2) (v := (117)) (k := 2) 115 rfl dX7_init_19 rfl (by decide) rfl inX7 tyX7_ok nmX7 (by decide) fk_X7_15 rfl rfl rfl rfl rfl (by show (0 : Int) ≤ _; decide) ?_
  refine go_aload_n dX7_init_22 rfl rfl (by decide) ?_
  refine go_sipush dX7_init_23 rfl ?_
  refine k_newa_int 128 dX7_init_26 rfl (by decide) (Nat.le_of_ble_eq_true rfl) ?_
  refine go_putF (t := 2) (v := (118)) (k := 3) 115 rfl dX7_init_28 rfl (by decide) rfl inX7 tyX7_ok nmX7 (by decide) fk_X7_18 rfl rfl rfl rfl rfl (by show (0 : Int) ≤ _; decide) ?_
  refine go_aload_n dX7_init_31 rfl rfl (by decide) ?_
  refine go_sipush dX7_init_32 rfl ?_
  refine k_newa_int 128 dX7_init_35 rfl (by decide) (Nat.le_of_ble_eq_true rfl) ?_
  refine go_putF (t := 2) (v := (119)) (k := 4) 115 rfl dX7_init_37 rfl (by decide) rfl inX7 tyX7_ok nmX7 (by decide) fk_X7_21 rfl rfl rfl rfl rfl (by show (0 : Int) ≤ _; decide) ?_
  refine go_aload_n dX7_init_40 rfl rfl (by decide) ?_
  refine go_sipush dX7_init_41 rfl ?_
  refine k_newa_int 128 dX7_init_44 rfl (by decide) (Nat.le_of_ble_eq_true rfl) ?_
  refine go_putF (t := 2) (v := (120)) (k := 5) 115 rfl dX7_init_46 rfl (by decide) rfl inX7 tyX7_ok nmX7 (by decide) fk_X7_24 rfl rfl rfl rfl rfl (by show (0 : Int) ≤ _; decide) ?_
  exact go_vret dX7_init_49 rfl
def zk_X1_121 (M : ZM) : ZM := (zset (znew (zset (znew M 122 (.inr (4, 64))) 121 6 (122)) 123 (.inr (0, 7))) 121 7 (123))
theorem k_X1_121 {l : Launch} {X : ZX} {M : ZM} : zMet l X 1 yX1_init tX1_init [zr 121] 122 M (none, 124, zk_X1_121 M) := by
  refine zMet.of [some (zr 121)] (by decide +kernel) rfl rfl (Nat.le_of_ble_eq_true rfl) (Nat.le_of_ble_eq_true rfl) rfl ?_
  refine go_aload_n dX1_init_0 rfl rfl (by decide) ?_
  refine go_objInit (by decide) dX1_init_1 lk_X1_3 (by decide) (by decide) ?_
  refine go_aload_n dX1_init_4 rfl rfl (by decide) ?_
  refine go_bipush dX1_init_5 rfl ?_
  refine k_newa_boolean 64 dX1_init_7 rfl (by decide) (Nat.le_of_ble_eq_true rfl) ?_
  refine go_putF (t := 2) (v := (122)) (k := 6) 121 rfl dX1_init_9 rfl (by decide) rfl inX1 tyX1_ok nmX1 (by decide) fk_X1_9 rfl rfl rfl rfl rfl (by show (0 : Int) ≤ _; decide) ?_
  refine go_aload_n dX1_init_12 rfl rfl (by decide) ?_
  refine go_bipush dX1_init_13 rfl ?_
  refine k_newa_int 7 dX1_init_15 rfl (by decide) (Nat.le_of_ble_eq_true rfl) ?_
  refine go_putF (t := 2) (v := (123)) (k := 7) 121 rfl dX1_init_17 rfl (by decide) rfl inX1 tyX1_ok nmX1 (by decide) fk_X1_15 rfl rfl rfl rfl rfl (by show (0 : Int) ≤ _; decide) ?_
  exact go_vret dX1_init_20 rfl
def zk_X11_0 (M : ZM) : ZM := (zset (zk_X1_121 (znew (zset (zk_X7_115 (znew (zset (zk_X9_112 (znew (zset (zk_X5_52 (znew (zset (zk_X3 49 (znew (zset (zk_X6_48 (znew (zset (zk_X0_25 (znew (zset (zk_X0_2 (znew (zset (znew M 1 (.inr (1, 900))) 0 0 (1)) 2 (.inl 0))) 0 5 (2)) 25 (.inl 0))) 0 6 (25)) 48 (.inl 6))) 0 7 (48)) 49 (.inl 3))) 0 8 (49)) 52 (.inl 5))) 0 9 (52)) 112 (.inl 9))) 0 10 (112)) 115 (.inl 7))) 0 11 (115)) 121 (.inl 1))) 0 12 (121))
theorem k_X11_0 {l : Launch} {X : ZX} {M : ZM} : zMet l X 3 yX11_init tX11_init [zr 0] 1 M (none, 124, zk_X11_0 M) := by
  refine zMet.of [some (zr 0)] (by decide +kernel) rfl rfl (Nat.le_of_ble_eq_true rfl) (Nat.le_of_ble_eq_true rfl) rfl ?_
  refine go_aload_n dX11_init_0 rfl rfl (by decide) ?_
  refine go_objInit (by decide) dX11_init_1 lk_X11_1 (by decide) (by decide) ?_
  refine go_aload_n dX11_init_4 rfl rfl (by decide) ?_
  refine go_sipush dX11_init_5 rfl ?_
  refine k_newa_byte 900 dX11_init_8 rfl (by decide) (Nat.le_of_ble_eq_true rfl) ?_
  refine go_putF (t := 2) (v := (1)) (k := 0) 0 rfl dX11_init_10 rfl (by decide) rfl inX11 tyX11_ok nmX11 (by decide) fk_X11_9 rfl rfl rfl rfl rfl (by show (0 : Int) ≤ _; decide) ?_
  refine go_aload_n dX11_init_13 rfl rfl (by decide) ?_
  refine go_new dX11_init_14 rfl rfl inX0 tyX0_ok ck_X11_13 ik_X0 nk_X0 (by decide +kernel) rfl (Nat.le_of_ble_eq_true rfl) ?_
  refine go_dup dX11_init_17 (fun z => by intro h9; cases h9) ?_
  refine go_callIN [] [zr (2), zr (0)] 2 rfl dX11_init_18 k_X0_2 ln_X11_15 mX0_init rfl (by decide) (by decide) (Nat.le_of_ble_eq_true rfl) ?_
  refine go_put (t := 2) (v := (2)) (k := 5) 0 rfl dX11_init_21 rfl (by decide) rfl inX11 tyX11_ok nmX11 (by decide) fk_X11_16 rfl rfl rfl (by show (0 : Int) ≤ _; decide) ?_
  refine go_aload_n dX11_init_24 rfl rfl (by decide) ?_
  refine go_new dX11_init_25 rfl rfl inX0 tyX0_ok ck_X11_13 ik_X0 nk_X0 (by decide +kernel) rfl (Nat.le_of_ble_eq_true rfl) ?_
  refine go_dup dX11_init_28 (fun z => by intro h9; cases h9) ?_
  refine go_callIN [] [zr (25), zr (0)] 25 rfl dX11_init_29 k_X0_25 ln_X11_15 mX0_init rfl (by decide) (by decide) (Nat.le_of_ble_eq_true rfl) ?_
  refine go_put (t := 2) (v := (25)) (k := 6) 0 rfl dX11_init_32 rfl (by decide) rfl inX11 tyX11_ok nmX11 (by decide) fk_X11_20 rfl rfl rfl (by show (0 : Int) ≤ _; decide) ?_
  refine go_aload_n dX11_init_35 rfl rfl (by decide) ?_
  refine go_new dX11_init_36 rfl rfl inX6 tyX6_ok ck_X11_23 ik_X6 nk_X6 (by decide +kernel) rfl (Nat.le_of_ble_eq_true rfl) ?_
  refine go_dup dX11_init_39 (fun z => by intro h9; cases h9) ?_
  refine go_callIN [] [zr (48), zr (0)] 48 rfl dX11_init_40 k_X6_48 ln_X11_25 mX6_init rfl (by decide) (by decide) (Nat.le_of_ble_eq_true rfl) ?_
  refine go_putF (t := 2) (v := (48)) (k := 7) 0 rfl dX11_init_43 rfl (by decide) rfl inX11 tyX11_ok nmX11 (by decide) fk_X11_26 rfl rfl rfl rfl rfl (by show (0 : Int) ≤ _; decide) ?_
  refine go_aload_n dX11_init_46 rfl rfl (by decide) ?_
  refine go_new dX11_init_47 rfl rfl inX3 tyX3_ok ck_X11_30 ik_X3 nk_X3 (by decide +kernel) rfl (Nat.le_of_ble_eq_true rfl) ?_
  refine go_dup dX11_init_50 (fun z => by intro h9; cases h9) ?_
  refine go_callIN [] [zr (49), zr (0)] 49 rfl dX11_init_51 (k_X3 (c := 49) rfl rfl rfl) ln_X11_32 mX3_init rfl (by decide) (by decide) (Nat.le_of_ble_eq_true rfl) ?_
  refine go_putF (t := 2) (v := (49)) (k := 8) 0 rfl dX11_init_54 rfl (by decide) rfl inX11 tyX11_ok nmX11 (by decide) fk_X11_33 rfl rfl rfl rfl rfl (by show (0 : Int) ≤ _; decide) ?_
  refine go_aload_n dX11_init_57 rfl rfl (by decide) ?_
  refine go_new dX11_init_58 rfl rfl inX5 tyX5_ok ck_X11_37 ik_X5 nk_X5 (by decide +kernel) rfl (Nat.le_of_ble_eq_true rfl) ?_
  refine go_dup dX11_init_61 (fun z => by intro h9; cases h9) ?_
  refine go_callI [] [zr (52), zr (0)] 52 rfl dX11_init_62 k_X5_52 lk_X11_39 mX5_init rfl (by decide) (by decide) (Nat.le_of_ble_eq_true rfl) ?_
  refine go_putF (t := 2) (v := (52)) (k := 9) 0 rfl dX11_init_65 rfl (by decide) rfl inX11 tyX11_ok nmX11 (by decide) fk_X11_40 rfl rfl rfl rfl rfl (by show (0 : Int) ≤ _; decide) ?_
  refine go_aload_n dX11_init_68 rfl rfl (by decide) ?_
  refine go_new dX11_init_69 rfl rfl inX9 tyX9_ok ck_X11_44 ik_X9 nk_X9 (by decide +kernel) rfl (Nat.le_of_ble_eq_true rfl) ?_
  refine go_dup dX11_init_72 (fun z => by intro h9; cases h9) ?_
  refine go_callIN [] [zr (112), zr (0)] 112 rfl dX11_init_73 k_X9_112 ln_X11_46 mX9_init rfl (by decide) (by decide) (Nat.le_of_ble_eq_true rfl) ?_
  refine go_putF (t := 2) (v := (112)) (k := 10) 0 rfl dX11_init_76 rfl (by decide) rfl inX11 tyX11_ok nmX11 (by decide) fk_X11_47 rfl rfl rfl rfl rfl (by show (0 : Int) ≤ _; decide) ?_
  refine go_aload_n dX11_init_79 rfl rfl (by decide) ?_
  refine go_new dX11_init_80 rfl rfl inX7 tyX7_ok ck_X11_51 ik_X7 nk_X7 (by decide +kernel) rfl (Nat.le_of_ble_eq_true rfl) ?_
  refine go_dup dX11_init_83 (fun z => by intro h9; cases h9) ?_
  refine go_callIN [] [zr (115), zr (0)] 115 rfl dX11_init_84 k_X7_115 ln_X11_53 mX7_init rfl (by decide) (by decide) (Nat.le_of_ble_eq_true rfl) ?_
  refine go_putF (t := 2) (v := (115)) (k := 11) 0 rfl dX11_init_87 rfl (by decide) rfl inX11 tyX11_ok nmX11 (by decide) fk_X11_54 rfl rfl rfl rfl rfl (by show (0 : Int) ≤ _; decide) ?_
  refine go_aload_n dX11_init_90 rfl rfl (by decide) ?_
  refine go_new dX11_init_91 rfl rfl inX1 tyX1_ok ck_X11_58 ik_X1 nk_X1 (by decide +kernel) rfl (Nat.le_of_ble_eq_true rfl) ?_
  refine go_dup dX11_init_94 (fun z => by intro h9; cases h9) ?_
  refine go_callIN [] [zr (121), zr (0)] 121 rfl dX11_init_95 k_X1_121 ln_X11_60 mX1_init rfl (by decide) (by decide) (Nat.le_of_ble_eq_true rfl) ?_
  refine go_putF (t := 2) (v := (121)) (k := 12) 0 rfl dX11_init_98 rfl (by decide) rfl inX11 tyX11_ok nmX11 (by decide) fk_X11_61 rfl rfl rfl rfl rfl (by show (0 : Int) ≤ _; decide) ?_
  exact go_vret dX11_init_101 rfl
def zk_X12_124 (M : ZM) : ZM := (zset (znew (zset (znew (zset (znew (zset (znew (zset (znew (zset (znew (zset (znew (zset (znew (zset (znew (zset (znew (zset (znew (zset (znew (zset (zset (znew M 125 (.inr (0, 900))) 124 1 (125)) 124 10 (-1)) 126 (.inr (0, 8))) 124 12 (126)) 127 (.inr (0, 421))) 124 15 (127)) 128 (.inr (0, 421))) 124 16 (128)) 129 (.inr (0, 18))) 124 17 (129)) 130 (.inr (0, 288))) 124 18 (130)) 131 (.inr (0, 54))) 124 19 (131)) 132 (.inr (0, 7))) 124 22 (132)) 133 (.inr (0, 7))) 124 23 (133)) 134 (.inr (0, 3))) 124 24 (134)) 135 (.inr (0, 7))) 124 26 (135)) 136 (.inr (0, 7))) 124 27 (136)) 137 (.inr (0, 7))) 124 35 (137))
theorem k_X12_124 {l : Launch} {X : ZX} {M : ZM} : zMet l X 1 yX12_init tX12_init [zr 124] 125 M (none, 138, zk_X12_124 M) := by
  refine zMet.of [some (zr 124)] (by decide +kernel) rfl rfl (Nat.le_of_ble_eq_true rfl) (Nat.le_of_ble_eq_true rfl) rfl ?_
  refine go_aload_n dX12_init_0 rfl rfl (by decide) ?_
  refine go_objInit (by decide) dX12_init_1 lk_X12_1 (by decide) (by decide) ?_
  refine go_aload_n dX12_init_4 rfl rfl (by decide) ?_
  refine go_sipush dX12_init_5 rfl ?_
  refine k_newa_int 900 dX12_init_8 rfl (by decide) (Nat.le_of_ble_eq_true rfl) ?_
  refine go_putF (t := 2) (v := (125)) (k := 1) 124 rfl dX12_init_10 rfl (by decide) rfl inX12 tyX12_ok nmX12 (by decide) fk_X12_7 rfl rfl rfl rfl rfl (by show (0 : Int) ≤ _; decide) ?_
  refine go_aload_n dX12_init_13 rfl rfl (by decide) ?_
  refine go_iconst dX12_init_14 ?_
  refine go_put (t := 0) (v := (-1)) (k := 10) 124 rfl dX12_init_15 rfl (by decide) rfl inX12 tyX12_ok nmX12 (by decide) fk_X12_13 rfl rfl rfl trivial ?_
  refine go_aload_n dX12_init_18 rfl rfl (by decide) ?_
  refine go_bipush dX12_init_19 rfl ?_
  refine k_newa_int 8 dX12_init_21 rfl (by decide) (Nat.le_of_ble_eq_true rfl) ?_
  refine go_putF (t := 2) (v := (126)) (k := 12) 124 rfl dX12_init_23 rfl (by decide) rfl inX12 tyX12_ok nmX12 (by decide) fk_X12_17 rfl rfl rfl rfl rfl (by show (0 : Int) ≤ _; decide) ?_
  refine go_aload_n dX12_init_26 rfl rfl (by decide) ?_
  refine go_sipush dX12_init_27 rfl ?_
  refine k_newa_int 421 dX12_init_30 rfl (by decide) (Nat.le_of_ble_eq_true rfl) ?_
  refine go_putF (t := 2) (v := (127)) (k := 15) 124 rfl dX12_init_32 rfl (by decide) rfl inX12 tyX12_ok nmX12 (by decide) fk_X12_20 rfl rfl rfl rfl rfl (by show (0 : Int) ≤ _; decide) ?_
  refine go_aload_n dX12_init_35 rfl rfl (by decide) ?_
  refine go_sipush dX12_init_36 rfl ?_
  refine k_newa_int 421 dX12_init_39 rfl (by decide) (Nat.le_of_ble_eq_true rfl) ?_
  refine go_putF (t := 2) (v := (128)) (k := 16) 124 rfl dX12_init_41 rfl (by decide) rfl inX12 tyX12_ok nmX12 (by decide) fk_X12_23 rfl rfl rfl rfl rfl (by show (0 : Int) ≤ _; decide) ?_
  refine go_aload_n dX12_init_44 rfl rfl (by decide) ?_
  refine go_bipush dX12_init_45 rfl ?_
  refine k_newa_int 18 dX12_init_47 rfl (by decide) (Nat.le_of_ble_eq_true rfl) ?_
  refine go_putF (t := 2) (v := (129)) (k := 17) 124 rfl dX12_init_49 rfl (by decide) rfl inX12 tyX12_ok nmX12 (by decide) fk_X12_26 rfl rfl rfl rfl rfl (by show (0 : Int) ≤ _; decide) ?_
  refine go_aload_n dX12_init_52 rfl rfl (by decide) ?_
  refine go_sipush dX12_init_53 rfl ?_
  refine k_newa_int 288 dX12_init_56 rfl (by decide) (Nat.le_of_ble_eq_true rfl) ?_
  refine go_putF (t := 2) (v := (130)) (k := 18) 124 rfl dX12_init_58 rfl (by decide) rfl inX12 tyX12_ok nmX12 (by decide) fk_X12_29 rfl rfl rfl rfl rfl (by show (0 : Int) ≤ _; decide) ?_
  refine go_aload_n dX12_init_61 rfl rfl (by decide) ?_
  refine go_bipush dX12_init_62 rfl ?_
  refine k_newa_int 54 dX12_init_64 rfl (by decide) (Nat.le_of_ble_eq_true rfl) ?_
  refine go_putF (t := 2) (v := (131)) (k := 19) 124 rfl dX12_init_66 rfl (by decide) rfl inX12 tyX12_ok nmX12 (by decide) fk_X12_32 rfl rfl rfl rfl rfl (by show (0 : Int) ≤ _; decide) ?_
  refine go_aload_n dX12_init_69 rfl rfl (by decide) ?_
  refine go_bipush dX12_init_70 rfl ?_
  refine k_newa_int 7 dX12_init_72 rfl (by decide) (Nat.le_of_ble_eq_true rfl) ?_
  refine go_putF (t := 2) (v := (132)) (k := 22) 124 rfl dX12_init_74 rfl (by decide) rfl inX12 tyX12_ok nmX12 (by decide) fk_X12_35 rfl rfl rfl rfl rfl (by show (0 : Int) ≤ _; decide) ?_
  refine go_aload_n dX12_init_77 rfl rfl (by decide) ?_
  refine go_bipush dX12_init_78 rfl ?_
  refine k_newa_int 7 dX12_init_80 rfl (by decide) (Nat.le_of_ble_eq_true rfl) ?_
  refine go_putF (t := 2) (v := (133)) (k := 23) 124 rfl dX12_init_82 rfl (by decide) rfl inX12 tyX12_ok nmX12 (by decide) fk_X12_38 rfl rfl rfl rfl rfl (by show (0 : Int) ≤ _; decide) ?_
  refine go_aload_n dX12_init_85 rfl rfl (by decide) ?_
  refine go_iconst dX12_init_86 ?_
  refine k_newa_int 3 dX12_init_87 rfl (by decide) (Nat.le_of_ble_eq_true rfl) ?_
  refine go_putF (t := 2) (v := (134)) (k := 24) 124 rfl dX12_init_89 rfl (by decide) rfl inX12 tyX12_ok nmX12 (by decide) fk_X12_41 rfl rfl rfl rfl rfl (by show (0 : Int) ≤ _; decide) ?_
  refine go_aload_n dX12_init_92 rfl rfl (by decide) ?_
  refine go_bipush dX12_init_93 rfl ?_
  refine k_newa_int 7 dX12_init_95 rfl (by decide) (Nat.le_of_ble_eq_true rfl) ?_
  refine go_putF (t := 2) (v := (135)) (k := 26) 124 rfl dX12_init_97 rfl (by decide) rfl inX12 tyX12_ok nmX12 (by decide) fk_X12_44 rfl rfl rfl rfl rfl (by show (0 : Int) ≤ _; decide) ?_
  refine go_aload_n dX12_init_100 rfl rfl (by decide) ?_
  refine go_bipush dX12_init_101 rfl ?_
  refine k_newa_int 7 dX12_init_103 rfl (by decide) (Nat.le_of_ble_eq_true rfl) ?_
  refine go_putF (t := 2) (v := (136)) (k := 27) 124 rfl dX12_init_105 rfl (by decide) rfl inX12 tyX12_ok nmX12 (by decide) fk_X12_47 rfl rfl rfl rfl rfl (by show (0 : Int) ≤ _; decide) ?_
  refine go_aload_n dX12_init_108 rfl rfl (by decide) ?_
  refine go_bipush dX12_init_109 rfl ?_
  refine k_newa_int 7 dX12_init_111 rfl (by decide) (Nat.le_of_ble_eq_true rfl) ?_
  refine go_putF (t := 2) (v := (137)) (k := 35) 124 rfl dX12_init_113 rfl (by decide) rfl inX12 tyX12_ok nmX12 (by decide) fk_X12_50 rfl rfl rfl rfl rfl (by show (0 : Int) ≤ _; decide) ?_
  exact go_vret dX12_init_116 rfl
