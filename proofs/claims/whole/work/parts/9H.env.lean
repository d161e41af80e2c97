/-! WHAT THE STATEMENT GIVES OF THE START -/
def st_t (q : String × Nat × String) : Term := .string q.1 q.2.1
def st_v (q : String × Nat × String) : Term := .field (st_t q) "java/lang/String" "value" "[B"
/-- the premises of a String constant -/
def st_ws (q : String × Nat × String) (bs : List Int32) : List Cond := Cond.exactly (st_t q) "java/lang/String" :: Cond.eq (.field (st_t q) "java/lang/String" "code\x72" "B") (.int 0) :: Cond.arrayOf (st_v q) .byte :: Cond.eq (.length (st_v q)) (.int (Int32.ofNat bs.length)) :: (List.range bs.length).map (fun j => Cond.eq (.elem (st_v q) (.int (Int32.ofNat j))) (.int (bs.getD j 0)))
abbrev st_gv : List Cond := flatC (Jvm.Cond.and given_1 narrow_1)
def st_ok (i : Nat) : Prop := (∀ w ∈ st_ws (zstr.getD i ("", 0, "")) (zbyt.getD i []), w ∈ st_gv) ∧ Cond.stringRef (zstr.getD i ("", 0, "")).1 (zstr.getD i ("", 0, "")).2.1 (zstr.getD i ("", 0, "")).2.2 ∈ lw_tbl ∧ (zbyt.getD i []).length < 2 ^ 31
theorem st_0 : st_ok 0 := ⟨by decide +kernel, by decide +kernel, by decide +kernel⟩
theorem st_1 : st_ok 1 := ⟨by decide +kernel, by decide +kernel, by decide +kernel⟩
theorem st_2 : st_ok 2 := ⟨by decide +kernel, by decide +kernel, by decide +kernel⟩
theorem st_3 : st_ok 3 := ⟨by decide +kernel, by decide +kernel, by decide +kernel⟩
theorem st_4 : st_ok 4 := ⟨by decide +kernel, by decide +kernel, by decide +kernel⟩
theorem st_5 : st_ok 5 := ⟨by decide +kernel, by decide +kernel, by decide +kernel⟩
theorem st_6 : st_ok 6 := ⟨by decide +kernel, by decide +kernel, by decide +kernel⟩
theorem st_7 : st_ok 7 := ⟨by decide +kernel, by decide +kernel, by decide +kernel⟩
theorem st_8 : st_ok 8 := ⟨by decide +kernel, by decide +kernel, by decide +kernel⟩
theorem st_9 : st_ok 9 := ⟨by decide +kernel, by decide +kernel, by decide +kernel⟩
theorem st_10 : st_ok 10 := ⟨by decide +kernel, by decide +kernel, by decide +kernel⟩
theorem st_11 : st_ok 11 := ⟨by decide +kernel, by decide +kernel, by decide +kernel⟩
theorem st_12 : st_ok 12 := ⟨by decide +kernel, by decide +kernel, by decide +kernel⟩
theorem st_13 : st_ok 13 := ⟨by decide +kernel, by decide +kernel, by decide +kernel⟩
theorem st_14 : st_ok 14 := ⟨by decide +kernel, by decide +kernel, by decide +kernel⟩
theorem st_15 : st_ok 15 := ⟨by decide +kernel, by decide +kernel, by decide +kernel⟩
theorem st_16 : st_ok 16 := ⟨by decide +kernel, by decide +kernel, by decide +kernel⟩
theorem st_17 : st_ok 17 := ⟨by decide +kernel, by decide +kernel, by decide +kernel⟩
theorem st_18 : st_ok 18 := ⟨by decide +kernel, by decide +kernel, by decide +kernel⟩
theorem st_19 : st_ok 19 := ⟨by decide +kernel, by decide +kernel, by decide +kernel⟩
theorem st_20 : st_ok 20 := ⟨by decide +kernel, by decide +kernel, by decide +kernel⟩
theorem st_21 : st_ok 21 := ⟨by decide +kernel, by decide +kernel, by decide +kernel⟩
theorem st_22 : st_ok 22 := ⟨by decide +kernel, by decide +kernel, by decide +kernel⟩
theorem st_23 : st_ok 23 := ⟨by decide +kernel, by decide +kernel, by decide +kernel⟩
theorem st_24 : st_ok 24 := ⟨by decide +kernel, by decide +kernel, by decide +kernel⟩
theorem st_25 : st_ok 25 := ⟨by decide +kernel, by decide +kernel, by decide +kernel⟩
theorem st_26 : st_ok 26 := ⟨by decide +kernel, by decide +kernel, by decide +kernel⟩
theorem st_27 : st_ok 27 := ⟨by decide +kernel, by decide +kernel, by decide +kernel⟩
theorem st_28 : st_ok 28 := ⟨by decide +kernel, by decide +kernel, by decide +kernel⟩
theorem st_29 : st_ok 29 := ⟨by decide +kernel, by decide +kernel, by decide +kernel⟩
theorem st_30 : st_ok 30 := ⟨by decide +kernel, by decide +kernel, by decide +kernel⟩
theorem st_31 : st_ok 31 := ⟨by decide +kernel, by decide +kernel, by decide +kernel⟩
theorem st_32 : st_ok 32 := ⟨by decide +kernel, by decide +kernel, by decide +kernel⟩
theorem st_33 : st_ok 33 := ⟨by decide +kernel, by decide +kernel, by decide +kernel⟩
theorem st_34 : st_ok 34 := ⟨by decide +kernel, by decide +kernel, by decide +kernel⟩
theorem st_35 : st_ok 35 := ⟨by decide +kernel, by decide +kernel, by decide +kernel⟩
theorem st_36 : st_ok 36 := ⟨by decide +kernel, by decide +kernel, by decide +kernel⟩
theorem st_37 : st_ok 37 := ⟨by decide +kernel, by decide +kernel, by decide +kernel⟩
theorem st_38 : st_ok 38 := ⟨by decide +kernel, by decide +kernel, by decide +kernel⟩
theorem st_39 : st_ok 39 := ⟨by decide +kernel, by decide +kernel, by decide +kernel⟩
theorem st_40 : st_ok 40 := ⟨by decide +kernel, by decide +kernel, by decide +kernel⟩
theorem st_41 : st_ok 41 := ⟨by decide +kernel, by decide +kernel, by decide +kernel⟩
theorem st_42 : st_ok 42 := ⟨by decide +kernel, by decide +kernel, by decide +kernel⟩
theorem st_43 : st_ok 43 := ⟨by decide +kernel, by decide +kernel, by decide +kernel⟩
theorem st_44 : st_ok 44 := ⟨by decide +kernel, by decide +kernel, by decide +kernel⟩
theorem st_all : ∀ i, i < 45 → st_ok i := by
  intro i hi
  match i, hi with
  | 0, _ => exact st_0
  | 1, _ => exact st_1
  | 2, _ => exact st_2
  | 3, _ => exact st_3
  | 4, _ => exact st_4
  | 5, _ => exact st_5
  | 6, _ => exact st_6
  | 7, _ => exact st_7
  | 8, _ => exact st_8
  | 9, _ => exact st_9
  | 10, _ => exact st_10
  | 11, _ => exact st_11
  | 12, _ => exact st_12
  | 13, _ => exact st_13
  | 14, _ => exact st_14
  | 15, _ => exact st_15
  | 16, _ => exact st_16
  | 17, _ => exact st_17
  | 18, _ => exact st_18
  | 19, _ => exact st_19
  | 20, _ => exact st_20
  | 21, _ => exact st_21
  | 22, _ => exact st_22
  | 23, _ => exact st_23
  | 24, _ => exact st_24
  | 25, _ => exact st_25
  | 26, _ => exact st_26
  | 27, _ => exact st_27
  | 28, _ => exact st_28
  | 29, _ => exact st_29
  | 30, _ => exact st_30
  | 31, _ => exact st_31
  | 32, _ => exact st_32
  | 33, _ => exact st_33
  | 34, _ => exact st_34
  | 35, _ => exact st_35
  | 36, _ => exact st_36
  | 37, _ => exact st_37
  | 38, _ => exact st_38
  | 39, _ => exact st_39
  | 40, _ => exact st_40
  | 41, _ => exact st_41
  | 42, _ => exact st_42
  | 43, _ => exact st_43
  | 44, _ => exact st_44
  | n + 45, h => exact absurd h (by omega)
theorem st_one {args : Array Value} {s : State} (hs : ∀ w ∈ st_gv, w.before args s = true) (hts : ∀ w ∈ lw_tbl, w.before args s = true) {A : Nat → Prop} (hA : ∀ a : Nat, a < s.heap.size → ¬ A a) : ∃ ad : Nat → Nat × Nat, ∀ (i : Nat) (q : String × Nat × String), zstr[i]? = some q → vk_R q.1 q.2.1 q.2.2 (ad i).1 s ∧ va_O "java/lang/String" (ad i).1 A s s.heap ∧ va_OF "java/lang/String" "code\x72" "B" (.int 0) (ad i).1 A s s.heap ∧ va_OF "java/lang/String" "value" "[B" (.ref (ad i).2) (ad i).1 A s s.heap ∧ va_T .byte (ad i).2 (zbyt.getD i []).length (fun j => .int ((zbyt.getD i []).getD j 0)) A s s.heap := by
  have h0 : ∀ i : Nat, ∃ z : Nat × Nat, ∀ q : String × Nat × String, zstr[i]? = some q → vk_R q.1 q.2.1 q.2.2 z.1 s ∧ va_O "java/lang/String" z.1 A s s.heap ∧ va_OF "java/lang/String" "code\x72" "B" (.int 0) z.1 A s s.heap ∧ va_OF "java/lang/String" "value" "[B" (.ref z.2) z.1 A s s.heap ∧ va_T .byte z.2 (zbyt.getD i []).length (fun j => .int ((zbyt.getD i []).getD j 0)) A s s.heap := by
    intro i
    by_cases hi : i < 45
    · obtain ⟨k1, k2, k3⟩ := st_all i hi
      have k1 : ∀ w ∈ st_ws (zstr.getD i ("", 0, "")) (zbyt.getD i []), w.before args s = true := fun w hw => hs w (k1 w hw)
      have k2 := hts _ k2
      generalize hq0 : zstr.getD i ("", 0, "") = q0 at k1 k2
      have w1 := k1 (Cond.exactly (st_t q0) "java/lang/String") List.mem_cons_self
      have w2 := k1 (Cond.eq (.field (st_t q0) "java/lang/String" "code\x72" "B") (.int 0)) (List.mem_cons_of_mem _ List.mem_cons_self)
      have w3 := k1 (Cond.arrayOf (st_v q0) .byte) (List.mem_cons_of_mem _ (List.mem_cons_of_mem _ List.mem_cons_self))
      have w4 := k1 (Cond.eq (.length (st_v q0)) (.int (Int32.ofNat (zbyt.getD i []).length))) (List.mem_cons_of_mem _ (List.mem_cons_of_mem _ (List.mem_cons_of_mem _ List.mem_cons_self)))
      have w5 : ∀ j : Nat, j < (zbyt.getD i []).length → (Cond.eq (.elem (st_v q0) (.int (Int32.ofNat j))) (.int ((zbyt.getD i []).getD j 0))).before args s = true := fun j hj => k1 _ (List.mem_cons_of_mem _ (List.mem_cons_of_mem _ (List.mem_cons_of_mem _ (List.mem_cons_of_mem _ (List.mem_map.mpr ⟨j, List.mem_range.mpr hj, rfl⟩)))))
      obtain ⟨a, c, cA, kA, q1, q2, q3, q4, q5, q6, -⟩ := Cond.exactly_spec (args := args) (first := s) (o := none) (s := s) (idx := []) (t := st_t q0) (cls := "java/lang/String") w1
      obtain ⟨t, ht, hT⟩ := va_Tof (f := fun j => .int ((zbyt.getD i []).getD j 0)) (A := A) k3 w3 (va_eqt w4) (fun j hj => va_eqt (w5 j hj)) hA
      refine ⟨(a, t), fun q hq => ?_⟩
      have eq : q0 = q := by rw [← hq0, List.getD_eq_getElem?_getD, hq, Option.getD_some]
      subst eq
      exact ⟨vk_R.of k2 q1, ⟨cA, q3, q5, by rw [q6]; exact q2, hA a (Array.getElem?_eq_some_iff.mp q3).1⟩, vk_OFof q1 (va_eqt w2) hA, vk_OFof q1 ht hA, hT⟩
    · refine ⟨(0, 0), fun q hq => ?_⟩
      exfalso
      have := (List.getElem?_eq_some_iff.mp hq).1
      have h45 : zstr.length = 45 := by decide +kernel
      omega
  obtain ⟨ad, had⟩ := Classical.axiomOfChoice h0
  exact ⟨ad, had⟩
theorem en_cs1 : Cond.laysStatic "java/lang/String" "COMPACT_STRINGS" "Z" ∈ lw_tbl := by decide +kernel
theorem en_cs2 : Cond.initialized "java/lang/String" ∈ lw_tbl := by decide +kernel
theorem en_cs3 : Cond.eq (.static "java/lang/String" "COMPACT_STRINGS" "Z") (.int 1) ∈ st_gv := by decide +kernel
theorem en_fm1 : Cond.laysStatic "jdk/internal/util/Preconditions" "SIOOBE_FORMATTER" "Ljava/util/function/BiFunction;" ∈ lw_tbl := by decide +kernel
theorem en_fm2 : Cond.initialized "jdk/internal/util/Preconditions" ∈ lw_tbl := by decide +kernel
theorem en_fm3 : Cond.isRef (.static "jdk/internal/util/Preconditions" "SIOOBE_FORMATTER" "Ljava/util/function/BiFunction;") ∈ st_gv := by decide +kernel
theorem en_us1 : Cond.laysStatic Bundle.tN "UNASSIGNED_STACK" Bundle.steD ∈ lw_tbl := by decide +kernel
theorem en_us2 : Cond.initialized Bundle.tN ∈ lw_tbl := by decide +kernel
theorem en_us3 : Cond.isRef (.static Bundle.tN "UNASSIGNED_STACK" Bundle.steD) ∈ st_gv := by decide +kernel
theorem en_ss1 : Cond.laysStatic Bundle.tN "SUPPRESSED_SENTINEL" Bundle.listD ∈ lw_tbl := by decide +kernel
theorem en_ss3 : Cond.isRef (.static Bundle.tN "SUPPRESSED_SENTINEL" Bundle.listD) ∈ st_gv := by decide +kernel
theorem en_ao : Cond.arrayOver (.object "SleepWords$Now") ∈ lw_tbl := by decide +kernel
theorem en_x1 : Cond.castable "java/util/NoSuchElementException" "java/util/NoSuchElementException" ∈ lw_tbl := by decide +kernel
theorem en_x2 : Cond.declares (Bundle.initS "java/lang/RuntimeException") ∈ lw_tbl := by decide +kernel
theorem en_x3 : Cond.declares (Bundle.initS "java/lang/Exception") ∈ lw_tbl := by decide +kernel
theorem en_x4 : Cond.declares (Bundle.initS Bundle.tN) ∈ lw_tbl := by decide +kernel
theorem en_arr {args : Array Value} {s : State} {ty : FieldType} (h : (Cond.arrayClass ty).before args s = true) (ho : ∀ C, ty ≠ .object C) : ∃ cA : ClassId, ArrOfT s cA ty ∧ va_RA s cA ty := by
  obtain ⟨c, k, comp, h1, h2, h3⟩ := Cond.arrayClass_spec h
  refine ⟨c, fun n z => ⟨fun k h => (by cases h), k, h2, comp, h3⟩, ?_⟩
  cases ty with
  | object C => exact absurd rfl (ho C)
  | _ => exact h1
theorem en_now {args : Array Value} {s : State} {C : String} (h : (Cond.arrayOver (.object C)).before args s = true) : ∃ cA : ClassId, ArrOfT s cA (.object C) ∧ va_RA s cA (.object C) := by
  obtain ⟨comp, c, k, g1, g2, g3, g4, g5⟩ := Cond.arrayOver_spec h
  exact ⟨c, fun n z => ⟨fun k h => (by cases h), k, g3, comp, g4⟩, k, comp, g3, g4, g1, g5⟩
theorem env_cls {args : Array Value} {s : State} (htg : ∀ w ∈ lwg, w.before args s = true) : ∃ D : va_G, ∀ (c : Nat) (q : vw_C), vwCl[c]? = some q → u_Kn s q.1 q.2.1 q.2.2 (D.1 c) (D.2 c) := by
  obtain ⟨c0, i0, hk0⟩ := u_known (C := RX0) (T := TX0) (N := 7) (n := 7) htg inX0 (htg _ ik_X0)
  obtain ⟨c1, i1, hk1⟩ := u_known (C := RX1) (T := TX1) (N := 8) (n := 8) htg inX1 (htg _ ik_X1)
  obtain ⟨c2, i2, hk2⟩ := u_known (C := RX2) (T := TX2) (N := 5) (n := 5) htg inX2 (htg _ ik_X2)
  obtain ⟨c3, i3, hk3⟩ := u_known (C := RX3) (T := TX3) (N := 6) (n := 6) htg inX3 (htg _ ik_X3)
  obtain ⟨c4, i4, hk4⟩ := u_known (C := RX4) (T := TX4) (N := 7) (n := 7) htg inX4 (htg _ ik_X4)
  obtain ⟨c5, i5, hk5⟩ := u_known (C := RX5) (T := TX5) (N := 5) (n := 5) htg inX5 (htg _ ik_X5)
  obtain ⟨c6, i6, hk6⟩ := u_known (C := RX6) (T := TX6) (N := 10) (n := 10) htg inX6 (htg _ ik_X6)
  obtain ⟨c7, i7, hk7⟩ := u_known (C := RX7) (T := TX7) (N := 6) (n := 6) htg inX7 (htg _ ik_X7)
  obtain ⟨c8, i8, hk8⟩ := u_known (C := RX8) (T := TX8) (N := 5) (n := 5) htg inX8 (htg _ ik_X8)
  obtain ⟨c9, i9, hk9⟩ := u_known (C := RX9) (T := TX9) (N := 5) (n := 5) htg inX9 (htg _ ik_X9)
  obtain ⟨c10, i10, hk10⟩ := u_known (C := RX10) (T := TX10) (N := 7) (n := 7) htg inX10 (htg _ ik_X10)
  obtain ⟨c11, i11, hk11⟩ := u_known (C := RX11) (T := TX11) (N := 13) (n := 13) htg inX11 (htg _ ik_X11)
  obtain ⟨c12, i12, hk12⟩ := u_known (C := RX12) (T := TX12) (N := 38) (n := 38) htg inX12 (htg _ ik_X12)
  refine ⟨(fun k => [c0, c1, c2, c3, c4, c5, c6, c7, c8, c9, c10, c11, c12].getD k c0, fun k => [i0, i1, i2, i3, i4, i5, i6, i7, i8, i9, i10, i11, i12].getD k i0), fun k q hq => ?_⟩
  match k, hq with
  | 0, hq => cases hq; exact hk0
  | 1, hq => cases hq; exact hk1
  | 2, hq => cases hq; exact hk2
  | 3, hq => cases hq; exact hk3
  | 4, hq => cases hq; exact hk4
  | 5, hq => cases hq; exact hk5
  | 6, hq => cases hq; exact hk6
  | 7, hq => cases hq; exact hk7
  | 8, hq => cases hq; exact hk8
  | 9, hq => cases hq; exact hk9
  | 10, hq => cases hq; exact hk10
  | 11, hq => cases hq; exact hk11
  | 12, hq => cases hq; exact hk12
  | n + 13, hq => cases hq
