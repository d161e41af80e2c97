/-- the model's rows kept, made one down -/
def zsh (M : ZM) (k : Nat) : ZM := fun a b => if a = 130 ∧ b < k then M 130 (b + 18) else M a b
theorem zsh_zero (M : ZM) : zsh M 0 = M := by
  funext a b
  unfold zsh
  rw [if_neg (by omega)]
theorem zsh_step (M : ZM) (k : Nat) : zset (zsh M k) 130 k (zsh M k 130 (k + 18)) = zsh M (k + 1) := by
  funext a b
  unfold zset zsh
  (repeat' split) <;> first | rfl | (exfalso; omega) | (have e : b = k := by omega
                                                        subst e
                                                        rfl)
theorem zsh_wm {M : ZM} (hW : zWm M) {k : Nat} : zWm (zsh M k) := by
  intro q hq
  have hr : ∀ q ∈ zwM, q.1 ≠ 130 := by decide +kernel
  unfold zsh
  rw [if_neg (fun g => hr q hq g.1)]
  exact hW q hq
theorem zsh_ne {M : ZM} {k a : Nat} (h : a ≠ 130) : zsh M k a = M a := by
  funext b
  unfold zsh
  rw [if_neg (fun g => h g.1)]
theorem q_note_wm {M : ZM} (hW : zWm M) : zWm (q_note M) := by
  intro q hq
  have hr : ∀ q ∈ zwM, q.1 ≠ 130 ∧ ¬ (q.1 = 124 ∧ q.2.1 = 20) := by decide +kernel
  unfold q_note
  rw [if_neg (hr q hq).1, if_neg (hr q hq).2]
  exact hW q hq
theorem note_full {M : ZM} (h : M 124 20 = 16) : zset (zcopy (zset (zsh M 270) 124 20 15) 129 0 130 270 18) 124 20 16 = q_note M := by
  funext a b
  simp only [zset, zcopy, zsh, q_note, Nat.zero_add]
  (repeat' split) <;> first | omega | (exfalso; omega) | rfl | (rw [show a = 130 from (by omega)])
theorem note_room {M : ZM} {n : Nat} (h : M 124 20 = (n : Int)) (h16 : n < 16) : zset (zcopy M 129 0 130 (18 * n) 18) 124 20 ((n : Int) + 1) = q_note M := by
  funext a b
  have hn : (M 124 20).toNat = n := by omega
  simp only [zset, zcopy, q_note, hn, Nat.zero_add]
  (repeat' split) <;> first | omega | (exfalso; omega) | rfl | (rw [show a = 130 from (by omega)])
theorem l_note {l : Launch} {X : ZX} {M : ZM} (hW : zWm M) (hn : M 124 20 = 16) : ∀ (j i : Nat), i + j = 270 → zP l X 1 tX12_note 11 [some (zr 124), some (zi (i : Int))] [] (zsh M i) (fun r M' => r = none ∧ M' = q_note M) := by
  intro j
  induction j with
  | zero =>
    intro i hi
    have hW9 : zWm (zset (zsh M i) 124 20 (16 - 1)) := (zsh_wm hW).set (by decide +kernel)
    refine p_iload_n 12 dX12_note_11 rfl rfl ?_
    refine p_sipush 15 dX12_note_12 rfl ?_
    refine p_icmp_ge 39 18 dX12_note_15 (by omega) (by omega) (by omega) (by omega) (fun h15 => ?_) (fun h15 => absurd (by omega) (fun h9 : False => h9))
    refine p_aload_n 40 dX12_note_39 rfl rfl (by decide) ?_
    refine p_dupR 41 dX12_note_40 ?_
    refine p_getI 124 44 dX12_note_41 fX12_181 rfl ?_
    refine p_iconst 45 dX12_note_44 ?_
    rw [zsh_ne (by decide), hn]
    refine p_isub 46 dX12_note_45 ?_
    refine p_putI 124 49 dX12_note_46 wX12_181 rfl ?_
    refine p_aload_n 50 dX12_note_49 rfl rfl (by decide) ?_
    refine p_getR 124 53 dX12_note_50 fX12_26 rfl (hW9 (124, 17, 129) (by decide)) ?_
    refine p_iconst 54 dX12_note_53 ?_
    refine p_aload_n 55 dX12_note_54 rfl rfl (by decide) ?_
    refine p_getR 124 58 dX12_note_55 fX12_29 rfl (hW9 (124, 18, 130) (by decide)) ?_
    refine p_bipush 60 dX12_note_58 rfl ?_
    refine p_aload_n 61 dX12_note_60 rfl rfl (by decide) ?_
    refine p_getI 124 64 dX12_note_61 fX12_181 rfl ?_
    rw [zset_at]
    refine p_imul 65 dX12_note_64 ?_
    refine p_bipush 67 dX12_note_65 rfl ?_
    refine p_callS5v 70 dX12_note_67 (s_copy (f := 129) (t := 130) (a := 0) (i := 270) (m := 18) rfl rfl (by decide) (by decide) (by decide) (by decide)) lk_X12_174 mX12_copy (by decide) (Nat.le_of_ble_eq_true rfl) ?_
    rintro _ rfl
    refine p_aload_n 71 dX12_note_70 rfl rfl (by decide) ?_
    refine p_dupR 72 dX12_note_71 ?_
    refine p_getI 124 75 dX12_note_72 fX12_181 rfl ?_
    rw [zcopy_ne _ (by decide), zset_at]
    refine p_iconst 76 dX12_note_75 ?_
    refine p_iadd 77 dX12_note_76 ?_
    refine p_putI 124 80 dX12_note_77 wX12_181 rfl ?_
    refine p_vret dX12_note_80 rfl ?_
    rw [Nat.add_zero] at hi
    subst hi
    exact ⟨rfl, note_full hn⟩
  | succ j ih =>
    intro i hi
    refine p_iload_n 12 dX12_note_11 rfl rfl ?_
    refine p_sipush 15 dX12_note_12 rfl ?_
    refine p_icmp_ge 39 18 dX12_note_15 (by omega) (by omega) (by omega) (by omega) (fun h15 => absurd (by omega) (fun h9 : False => h9)) (fun h15 => ?_)
    refine p_aload_n 19 dX12_note_18 rfl rfl (by decide) ?_
    refine p_getR 124 22 dX12_note_19 fX12_29 rfl ((zsh_wm hW) (124, 18, 130) (by decide)) ?_
    refine p_iload_n 23 dX12_note_22 rfl rfl ?_
    refine p_aload_n 24 dX12_note_23 rfl rfl (by decide) ?_
    refine p_getR 124 27 dX12_note_24 fX12_29 rfl ((zsh_wm hW) (124, 18, 130) (by decide)) ?_
    refine p_iload_n 28 dX12_note_27 rfl rfl ?_
    refine p_bipush 30 dX12_note_28 rfl ?_
    refine p_iadd 31 dX12_note_30 ?_
    refine p_ialdn 130 32 (i + 18) dX12_note_31 rfl (by omega) (by omega) ?_
    refine p_iastn 130 33 (i) dX12_note_32 rfl (by omega) (by omega) ?_
    refine p_iinc 36 dX12_note_33 rfl rfl rfl ?_
    dsimp only [List.set]
    refine p_goto 11 dX12_note_36 ?_
    rw [zsh_step]
    exact ih (i + 1) (by omega)
theorem s_note {l : Launch} {X : ZX} {M : ZM} (hW : zWm M) {n : Nat} (h : M 124 20 = (n : Int)) (hn : n ≤ 16) : zCv l X 1 yX12_note tX12_note [zr 124] M (fun M' => M' = q_note M) := by
  refine zC.of [some (zr 124), none] (by decide +kernel) rfl rfl (Nat.le_of_ble_eq_true rfl) rfl ?_
  refine p_aload_n 1 dX12_note_0 rfl rfl (by decide) ?_
  refine p_getI 124 4 dX12_note_1 fX12_181 rfl ?_
  rw [h]
  refine p_bipush 6 dX12_note_4 rfl ?_
  refine p_icmp_ne 49 9 dX12_note_6 (by omega) (by omega) (by omega) (by omega) (fun h6 => ?_) (fun h6 => ?_)
  · refine p_aload_n 50 dX12_note_49 rfl rfl (by decide) ?_
    refine p_getR 124 53 dX12_note_50 fX12_26 rfl (hW (124, 17, 129) (by decide)) ?_
    refine p_iconst 54 dX12_note_53 ?_
    refine p_aload_n 55 dX12_note_54 rfl rfl (by decide) ?_
    refine p_getR 124 58 dX12_note_55 fX12_29 rfl (hW (124, 18, 130) (by decide)) ?_
    refine p_bipush 60 dX12_note_58 rfl ?_
    refine p_aload_n 61 dX12_note_60 rfl rfl (by decide) ?_
    refine p_getI 124 64 dX12_note_61 fX12_181 rfl ?_
    rw [h]
    refine p_imul 65 dX12_note_64 ?_
    rw [show (18 : Int) * (n : Int) = ((18 * n : Nat) : Int) by omega]
    refine p_bipush 67 dX12_note_65 rfl ?_
    refine p_callS5v 70 dX12_note_67 (s_copy (f := 129) (t := 130) (a := 0) (i := 18 * n) (m := 18) rfl rfl (by decide) (by decide) (by omega) (by decide)) lk_X12_174 mX12_copy (by decide) (Nat.le_of_ble_eq_true rfl) ?_
    rintro _ rfl
    refine p_aload_n 71 dX12_note_70 rfl rfl (by decide) ?_
    refine p_dupR 72 dX12_note_71 ?_
    refine p_getI 124 75 dX12_note_72 fX12_181 rfl ?_
    rw [zcopy_ne _ (by decide), h]
    refine p_iconst 76 dX12_note_75 ?_
    refine p_iadd 77 dX12_note_76 ?_
    refine p_putI 124 80 dX12_note_77 wX12_181 rfl ?_
    refine p_vret dX12_note_80 rfl ?_
    exact ⟨rfl, note_room h (by omega)⟩
  · refine p_iconst 10 dX12_note_9 ?_
    refine p_istore_n 11 dX12_note_10 rfl (Nat.le_of_ble_eq_true rfl) rfl rfl ?_
    dsimp only [List.set]
    have e := l_note (l := l) (X := X) hW (show M 124 20 = 16 by omega) 270 0 rfl
    rw [zsh_zero] at e
    exact e
theorem zWc.setc {M : ZM} {c k : Nat} {v : Int} (h : zWc M) (hk : zwC.all (fun q => !(q.1 == c)) = true) : zWc (zset M c k v) := by
  refine h.fr (fun q hq => ?_)
  have h1 := List.all_eq_true.mp hk q hq
  simp only [Bool.not_eq_true', beq_eq_false_iff_ne] at h1
  rw [zset_ne _ h1]
theorem zWm.setc {M : ZM} {c k : Nat} {v : Int} (h : zWm M) (hk : zwM.all (fun q => !(q.1 == c)) = true) : zWm (zset M c k v) := by
  intro q hq
  have h1 := List.all_eq_true.mp hk q hq
  simp only [Bool.not_eq_true', beq_eq_false_iff_ne] at h1
  rw [zset_ne _ h1]
  exact h q hq
theorem q_by_sum {ρ τ : Nat → Int} (hR : wfR ρ) (hT : wfT ρ τ) (a : Nat) : q_ones (q_by ρ τ a) = q_sum (fun s => if τ (7 + s) = (a : Int) + 1 then 1 else 0) 7 := by
  rw [← q_by7 hR hT]
  have hb : ∀ n, n ≤ 7 → q_cntp (fun k => (q_set (fun s => decide (τ (7 + s) = (a : Int) + 1)) 7).testBit k) n = q_sum (fun s => if τ (7 + s) = (a : Int) + 1 then 1 else 0) n := by
    intro n
    induction n with
    | zero => intro _; rfl
    | succ n ih =>
      intro hn
      show q_cntp _ n + (if _ then 1 else 0) = q_sum _ n + (if _ then 1 else 0)
      rw [ih (by omega)]
      show _ + (if (q_set (fun s => decide (τ (7 + s) = (a : Int) + 1)) 7).testBit n = true then 1 else 0) = _
      rw [q_set_bit]
      congr 1
      by_cases h : τ (7 + n) = (a : Int) + 1
      · rw [if_pos h, if_pos (by simp [h]; omega)]
      · rw [if_neg h, if_neg (by simp [h])]
  unfold q_ones
  show q_cntp _ 7 + (if _ then 1 else 0) = _
  rw [hb 7 (Nat.le_refl 7)]
  show _ + (if (q_set (fun s => decide (τ (7 + s) = (a : Int) + 1)) 7).testBit 7 = true then 1 else 0) = _
  rw [q_set_bit]
  rfl
def q_tended (M : ZM) (a s : Nat) : ZM := zset (zset (q_note M) 129 (7 + s) ((a : Int) + 1)) 124 11 0
def ga_tend (M : ZM) (a s : Int) : Int × ZM := if M 124 14 = 0 ∨ a < 0 ∨ M 127 3 ≤ a ∨ s < 0 ∨ M 127 2 ≤ s then (0, zset M 124 11 1) else if M 129 (7 + s.toNat) ≠ 0 ∨ q_reach (q_n (M 127)) a.toNat s.toNat = false ∨ M 129 16 ≠ 0 then (0, zset M 124 11 5) else if M 127 (29 + 3 * a.toNat + 1) ≤ (q_ones (q_by (M 127) (M 129) a.toNat) : Int) then (0, zset M 124 11 3) else (1, q_tended M a.toNat s.toNat)
theorem CA.no2 {M : ZM} {p : Int × ZM} {a v : Int} (hI : IC M M) (hF : WF M) (hp : p = (a, zset M 124 11 v)) (h4 : v ≠ 4) : CA M p a (zset M 0 2 v) := CA.no hI hF (by rw [hp]) (by rw [hp]) h4
theorem MA.no2 {M : ZM} {p : Int × ZM} {a v : Int} (hW : zWm M) (hp : p = (a, zset M 124 11 v)) : MA M p a (zset (zset (zset M 124 0 0) 124 11 0) 124 11 v) := MA.no hW (by rw [hp]) (by rw [hp])
theorem ga_tend_1 {M : ZM} {a s : Int} (h : M 124 14 = 0 ∨ a < 0 ∨ M 127 3 ≤ a ∨ s < 0 ∨ M 127 2 ≤ s) : ga_tend M a s = (0, zset M 124 11 1) := by
  unfold ga_tend
  rw [if_pos h]
theorem ga_tend_5 {M : ZM} {n m : Nat} (h : ¬ (M 124 14 = 0 ∨ (n : Int) < 0 ∨ M 127 3 ≤ (n : Int) ∨ (m : Int) < 0 ∨ M 127 2 ≤ (m : Int))) (h5 : M 129 (7 + m) ≠ 0 ∨ q_reach (q_n (M 127)) n m = false ∨ M 129 16 ≠ 0) : ga_tend M n m = (0, zset M 124 11 5) := by
  unfold ga_tend
  rw [if_neg h, Int.toNat_natCast, Int.toNat_natCast, if_pos h5]
theorem ga_tend_3 {M : ZM} {n m : Nat} (h : ¬ (M 124 14 = 0 ∨ (n : Int) < 0 ∨ M 127 3 ≤ (n : Int) ∨ (m : Int) < 0 ∨ M 127 2 ≤ (m : Int))) (h5 : M 129 (7 + m) = 0) (h6 : q_reach (q_n (M 127)) n m = true) (h7 : M 129 16 = 0) (h3 : M 127 (29 + 3 * n + 1) ≤ (q_ones (q_by (M 127) (M 129) n) : Int)) : ga_tend M n m = (0, zset M 124 11 3) := by
  unfold ga_tend
  rw [if_neg h, Int.toNat_natCast, Int.toNat_natCast, if_neg (by rw [h5, h6, h7]; decide), if_pos h3]
theorem ga_tend_ok {M : ZM} {n m : Nat} (h : ¬ (M 124 14 = 0 ∨ (n : Int) < 0 ∨ M 127 3 ≤ (n : Int) ∨ (m : Int) < 0 ∨ M 127 2 ≤ (m : Int))) (h5 : M 129 (7 + m) = 0) (h6 : q_reach (q_n (M 127)) n m = true) (h7 : M 129 16 = 0) (h3 : ¬ M 127 (29 + 3 * n + 1) ≤ (q_ones (q_by (M 127) (M 129) n) : Int)) : ga_tend M n m = (1, q_tended M n m) := by
  unfold ga_tend
  rw [if_neg h, Int.toNat_natCast, Int.toNat_natCast, if_neg (by rw [h5, h6, h7]; decide), if_neg h3]
theorem q_sum_upd {f g : Nat → Nat} {s n : Nat} (hs : s < n) (h : ∀ i, i < n → i ≠ s → g i = f i) (hfs : f s = 0) : q_sum g n = q_sum f n + g s := by
  induction n with
  | zero => omega
  | succ n ih =>
    show q_sum g n + g n = q_sum f n + f n + g s
    by_cases e : s = n
    · subst e
      rw [q_sum_congr (fun i hi => h i (by omega) (by omega)), hfs]
      omega
    · rw [ih (by omega) (fun i hi he => h i (by omega) he), h n (by omega) (fun h => e h.symm)]
      omega
theorem WF.tend {M : ZM} (hF : WF M) (a s : Int) : WF (ga_tend M a s).2 := by
  unfold ga_tend
  split
  · exact hF.tr (by decide) (by decide)
  · split
    · exact hF.tr (by decide) (by decide)
    · split
      · exact hF.tr (by decide) (by decide)
      · rename_i h0 h5 h3
        have h1 : M 124 14 = 1 := by have := hF.h; omega
        obtain ⟨n, rfl⟩ : ∃ k : Nat, a = (k : Int) := ⟨a.toNat, by omega⟩
        obtain ⟨m, rfl⟩ : ∃ k : Nat, s = (k : Int) := ⟨s.toNat, by omega⟩
        rw [Int.toNat_natCast] at h3 h5
        rw [Int.toNat_natCast] at h5
        show WF (q_tended M n m)
        have hR := hF.r
        have hT := hF.t
        have b2 := hR.2.1.2.2.1
        have b3 := hR.2.1.2.2.2.1
        rw [q_by_sum hR hT] at h3
        have hT2 : wfT (M 127) (q_tended M n m 129) := by
          obtain ⟨b1, b2', b3', b4, b5, b6, b7⟩ := hT
          have hz : ∀ i, i ≠ 7 + m → q_tended M n m 129 i = M 129 i := fun i hi => (show zset (q_note M) 129 (7 + m) ((n : Int) + 1) 129 i = M 129 i from zset_k hi)
          have hzm : q_tended M n m 129 (7 + m) = (n : Int) + 1 := (show zset (q_note M) 129 (7 + m) ((n : Int) + 1) 129 (7 + m) = _ from zset_at _ _ _ _)
          refine ⟨fun i hi => ?_, fun s hs => ?_, ?_, ?_, ?_, ?_, fun a ha => ?_⟩
          · by_cases e : i = 7 + m
            · rw [e, hzm]; omega
            · rw [hz i e]; exact b1 i hi
          · rw [hz s (by omega), hz 15 (by omega)]
            by_cases e : s = m
            · subst e
              rw [hzm]
              exact ⟨(b2' s hs).1, by omega, fun g => by omega⟩
            · rw [hz (7 + s) (by omega)]; exact b2' s hs
          · rw [hz 14 (by omega)]; exact b3'
          · rw [hz 15 (by omega)]; exact b4
          · rw [hz 16 (by omega)]; exact b5
          · rw [hz 17 (by omega)]; exact b6
          · have hb := b7 a ha
            have hs0 : M 129 (7 + m) = 0 := by
              by_cases e : M 129 (7 + m) = 0
              · exact e
              · exact absurd (Or.inl e) h5
            rw [q_sum_upd (f := fun s => if M 129 (7 + s) = (a : Int) + 1 then 1 else 0) (s := m) (by omega) (fun i hi he => by show (if _ = _ then _ else _) = _; rw [hz (7 + i) (by omega)]) (by rw [if_neg (by omega)]), hzm]
            by_cases e : a = n
            · subst e
              rw [if_pos rfl]
              omega
            · rw [if_neg (by omega)]
              exact hb
        exact (hF.note h1).now (q_note_124 (s := M) (b := 14) (by decide) ▸ h1) rfl rfl rfl rfl rfl rfl rfl rfl rfl rfl ⟨Int.le_refl 0, by show (0 : Int) ≤ 6; decide⟩ hT2
theorem c_tend {l : Launch} {X : ZX} {M : ZM} (hI : IC M M) (hF : WF M) {a s : Int} (ha1 : -2147483648 ≤ a) (ha2 : a < 2147483648) (hs1 : -2147483648 ≤ s) (hs2 : s < 2147483648) : zCi l X 3 yX11_tend tX11_tend [zr 0, zi a, zi s] M (CA M (ga_tend M a s)) := by
  obtain ⟨hW, ⟨c, c', hcc, hco, hsp, hC⟩, ⟨j1, j2, j3, j4, j5⟩, hN, hpast, hten, ⟨hz0, hsea⟩, hfit⟩ := id hI
  have hR := hF.r
  have hT := hF.t
  have hh := hF.h
  have e0 : M 127 0 = (q_n (M 127) 0 : Int) := hR.n (by decide)
  have e2 : M 127 2 = (q_n (M 127) 2 : Int) := hR.n (by decide)
  have e3 : M 127 3 = (q_n (M 127) 3 : Int) := hR.n (by decide)
  have e4 : M 127 4 = (q_n (M 127) 4 : Int) := hR.n (by decide)
  have bR := hR.2.1
  have h20 : M 124 14 = 0 → M 127 2 = 0 := fun h => hF.r0 h 2 (by decide)
  have h30 : M 124 14 = 0 → M 127 3 = 0 := fun h => hF.r0 h 3 (by decide)
  have h40 : M 124 14 = 0 → M 127 4 = 0 := fun h => hF.r0 h 4 (by decide)
  have hwo : M 49 3 = M 129 16 := hN.2.2.2.1
  have t160 := hT.1 16 (by decide)
  have t161 := hT.2.2.2.2.1
  refine zC.of [some (zr 0), some (zi a), some (zi s)] (by decide +kernel) rfl rfl (Nat.le_of_ble_eq_true rfl) rfl ?_
  rcases hcc with ⟨rfl, rfl⟩ | ⟨rfl, rfl⟩
  · have hto : M 2 0 = M 124 14 := hC.1.1
    have hla : M 2 1 = M 127 0 := hC.1.2.1
    have hsn : M 2 2 = M 127 1 := hC.1.2.2.1
    have hcs : M 3 0 = M 127 2 := hC.1.2.2.2.1
    have hca : M 8 0 = M 127 3 := hC.1.2.2.2.2.1
    have hcw : M 13 0 = M 127 4 := hC.1.2.2.2.2.2.1
    have hcb : M 13 1 = M 127 5 := hC.1.2.2.2.2.2.2.1
    have hcor : M 19 0 = M 127 6 := hC.1.2.2.2.2.2.2.2.1
    have hcn : M 19 4 = M 127 7 := hC.1.2.2.2.2.2.2.2.2
    have hu := hF.u
    have hm3 := hF.m
    obtain ⟨p1, p2, top, ht16, p3, p4, p5⟩ := id hpast
    obtain ⟨cnt, hcnt⟩ : ∃ k : Nat, M 124 20 = (k : Int) := ⟨(M 124 20).toNat, by omega⟩
    have hc52 : M 52 2 = (cnt : Int) := by omega
    obtain ⟨ki, hki⟩ : ∃ k : Nat, M 124 21 = (k : Int) := ⟨(M 124 21).toNat, by omega⟩
    have hc54 : M 52 4 = (ki : Int) := by omega
    refine p_aload_n 1 dX11_tend_0 rfl rfl (by decide) ?_
    refine p_iload_n 2 dX11_tend_1 rfl rfl ?_
    refine p_callV1i 0 5 dX11_tend_2 (s_isHelper_2 hW hC hR hco (by omega) (by omega)) lk_X11_148 mX11_isHelper rfl rfl (by decide) (Nat.le_of_ble_eq_true rfl) ?_
    rintro _ _ ⟨rfl, e9⟩
    have e9 := e9.symm
    subst e9
    refine p_if_eq 16 8 dX11_tend_5 (by split <;> omega) (by split <;> omega) (fun h5 => ?_) (fun h5 => ?_)
    · have h5 := if_eq0 h5
      refine p_aload_n 17 dX11_tend_16 rfl rfl (by decide) ?_
      refine p_iconst 18 dX11_tend_17 ?_
      refine p_callV1i 0 21 dX11_tend_18 s_deny lk_X11_329 mX11_deny rfl rfl (by decide) (Nat.le_of_ble_eq_true rfl) ?_
      rintro _ _ ⟨rfl, rfl⟩
      refine p_zret dX11_tend_21 rfl (by decide) ?_
      exact ⟨_, rfl, CA.no2 hI hF (ga_tend_1 (by omega)) (by decide)⟩
    · have h5 := if_neq0 h5
      refine p_aload_n 9 dX11_tend_8 rfl rfl (by decide) ?_
      refine p_iload_n 10 dX11_tend_9 rfl rfl ?_
      refine p_callV1i 0 13 dX11_tend_10 (s_isSleeper_2 hW hC hR hco (by omega) (by omega)) lk_X11_125 mX11_isSleeper rfl rfl (by decide) (Nat.le_of_ble_eq_true rfl) ?_
      rintro _ _ ⟨rfl, e9⟩
      have e9 := e9.symm
      subst e9
      refine p_if_ne 22 16 dX11_tend_13 (by split <;> omega) (by split <;> omega) (fun h13 => ?_) (fun h13 => ?_)
      · have h13 := if_ne0 h13
        have h1 : M 124 14 = 1 := by omega
        have hN1 : ICn (M 129) 1 49 M := by rw [← h1]; exact hN
        obtain ⟨n, rfl⟩ : ∃ k : Nat, a = (k : Int) := ⟨a.toNat, by omega⟩
        obtain ⟨m, rfl⟩ : ∃ k : Nat, s = (k : Int) := ⟨s.toNat, by omega⟩
        have htn : M 51 m = q_tnd (M 129 (7 + m)) := hN1.2.2.2.2.2 rfl m (by omega)
        have tm0 := hT.1 (7 + m) (by omega)
        have tm1 := (hT.2.1 m (by omega)).2.1
        have htn2 : q_tnd (M 129 (7 + m)) = -2 ↔ M 129 (7 + m) = 0 := by
          unfold q_tnd
          split <;> omega
        have htn3 : -2 ≤ q_tnd (M 129 (7 + m)) ∧ q_tnd (M 129 (7 + m)) ≤ 3 := by
          unfold q_tnd
          split <;> omega
        have hal := hR.2.2.2.1 n (by omega)
        have hal0 := hR.1 (29 + 3 * n + 1) (by omega)
        have ho8 := q_ones_le (q_by (M 127) (M 129) n)
        refine p_aload_n 23 dX11_tend_22 rfl rfl (by decide) ?_
        refine p_getR 0 26 dX11_tend_23 fX11_33 rfl (hW (0, 8, 49) (by decide)) ?_
        refine p_getR 49 29 dX11_tend_26 fX11_142 rfl (hW (49, 5, 51) (by decide)) ?_
        refine p_iload_n 30 dX11_tend_29 rfl rfl ?_
        refine p_ialdn 51 31 (m) dX11_tend_30 rfl (by omega) (by omega) ?_
        rw [htn]
        refine p_bipush 33 dX11_tend_31 rfl ?_
        refine p_icmp_ne 58 36 dX11_tend_33 (by omega) (by omega) (by omega) (by omega) (fun h33 => ?_) (fun h33 => ?_)
        · refine p_aload_n 59 dX11_tend_58 rfl rfl (by decide) ?_
          refine p_iconst 60 dX11_tend_59 ?_
          refine p_callV1i 0 63 dX11_tend_60 s_deny lk_X11_329 mX11_deny rfl rfl (by decide) (Nat.le_of_ble_eq_true rfl) ?_
          rintro _ _ ⟨rfl, rfl⟩
          refine p_zret dX11_tend_63 rfl (by decide) ?_
          exact ⟨_, rfl, CA.no2 hI hF (ga_tend_5 (by omega) (by first | (left; omega) | (right; left; exact hrf) | (right; right; omega))) (by decide)⟩
        · refine p_aload_n 37 dX11_tend_36 rfl rfl (by decide) ?_
          refine p_getR 0 40 dX11_tend_37 fX11_16 rfl hco ?_
          refine p_iload_n 41 dX11_tend_40 rfl rfl ?_
          refine p_iload_n 42 dX11_tend_41 rfl rfl ?_
          refine p_callV2i 2 45 dX11_tend_42 (s_reaches_2 hW hC hR (a := n) (s := m) (by omega) (by omega)) lk_X11_332 mX0_reaches rfl rfl (by decide) (Nat.le_of_ble_eq_true rfl) ?_
          rintro _ _ ⟨rfl, e9⟩
          have e9 := e9.symm
          subst e9
          refine p_if_eq 58 48 dX11_tend_45 (by split <;> omega) (by split <;> omega) (fun h45 => ?_) (fun h45 => ?_)
          · have h45 := if_eq0 h45
            have hrf : q_reach (q_n (M 127)) n m = false := by
              cases hq : q_reach (q_n (M 127)) n m with
              | false => rfl
              | true => exact absurd hq h45
            refine p_aload_n 59 dX11_tend_58 rfl rfl (by decide) ?_
            refine p_iconst 60 dX11_tend_59 ?_
            refine p_callV1i 0 63 dX11_tend_60 s_deny lk_X11_329 mX11_deny rfl rfl (by decide) (Nat.le_of_ble_eq_true rfl) ?_
            rintro _ _ ⟨rfl, rfl⟩
            refine p_zret dX11_tend_63 rfl (by decide) ?_
            exact ⟨_, rfl, CA.no2 hI hF (ga_tend_5 (by omega) (by first | (left; omega) | (right; left; exact hrf) | (right; right; omega))) (by decide)⟩
          · have hrf : q_reach (q_n (M 127)) n m = true := if_neq0 h45
            refine p_aload_n 49 dX11_tend_48 rfl rfl (by decide) ?_
            refine p_getR 0 52 dX11_tend_49 fX11_33 rfl (hW (0, 8, 49) (by decide)) ?_
            refine p_getI 49 55 dX11_tend_52 fX11_170 rfl ?_
            rw [hwo]
            refine p_if_eq 64 58 dX11_tend_55 (by omega) (by omega) (fun h55 => ?_) (fun h55 => ?_)
            · refine p_aload_n 65 dX11_tend_64 rfl rfl (by decide) ?_
              refine p_iload_n 66 dX11_tend_65 rfl rfl ?_
              refine p_callV1i 0 69 dX11_tend_66 (s_freeHands_2 hW hC hR hco hN1 hT (a := n) (by omega)) lk_X11_167 mX11_freeHands rfl rfl (by decide) (Nat.le_of_ble_eq_true rfl) ?_
              rintro _ _ ⟨rfl, e9⟩
              have e9 := e9.symm
              subst e9
              refine p_if_gt 78 72 dX11_tend_69 (by omega) (by omega) (fun h69 => ?_) (fun h69 => ?_)
              · refine p_aload_n 79 dX11_tend_78 rfl rfl (by decide) ?_
                refine p_getR 0 82 dX11_tend_79 fX11_40 rfl (hW (0, 9, 52) (by decide)) ?_
                refine p_aload_n 83 dX11_tend_82 rfl rfl (by decide) ?_
                refine p_getR 0 86 dX11_tend_83 fX11_33 rfl (hW (0, 8, 49) (by decide)) ?_
                refine p_callV1v 52 89 dX11_tend_86 (s_keep hW ht16 (by omega) p3 hc52 (by rw [hwo]; omega)) lk_X11_335 mX5_keep rfl rfl (by decide) (Nat.le_of_ble_eq_true rfl) ?_
                intro M9 e9
                change M9 = zkeep M top cnt at e9
                subst e9
                have hI9 := hI.keep hF h1 ht16 p3 hc52
                have hW := hI9.1
                refine p_aload_n 90 dX11_tend_89 rfl rfl (by decide) ?_
                refine p_getR 0 93 dX11_tend_90 fX11_33 rfl (hW (0, 8, 49) (by decide)) ?_
                refine p_getR 49 96 dX11_tend_93 fX11_142 rfl (hW (49, 5, 51) (by decide)) ?_
                refine p_iload_n 97 dX11_tend_96 rfl rfl ?_
                refine p_iload_n 98 dX11_tend_97 rfl rfl ?_
                refine p_iastn 51 99 (m) dX11_tend_98 rfl (by omega) (by omega) ?_
                refine p_aload_n 100 dX11_tend_99 rfl rfl (by decide) ?_
                refine p_callV0i 0 103 dX11_tend_100 s_allow lk_X11_339 mX11_allow rfl rfl (by decide) (Nat.le_of_ble_eq_true rfl) ?_
                rintro _ _ ⟨rfl, rfl⟩
                refine p_zret dX11_tend_103 rfl (by decide) ?_
                refine ⟨_, rfl, ?_⟩
                rw [ga_tend_ok (M := M) (by omega) (by omega) hrf (by omega) (by omega)]
                refine ⟨rfl, ?_, fun k hk => by rw [zset_ne _ (by omega), zset_ne _ (by omega), zkeep_ne (by omega) (by omega) (by omega) (by omega)]⟩
                refine hI9.now (s' := q_tended M n m) (hF.note h1) ((hW.setc (by decide +kernel)).set (by decide +kernel)) rfl rfl rfl rfl rfl rfl rfl rfl rfl (fun a g1 g2 g3 g4 g5 => by rw [zset_ne _ g1, zset_ne _ g4]) (fun k hk => ?_) rfl (by show (0 : Int) ≠ 4; decide) ?_
                · rw [zset_k hk]
                  rfl
                · obtain ⟨n1, n2, n3, n4, n5, n6⟩ := hI9.2.2.2.1
                  have hq : ∀ b, b < 7 ∨ 14 ≤ b → q_tended M n m 129 b = q_note M 129 b := fun b hb => (show zset (q_note M) 129 (7 + m) ((n : Int) + 1) 129 b = _ from zset_k (by omega))
                  refine ⟨n1.trans (hq 15 (by omega)).symm, n2.trans (hq 17 (by omega)).symm, n3.trans (hq 14 (by omega)).symm, n4.trans (hq 16 (by omega)).symm, fun s hs => ?_, fun g1 s hs => ?_⟩
                  · show zkeep M top cnt 50 s = zset (q_note M) 129 (7 + m) ((n : Int) + 1) 129 s
                    rw [zset_k (by omega)]
                    exact n5 s hs
                  · show zset (zkeep M top cnt) 51 m (n : Int) 51 s = q_tnd (zset (q_note M) 129 (7 + m) ((n : Int) + 1) 129 (7 + s))
                    by_cases e : s = m
                    · subst e
                      rw [zset_at, zset_at]
                      unfold q_tnd
                      rw [if_neg (by omega)]
                      omega
                    · rw [zset_k e, zset_k (by omega)]
                      exact n6 g1 s hs
              · refine p_aload_n 73 dX11_tend_72 rfl rfl (by decide) ?_
                refine p_iconst 74 dX11_tend_73 ?_
                refine p_callV1i 0 77 dX11_tend_74 s_deny lk_X11_329 mX11_deny rfl rfl (by decide) (Nat.le_of_ble_eq_true rfl) ?_
                rintro _ _ ⟨rfl, rfl⟩
                refine p_zret dX11_tend_77 rfl (by decide) ?_
                exact ⟨_, rfl, CA.no2 hI hF (ga_tend_3 (by omega) (by omega) hrf (by omega) (by omega)) (by decide)⟩
            · refine p_aload_n 59 dX11_tend_58 rfl rfl (by decide) ?_
              refine p_iconst 60 dX11_tend_59 ?_
              refine p_callV1i 0 63 dX11_tend_60 s_deny lk_X11_329 mX11_deny rfl rfl (by decide) (Nat.le_of_ble_eq_true rfl) ?_
              rintro _ _ ⟨rfl, rfl⟩
              refine p_zret dX11_tend_63 rfl (by decide) ?_
              exact ⟨_, rfl, CA.no2 hI hF (ga_tend_5 (by omega) (by first | (left; omega) | (right; left; exact hrf) | (right; right; omega))) (by decide)⟩
      · have h13 := if_nne0 h13
        refine p_aload_n 17 dX11_tend_16 rfl rfl (by decide) ?_
        refine p_iconst 18 dX11_tend_17 ?_
        refine p_callV1i 0 21 dX11_tend_18 s_deny lk_X11_329 mX11_deny rfl rfl (by decide) (Nat.le_of_ble_eq_true rfl) ?_
        rintro _ _ ⟨rfl, rfl⟩
        refine p_zret dX11_tend_21 rfl (by decide) ?_
        exact ⟨_, rfl, CA.no2 hI hF (ga_tend_1 (by omega)) (by decide)⟩
  · have hto : M 25 0 = M 124 14 := hC.1.1
    have hla : M 25 1 = M 127 0 := hC.1.2.1
    have hsn : M 25 2 = M 127 1 := hC.1.2.2.1
    have hcs : M 26 0 = M 127 2 := hC.1.2.2.2.1
    have hca : M 31 0 = M 127 3 := hC.1.2.2.2.2.1
    have hcw : M 36 0 = M 127 4 := hC.1.2.2.2.2.2.1
    have hcb : M 36 1 = M 127 5 := hC.1.2.2.2.2.2.2.1
    have hcor : M 42 0 = M 127 6 := hC.1.2.2.2.2.2.2.2.1
    have hcn : M 42 4 = M 127 7 := hC.1.2.2.2.2.2.2.2.2
    have hu := hF.u
    have hm3 := hF.m
    obtain ⟨p1, p2, top, ht16, p3, p4, p5⟩ := id hpast
    obtain ⟨cnt, hcnt⟩ : ∃ k : Nat, M 124 20 = (k : Int) := ⟨(M 124 20).toNat, by omega⟩
    have hc52 : M 52 2 = (cnt : Int) := by omega
    obtain ⟨ki, hki⟩ : ∃ k : Nat, M 124 21 = (k : Int) := ⟨(M 124 21).toNat, by omega⟩
    have hc54 : M 52 4 = (ki : Int) := by omega
    refine p_aload_n 1 dX11_tend_0 rfl rfl (by decide) ?_
    refine p_iload_n 2 dX11_tend_1 rfl rfl ?_
    refine p_callV1i 0 5 dX11_tend_2 (s_isHelper_25 hW hC hR hco (by omega) (by omega)) lk_X11_148 mX11_isHelper rfl rfl (by decide) (Nat.le_of_ble_eq_true rfl) ?_
    rintro _ _ ⟨rfl, e9⟩
    have e9 := e9.symm
    subst e9
    refine p_if_eq 16 8 dX11_tend_5 (by split <;> omega) (by split <;> omega) (fun h5 => ?_) (fun h5 => ?_)
    · have h5 := if_eq0 h5
      refine p_aload_n 17 dX11_tend_16 rfl rfl (by decide) ?_
      refine p_iconst 18 dX11_tend_17 ?_
      refine p_callV1i 0 21 dX11_tend_18 s_deny lk_X11_329 mX11_deny rfl rfl (by decide) (Nat.le_of_ble_eq_true rfl) ?_
      rintro _ _ ⟨rfl, rfl⟩
      refine p_zret dX11_tend_21 rfl (by decide) ?_
      exact ⟨_, rfl, CA.no2 hI hF (ga_tend_1 (by omega)) (by decide)⟩
    · have h5 := if_neq0 h5
      refine p_aload_n 9 dX11_tend_8 rfl rfl (by decide) ?_
      refine p_iload_n 10 dX11_tend_9 rfl rfl ?_
      refine p_callV1i 0 13 dX11_tend_10 (s_isSleeper_25 hW hC hR hco (by omega) (by omega)) lk_X11_125 mX11_isSleeper rfl rfl (by decide) (Nat.le_of_ble_eq_true rfl) ?_
      rintro _ _ ⟨rfl, e9⟩
      have e9 := e9.symm
      subst e9
      refine p_if_ne 22 16 dX11_tend_13 (by split <;> omega) (by split <;> omega) (fun h13 => ?_) (fun h13 => ?_)
      · have h13 := if_ne0 h13
        have h1 : M 124 14 = 1 := by omega
        have hN1 : ICn (M 129) 1 49 M := by rw [← h1]; exact hN
        obtain ⟨n, rfl⟩ : ∃ k : Nat, a = (k : Int) := ⟨a.toNat, by omega⟩
        obtain ⟨m, rfl⟩ : ∃ k : Nat, s = (k : Int) := ⟨s.toNat, by omega⟩
        have htn : M 51 m = q_tnd (M 129 (7 + m)) := hN1.2.2.2.2.2 rfl m (by omega)
        have tm0 := hT.1 (7 + m) (by omega)
        have tm1 := (hT.2.1 m (by omega)).2.1
        have htn2 : q_tnd (M 129 (7 + m)) = -2 ↔ M 129 (7 + m) = 0 := by
          unfold q_tnd
          split <;> omega
        have htn3 : -2 ≤ q_tnd (M 129 (7 + m)) ∧ q_tnd (M 129 (7 + m)) ≤ 3 := by
          unfold q_tnd
          split <;> omega
        have hal := hR.2.2.2.1 n (by omega)
        have hal0 := hR.1 (29 + 3 * n + 1) (by omega)
        have ho8 := q_ones_le (q_by (M 127) (M 129) n)
        refine p_aload_n 23 dX11_tend_22 rfl rfl (by decide) ?_
        refine p_getR 0 26 dX11_tend_23 fX11_33 rfl (hW (0, 8, 49) (by decide)) ?_
        refine p_getR 49 29 dX11_tend_26 fX11_142 rfl (hW (49, 5, 51) (by decide)) ?_
        refine p_iload_n 30 dX11_tend_29 rfl rfl ?_
        refine p_ialdn 51 31 (m) dX11_tend_30 rfl (by omega) (by omega) ?_
        rw [htn]
        refine p_bipush 33 dX11_tend_31 rfl ?_
        refine p_icmp_ne 58 36 dX11_tend_33 (by omega) (by omega) (by omega) (by omega) (fun h33 => ?_) (fun h33 => ?_)
        · refine p_aload_n 59 dX11_tend_58 rfl rfl (by decide) ?_
          refine p_iconst 60 dX11_tend_59 ?_
          refine p_callV1i 0 63 dX11_tend_60 s_deny lk_X11_329 mX11_deny rfl rfl (by decide) (Nat.le_of_ble_eq_true rfl) ?_
          rintro _ _ ⟨rfl, rfl⟩
          refine p_zret dX11_tend_63 rfl (by decide) ?_
          exact ⟨_, rfl, CA.no2 hI hF (ga_tend_5 (by omega) (by first | (left; omega) | (right; left; exact hrf) | (right; right; omega))) (by decide)⟩
        · refine p_aload_n 37 dX11_tend_36 rfl rfl (by decide) ?_
          refine p_getR 0 40 dX11_tend_37 fX11_16 rfl hco ?_
          refine p_iload_n 41 dX11_tend_40 rfl rfl ?_
          refine p_iload_n 42 dX11_tend_41 rfl rfl ?_
          refine p_callV2i 25 45 dX11_tend_42 (s_reaches_25 hW hC hR (a := n) (s := m) (by omega) (by omega)) lk_X11_332 mX0_reaches rfl rfl (by decide) (Nat.le_of_ble_eq_true rfl) ?_
          rintro _ _ ⟨rfl, e9⟩
          have e9 := e9.symm
          subst e9
          refine p_if_eq 58 48 dX11_tend_45 (by split <;> omega) (by split <;> omega) (fun h45 => ?_) (fun h45 => ?_)
          · have h45 := if_eq0 h45
            have hrf : q_reach (q_n (M 127)) n m = false := by
              cases hq : q_reach (q_n (M 127)) n m with
              | false => rfl
              | true => exact absurd hq h45
            refine p_aload_n 59 dX11_tend_58 rfl rfl (by decide) ?_
            refine p_iconst 60 dX11_tend_59 ?_
            refine p_callV1i 0 63 dX11_tend_60 s_deny lk_X11_329 mX11_deny rfl rfl (by decide) (Nat.le_of_ble_eq_true rfl) ?_
            rintro _ _ ⟨rfl, rfl⟩
            refine p_zret dX11_tend_63 rfl (by decide) ?_
            exact ⟨_, rfl, CA.no2 hI hF (ga_tend_5 (by omega) (by first | (left; omega) | (right; left; exact hrf) | (right; right; omega))) (by decide)⟩
          · have hrf : q_reach (q_n (M 127)) n m = true := if_neq0 h45
            refine p_aload_n 49 dX11_tend_48 rfl rfl (by decide) ?_
            refine p_getR 0 52 dX11_tend_49 fX11_33 rfl (hW (0, 8, 49) (by decide)) ?_
            refine p_getI 49 55 dX11_tend_52 fX11_170 rfl ?_
            rw [hwo]
            refine p_if_eq 64 58 dX11_tend_55 (by omega) (by omega) (fun h55 => ?_) (fun h55 => ?_)
            · refine p_aload_n 65 dX11_tend_64 rfl rfl (by decide) ?_
              refine p_iload_n 66 dX11_tend_65 rfl rfl ?_
              refine p_callV1i 0 69 dX11_tend_66 (s_freeHands_25 hW hC hR hco hN1 hT (a := n) (by omega)) lk_X11_167 mX11_freeHands rfl rfl (by decide) (Nat.le_of_ble_eq_true rfl) ?_
              rintro _ _ ⟨rfl, e9⟩
              have e9 := e9.symm
              subst e9
              refine p_if_gt 78 72 dX11_tend_69 (by omega) (by omega) (fun h69 => ?_) (fun h69 => ?_)
              · refine p_aload_n 79 dX11_tend_78 rfl rfl (by decide) ?_
                refine p_getR 0 82 dX11_tend_79 fX11_40 rfl (hW (0, 9, 52) (by decide)) ?_
                refine p_aload_n 83 dX11_tend_82 rfl rfl (by decide) ?_
                refine p_getR 0 86 dX11_tend_83 fX11_33 rfl (hW (0, 8, 49) (by decide)) ?_
                refine p_callV1v 52 89 dX11_tend_86 (s_keep hW ht16 (by omega) p3 hc52 (by rw [hwo]; omega)) lk_X11_335 mX5_keep rfl rfl (by decide) (Nat.le_of_ble_eq_true rfl) ?_
                intro M9 e9
                change M9 = zkeep M top cnt at e9
                subst e9
                have hI9 := hI.keep hF h1 ht16 p3 hc52
                have hW := hI9.1
                refine p_aload_n 90 dX11_tend_89 rfl rfl (by decide) ?_
                refine p_getR 0 93 dX11_tend_90 fX11_33 rfl (hW (0, 8, 49) (by decide)) ?_
                refine p_getR 49 96 dX11_tend_93 fX11_142 rfl (hW (49, 5, 51) (by decide)) ?_
                refine p_iload_n 97 dX11_tend_96 rfl rfl ?_
                refine p_iload_n 98 dX11_tend_97 rfl rfl ?_
                refine p_iastn 51 99 (m) dX11_tend_98 rfl (by omega) (by omega) ?_
                refine p_aload_n 100 dX11_tend_99 rfl rfl (by decide) ?_
                refine p_callV0i 0 103 dX11_tend_100 s_allow lk_X11_339 mX11_allow rfl rfl (by decide) (Nat.le_of_ble_eq_true rfl) ?_
                rintro _ _ ⟨rfl, rfl⟩
                refine p_zret dX11_tend_103 rfl (by decide) ?_
                refine ⟨_, rfl, ?_⟩
                rw [ga_tend_ok (M := M) (by omega) (by omega) hrf (by omega) (by omega)]
                refine ⟨rfl, ?_, fun k hk => by rw [zset_ne _ (by omega), zset_ne _ (by omega), zkeep_ne (by omega) (by omega) (by omega) (by omega)]⟩
                refine hI9.now (s' := q_tended M n m) (hF.note h1) ((hW.setc (by decide +kernel)).set (by decide +kernel)) rfl rfl rfl rfl rfl rfl rfl rfl rfl (fun a g1 g2 g3 g4 g5 => by rw [zset_ne _ g1, zset_ne _ g4]) (fun k hk => ?_) rfl (by show (0 : Int) ≠ 4; decide) ?_
                · rw [zset_k hk]
                  rfl
                · obtain ⟨n1, n2, n3, n4, n5, n6⟩ := hI9.2.2.2.1
                  have hq : ∀ b, b < 7 ∨ 14 ≤ b → q_tended M n m 129 b = q_note M 129 b := fun b hb => (show zset (q_note M) 129 (7 + m) ((n : Int) + 1) 129 b = _ from zset_k (by omega))
                  refine ⟨n1.trans (hq 15 (by omega)).symm, n2.trans (hq 17 (by omega)).symm, n3.trans (hq 14 (by omega)).symm, n4.trans (hq 16 (by omega)).symm, fun s hs => ?_, fun g1 s hs => ?_⟩
                  · show zkeep M top cnt 50 s = zset (q_note M) 129 (7 + m) ((n : Int) + 1) 129 s
                    rw [zset_k (by omega)]
                    exact n5 s hs
                  · show zset (zkeep M top cnt) 51 m (n : Int) 51 s = q_tnd (zset (q_note M) 129 (7 + m) ((n : Int) + 1) 129 (7 + s))
                    by_cases e : s = m
                    · subst e
                      rw [zset_at, zset_at]
                      unfold q_tnd
                      rw [if_neg (by omega)]
                      omega
                    · rw [zset_k e, zset_k (by omega)]
                      exact n6 g1 s hs
              · refine p_aload_n 73 dX11_tend_72 rfl rfl (by decide) ?_
                refine p_iconst 74 dX11_tend_73 ?_
                refine p_callV1i 0 77 dX11_tend_74 s_deny lk_X11_329 mX11_deny rfl rfl (by decide) (Nat.le_of_ble_eq_true rfl) ?_
                rintro _ _ ⟨rfl, rfl⟩
                refine p_zret dX11_tend_77 rfl (by decide) ?_
                exact ⟨_, rfl, CA.no2 hI hF (ga_tend_3 (by omega) (by omega) hrf (by omega) (by omega)) (by decide)⟩
            · refine p_aload_n 59 dX11_tend_58 rfl rfl (by decide) ?_
              refine p_iconst 60 dX11_tend_59 ?_
              refine p_callV1i 0 63 dX11_tend_60 s_deny lk_X11_329 mX11_deny rfl rfl (by decide) (Nat.le_of_ble_eq_true rfl) ?_
              rintro _ _ ⟨rfl, rfl⟩
              refine p_zret dX11_tend_63 rfl (by decide) ?_
              exact ⟨_, rfl, CA.no2 hI hF (ga_tend_5 (by omega) (by first | (left; omega) | (right; left; exact hrf) | (right; right; omega))) (by decide)⟩
      · have h13 := if_nne0 h13
        refine p_aload_n 17 dX11_tend_16 rfl rfl (by decide) ?_
        refine p_iconst 18 dX11_tend_17 ?_
        refine p_callV1i 0 21 dX11_tend_18 s_deny lk_X11_329 mX11_deny rfl rfl (by decide) (Nat.le_of_ble_eq_true rfl) ?_
        rintro _ _ ⟨rfl, rfl⟩
        refine p_zret dX11_tend_21 rfl (by decide) ?_
        exact ⟨_, rfl, CA.no2 hI hF (ga_tend_1 (by omega)) (by decide)⟩
theorem m_tend {l : Launch} {X : ZX} {M : ZM} (hW : zWm M) (hF : WF M) {a s : Int} (ha1 : -2147483648 ≤ a) (ha2 : a < 2147483648) (hs1 : -2147483648 ≤ s) (hs2 : s < 2147483648) : zCi l X 3 yX12_tend tX12_tend [zr 124, zi a, zi s] M (MA M (ga_tend M a s)) := by
  have hWg : zWm (zset (zset M 124 0 0) 124 11 0) := (hW.set (by decide +kernel)).set (by decide +kernel)
  have hR := hF.r
  have hT := hF.t
  have hh := hF.h
  have e0 : M 127 0 = (q_n (M 127) 0 : Int) := hR.n (by decide)
  have e2 : M 127 2 = (q_n (M 127) 2 : Int) := hR.n (by decide)
  have e3 : M 127 3 = (q_n (M 127) 3 : Int) := hR.n (by decide)
  have e4 : M 127 4 = (q_n (M 127) 4 : Int) := hR.n (by decide)
  have bR := hR.2.1
  have h20 : M 124 14 = 0 → M 127 2 = 0 := fun h => hF.r0 h 2 (by decide)
  have h30 : M 124 14 = 0 → M 127 3 = 0 := fun h => hF.r0 h 3 (by decide)
  have h40 : M 124 14 = 0 → M 127 4 = 0 := fun h => hF.r0 h 4 (by decide)
  have hu := hF.u
  have hm3 := hF.m
  obtain ⟨cnt, hcnt⟩ : ∃ k : Nat, M 124 20 = (k : Int) := ⟨(M 124 20).toNat, by omega⟩
  obtain ⟨ki, hki⟩ : ∃ k : Nat, M 124 21 = (k : Int) := ⟨(M 124 21).toNat, by omega⟩
  refine zC.of [some (zr 124), some (zi a), some (zi s)] (by decide +kernel) rfl rfl (Nat.le_of_ble_eq_true rfl) rfl ?_
  refine p_aload_n 1 dX12_tend_0 rfl rfl (by decide) ?_
  refine p_callV0v 124 4 dX12_tend_1 s_good lk_X12_165 mX12_good rfl rfl (by decide) (Nat.le_of_ble_eq_true rfl) ?_
  rintro _ rfl
  refine p_aload_n 5 dX12_tend_4 rfl rfl (by decide) ?_
  refine p_iload_n 6 dX12_tend_5 rfl rfl ?_
  refine p_callV1i 124 9 dX12_tend_6 (s_isAwake (ρ := M 127) hWg (fun _ _ => rfl) hR (by exact hh) (by omega) (by omega)) lk_X12_281 mX12_isAwake rfl rfl (by decide) (Nat.le_of_ble_eq_true rfl) ?_
  rintro _ _ ⟨rfl, e9⟩
  have e9 := e9.symm
  subst e9
  refine p_if_eq 20 12 dX12_tend_9 (by split <;> omega) (by split <;> omega) (fun h9 => ?_) (fun h9 => ?_)
  · have h9 := if_eq0 h9
    have h9 : ¬ (M 124 14 = 1 ∧ 0 ≤ a ∧ a < M 127 3) := h9
    refine p_aload_n 21 dX12_tend_20 rfl rfl (by decide) ?_
    refine p_iconst 22 dX12_tend_21 ?_
    refine p_callV1i 124 25 dX12_tend_22 s_isNot lk_X12_431 mX12_isNot rfl rfl (by decide) (Nat.le_of_ble_eq_true rfl) ?_
    rintro _ _ ⟨rfl, rfl⟩
    refine p_zret dX12_tend_25 rfl (by decide) ?_
    exact ⟨_, rfl, MA.no2 hW (ga_tend_1 (by omega))⟩
  · have h9 := if_neq0 h9
    have h9 : M 124 14 = 1 ∧ 0 ≤ a ∧ a < M 127 3 := h9
    refine p_aload_n 13 dX12_tend_12 rfl rfl (by decide) ?_
    refine p_iload_n 14 dX12_tend_13 rfl rfl ?_
    refine p_callV1i 124 17 dX12_tend_14 (s_isSleeper (ρ := M 127) hWg (fun _ _ => rfl) hR (by exact hh) (by omega) (by omega)) lk_X12_275 mX12_isSleeper rfl rfl (by decide) (Nat.le_of_ble_eq_true rfl) ?_
    rintro _ _ ⟨rfl, e9⟩
    have e9 := e9.symm
    subst e9
    refine p_if_ne 26 20 dX12_tend_17 (by split <;> omega) (by split <;> omega) (fun h17 => ?_) (fun h17 => ?_)
    · have h17 := if_ne0 h17
      have h17 : M 124 14 = 1 ∧ 0 ≤ s ∧ s < M 127 2 := h17
      obtain ⟨n, rfl⟩ : ∃ k : Nat, a = (k : Int) := ⟨a.toNat, by omega⟩
      obtain ⟨m, rfl⟩ : ∃ k : Nat, s = (k : Int) := ⟨s.toNat, by omega⟩
      have tm0 := hT.1 (7 + m) (by omega)
      have tm1 := (hT.2.1 m (by omega)).2.1
      have t160 := hT.1 16 (by decide)
      have t161 := hT.2.2.2.2.1
      have hal := hR.2.2.2.1 n (by omega)
      have hal0 := hR.1 (29 + 3 * n + 1) (by omega)
      have ho8 := q_ones_le (q_by (M 127) (M 129) n)
      have hle := hT.2.2.2.2.2.2 n (by omega)
      rw [← q_by_sum hR hT] at hle
      refine p_aload_n 27 dX12_tend_26 rfl rfl (by decide) ?_
      refine p_getR 124 30 dX12_tend_27 fX12_26 rfl (hWg (124, 17, 129) (by decide)) ?_
      refine p_bipush 32 dX12_tend_30 rfl ?_
      refine p_iload_n 33 dX12_tend_32 rfl rfl ?_
      refine p_iadd 34 dX12_tend_33 ?_
      refine p_ialdn 129 35 (7 + m) dX12_tend_34 rfl (by omega) (by omega) ?_
      refine p_if_gt 57 38 dX12_tend_35 (by show _ ≤ M 129 (7 + m); omega) (by show M 129 (7 + m) < _; omega) (fun h35 => ?_) (fun h35 => ?_)
      · have h35 : M 129 (7 + m) > 0 := h35
        refine p_aload_n 58 dX12_tend_57 rfl rfl (by decide) ?_
        refine p_iconst 59 dX12_tend_58 ?_
        refine p_callV1i 124 62 dX12_tend_59 s_isNot lk_X12_431 mX12_isNot rfl rfl (by decide) (Nat.le_of_ble_eq_true rfl) ?_
        rintro _ _ ⟨rfl, rfl⟩
        refine p_zret dX12_tend_62 rfl (by decide) ?_
        exact ⟨_, rfl, MA.no2 hW (ga_tend_5 (by omega) (by first | (left; omega) | (right; left; exact hrf) | (right; right; omega)))⟩
      · have h35 : ¬ M 129 (7 + m) > 0 := h35
        refine p_aload_n 39 dX12_tend_38 rfl rfl (by decide) ?_
        refine p_iload_n 40 dX12_tend_39 rfl rfl ?_
        refine p_iload_n 41 dX12_tend_40 rfl rfl ?_
        refine p_callV2i 124 44 dX12_tend_41 (s_canReach hWg (fun _ _ => rfl) hR (a := n) (s := m) (by omega) (by omega)) lk_X12_278 mX12_canReach rfl rfl (by decide) (Nat.le_of_ble_eq_true rfl) ?_
        rintro _ _ ⟨rfl, e9⟩
        have e9 := e9.symm
        subst e9
        refine p_if_eq 57 47 dX12_tend_44 (by split <;> omega) (by split <;> omega) (fun h44 => ?_) (fun h44 => ?_)
        · have h44 := if_eq0 h44
          have hrf : q_reach (q_n (M 127)) n m = false := by
            cases hq : q_reach (q_n (M 127)) n m with
            | false => rfl
            | true => exact absurd hq h44
          refine p_aload_n 58 dX12_tend_57 rfl rfl (by decide) ?_
          refine p_iconst 59 dX12_tend_58 ?_
          refine p_callV1i 124 62 dX12_tend_59 s_isNot lk_X12_431 mX12_isNot rfl rfl (by decide) (Nat.le_of_ble_eq_true rfl) ?_
          rintro _ _ ⟨rfl, rfl⟩
          refine p_zret dX12_tend_62 rfl (by decide) ?_
          exact ⟨_, rfl, MA.no2 hW (ga_tend_5 (by omega) (by first | (left; omega) | (right; left; exact hrf) | (right; right; omega)))⟩
        · have hrf : q_reach (q_n (M 127)) n m = true := if_neq0 h44
          refine p_aload_n 48 dX12_tend_47 rfl rfl (by decide) ?_
          refine p_getR 124 51 dX12_tend_48 fX12_26 rfl (hWg (124, 17, 129) (by decide)) ?_
          refine p_bipush 53 dX12_tend_51 rfl ?_
          refine p_iald 129 54 dX12_tend_53 rfl (by omega) (by omega) ?_
          try simp only [Int.toNat_natCast, Int.reduceToNat]
          refine p_if_le 63 57 dX12_tend_54 (by show _ ≤ M 129 16; omega) (by show M 129 16 < _; omega) (fun h54 => ?_) (fun h54 => ?_)
          · have h54 : M 129 16 ≤ 0 := h54
            refine p_aload_n 64 dX12_tend_63 rfl rfl (by decide) ?_
            refine p_iload_n 65 dX12_tend_64 rfl rfl ?_
            refine p_callV1i 124 68 dX12_tend_65 (s_tendedOf hWg (fun _ _ => rfl) hR (τ := M 129) (fun _ _ => rfl) hT (a := n) (by omega)) lk_X12_284 mX12_tendedOf rfl rfl (by decide) (Nat.le_of_ble_eq_true rfl) ?_
            rintro _ _ ⟨rfl, e9⟩
            have e9 := e9.symm
            subst e9
            refine p_callS1i 71 dX12_tend_68 (s_ones (S := q_by (M 127) (M 129) n) (by have := q_by_lt (τ := M 129) hR n; omega)) lk_X12_287 mX12_ones (by decide) (Nat.le_of_ble_eq_true rfl) ?_
            rintro _ _ ⟨rfl, e9⟩
            have e9 := e9.symm
            subst e9
            refine p_aload_n 72 dX12_tend_71 rfl rfl (by decide) ?_
            refine p_getR 124 75 dX12_tend_72 fX12_20 rfl (hWg (124, 15, 127) (by decide)) ?_
            refine p_bipush 77 dX12_tend_75 rfl ?_
            refine p_iconst 78 dX12_tend_77 ?_
            refine p_iload_n 79 dX12_tend_78 rfl rfl ?_
            refine p_imul 80 dX12_tend_79 ?_
            refine p_iadd 81 dX12_tend_80 ?_
            refine p_iconst 82 dX12_tend_81 ?_
            refine p_iadd 83 dX12_tend_82 ?_
            refine p_ialdn 127 84 (29 + 3 * n + 1) dX12_tend_83 rfl (by omega) (by omega) ?_
            refine p_icmp_ne 93 87 dX12_tend_84 (by omega) (by show (q_ones (q_by (M 127) (M 129) n) : Int) < _; omega) (by show _ ≤ M 127 (29 + 3 * n + 1); omega) (by show M 127 (29 + 3 * n + 1) < _; omega) (fun h84 => ?_) (fun h84 => ?_)
            · have h84 : (q_ones (q_by (M 127) (M 129) n) : Int) ≠ M 127 (29 + 3 * n + 1) := h84
              refine p_aload_n 94 dX12_tend_93 rfl rfl (by decide) ?_
              refine p_callV0v 124 97 dX12_tend_94 (s_note hWg (show zset (zset M 124 0 0) 124 11 0 124 20 = (cnt : Int) from hcnt) (by omega)) lk_X12_434 mX12_note rfl rfl (by decide) (Nat.le_of_ble_eq_true rfl) ?_
              rintro _ rfl
              have hW9 := q_note_wm hWg
              refine p_aload_n 98 dX12_tend_97 rfl rfl (by decide) ?_
              refine p_getR 124 101 dX12_tend_98 fX12_26 rfl (hWg (124, 17, 129) (by decide)) ?_
              refine p_bipush 103 dX12_tend_101 rfl ?_
              refine p_iload_n 104 dX12_tend_103 rfl rfl ?_
              refine p_iadd 105 dX12_tend_104 ?_
              refine p_iload_n 106 dX12_tend_105 rfl rfl ?_
              refine p_iconst 107 dX12_tend_106 ?_
              refine p_iadd 108 dX12_tend_107 ?_
              refine p_iastn 129 109 (7 + m) dX12_tend_108 rfl (by omega) (by omega) ?_
              refine p_iconst 110 dX12_tend_109 ?_
              refine p_zret dX12_tend_110 rfl (by decide) ?_
              refine ⟨_, rfl, ?_⟩
              rw [ga_tend_ok (M := M) (by omega) (by omega) hrf (by omega) (by omega)]
              refine ⟨rfl, fun k hk => by rw [zset_ne _ (by omega), q_note_ne (by omega) (by omega), zset_ne _ (by omega), zset_ne _ (by omega)], hW9.setc (by decide +kernel), ?_⟩
              exact ⟨rfl, rfl, rfl, rfl, rfl, rfl, rfl, rfl, rfl, rfl, rfl, rfl⟩
            · have h84 : ¬ (q_ones (q_by (M 127) (M 129) n) : Int) ≠ M 127 (29 + 3 * n + 1) := h84
              refine p_aload_n 88 dX12_tend_87 rfl rfl (by decide) ?_
              refine p_iconst 89 dX12_tend_88 ?_
              refine p_callV1i 124 92 dX12_tend_89 s_isNot lk_X12_431 mX12_isNot rfl rfl (by decide) (Nat.le_of_ble_eq_true rfl) ?_
              rintro _ _ ⟨rfl, rfl⟩
              refine p_zret dX12_tend_92 rfl (by decide) ?_
              exact ⟨_, rfl, MA.no2 hW (ga_tend_3 (by omega) (by omega) hrf (by omega) (by omega))⟩
          · have h54 : ¬ M 129 16 ≤ 0 := h54
            refine p_aload_n 58 dX12_tend_57 rfl rfl (by decide) ?_
            refine p_iconst 59 dX12_tend_58 ?_
            refine p_callV1i 124 62 dX12_tend_59 s_isNot lk_X12_431 mX12_isNot rfl rfl (by decide) (Nat.le_of_ble_eq_true rfl) ?_
            rintro _ _ ⟨rfl, rfl⟩
            refine p_zret dX12_tend_62 rfl (by decide) ?_
            exact ⟨_, rfl, MA.no2 hW (ga_tend_5 (by omega) (by first | (left; omega) | (right; left; exact hrf) | (right; right; omega)))⟩
    · have h17 := if_nne0 h17
      have h17 : ¬ (M 124 14 = 1 ∧ 0 ≤ s ∧ s < M 127 2) := h17
      refine p_aload_n 21 dX12_tend_20 rfl rfl (by decide) ?_
      refine p_iconst 22 dX12_tend_21 ?_
      refine p_callV1i 124 25 dX12_tend_22 s_isNot lk_X12_431 mX12_isNot rfl rfl (by decide) (Nat.le_of_ble_eq_true rfl) ?_
      rintro _ _ ⟨rfl, rfl⟩
      refine p_zret dX12_tend_25 rfl (by decide) ?_
      exact ⟨_, rfl, MA.no2 hW (ga_tend_1 (by omega))⟩
/-- what each of the first k places of a row has more -/
def zadd (M : ZM) (c k : Nat) (f : Nat → Int) : ZM := fun a b => if a = c ∧ b < k then M a b + f b else M a b
theorem zadd_zero (M : ZM) (c : Nat) (f : Nat → Int) : zadd M c 0 f = M := by
  funext a b
  unfold zadd
  rw [if_neg (by omega)]
theorem zadd_ne {M : ZM} {c k a : Nat} {f : Nat → Int} (h : a ≠ c) : zadd M c k f a = M a := by
  funext b
  unfold zadd
  rw [if_neg (fun g => h g.1)]
theorem zadd_out {M : ZM} {c k b : Nat} {f : Nat → Int} (h : k ≤ b) : zadd M c k f c b = M c b := by
  unfold zadd
  rw [if_neg (by omega)]
theorem zadd_in {M : ZM} {c k b : Nat} {f : Nat → Int} (h : b < k) : zadd M c k f c b = M c b + f b := by
  unfold zadd
  rw [if_pos ⟨rfl, h⟩]
theorem zadd_step (M : ZM) (c k : Nat) (f : Nat → Int) : zset (zadd M c k f) c k (zadd M c k f c k + f k) = zadd M c (k + 1) f := by
  rw [zadd_out (Nat.le_refl k)]
  funext a b
  simp only [zset, zadd]
  (repeat' split) <;> first | (exfalso; omega) | rfl | (rw [show a = c from (by omega), show b = k from (by omega)])
theorem zadd_wc {M : ZM} (hW : zWc M) {c k : Nat} {f : Nat → Int} (hk : zwC.all (fun q => !(q.1 == c)) = true) : zWc (zadd M c k f) := by
  refine hW.fr (fun q hq => ?_)
  have h1 := List.all_eq_true.mp hk q hq
  simp only [Bool.not_eq_true', beq_eq_false_iff_ne] at h1
  rw [zadd_ne h1]
theorem zadd_wm {M : ZM} (hW : zWm M) {c k : Nat} {f : Nat → Int} (hk : zwM.all (fun q => !(q.1 == c)) = true) : zWm (zadd M c k f) := by
  intro q hq
  have h1 := List.all_eq_true.mp hk q hq
  simp only [Bool.not_eq_true', beq_eq_false_iff_ne] at h1
  rw [zadd_ne h1]
  exact hW q hq
/-- the model's tenders, the first k of them, gone -/
def zclr (M : ZM) (k : Nat) : ZM := fun a b => if a = 129 ∧ 7 ≤ b ∧ b < 7 + k then 0 else M a b
theorem zclr_zero (M : ZM) : zclr M 0 = M := by
  funext a b
  unfold zclr
  rw [if_neg (by omega)]
theorem zclr_ne {M : ZM} {k a : Nat} (h : a ≠ 129) : zclr M k a = M a := by
  funext b
  unfold zclr
  rw [if_neg (fun g => h g.1)]
theorem zclr_step (M : ZM) (k : Nat) : zset (zclr M k) 129 (7 + k) 0 = zclr M (k + 1) := by
  funext a b
  simp only [zset, zclr]
  (repeat' split) <;> first | (exfalso; omega) | rfl
theorem zclr_wm {M : ZM} (hW : zWm M) {k : Nat} : zWm (zclr M k) := by
  intro q hq
  have hr : ∀ q ∈ zwM, q.1 ≠ 129 := by decide +kernel
  rw [zclr_ne (hr q hq)]
  exact hW q hq
def q_dayed (M : ZM) : ZM := fun a b => if a = 129 then (if b < 7 then (if b < q_n (M 127) 2 then M 129 b + (q_harmN (q_n (M 127)) (M 129) b : Int) else M 129 b) else if b < 14 then 0 else if b = 15 then M 129 15 + 1 else M 129 b) else if a = 124 ∧ b = 11 then 0 else q_note M a b
def ga_day (M : ZM) : Int × ZM := if M 124 14 = 0 then (-1, zset M 124 11 1) else if M 129 15 = 999 then (-1, zset M 124 11 3) else if M 129 16 ≠ 0 then (-1, zset M 124 11 5) else ((q_sum (q_harmN (q_n (M 127)) (M 129)) (q_n (M 127) 2) : Int), q_dayed M)
theorem q_dayed_ne {M : ZM} {a : Nat} (h : a ≠ 129) (h2 : a ≠ 124) : q_dayed M a = q_note M a := by
  funext b
  unfold q_dayed
  rw [if_neg h, if_neg (fun g => h2 g.1)]
theorem WF.day {M : ZM} (hF : WF M) : WF (ga_day M).2 := by
  unfold ga_day
  split
  · exact hF.tr (by decide) (by decide)
  · split
    · exact hF.tr (by decide) (by decide)
    · split
      · exact hF.tr (by decide) (by decide)
      · rename_i h0 h3 h5
        have h1 : M 124 14 = 1 := by have := hF.h; omega
        have hR := hF.r
        have b2 := hR.2.1.2.2.1
        have e2 : M 127 2 = (q_n (M 127) 2 : Int) := hR.n (by decide)
        show WF (q_dayed M)
        have hT2 : wfT (M 127) (q_dayed M 129) := by
          obtain ⟨b1, b2', b3', b4, b5, b6, b7⟩ := hF.t
          have hu : ∀ b, q_dayed M 129 b = (if b < 7 then (if b < q_n (M 127) 2 then M 129 b + (q_harmN (q_n (M 127)) (M 129) b : Int) else M 129 b) else if b < 14 then 0 else if b = 15 then M 129 15 + 1 else M 129 b) := fun b => rfl
          have hl : ∀ b, b < 7 → q_harmN (q_n (M 127)) (M 129) b ≤ 40 := fun b hb => by
            unfold q_harmN
            split
            · omega
            · exact q_harm_le hR hb _
          have h15 : q_dayed M 129 15 = M 129 15 + 1 := rfl
          refine ⟨fun i hi => ?_, fun s hs => ?_, ?_, ?_, ?_, ?_, fun a ha => ?_⟩
          · have g := b1 i hi
            have g15 := b1 15 (by decide)
            rw [hu]
            (repeat' split) <;> omega
          · have g := b2' s hs
            have gl := hl s hs
            have e7 : q_dayed M 129 (7 + s) = 0 := by
              rw [hu, if_neg (by omega), if_pos (by omega)]
            rw [h15, e7, hu, if_pos hs]
            refine ⟨?_, hR.1 3 (by decide), fun g2 => ⟨?_, rfl⟩⟩
            · have g15 := b1 15 (by decide)
              split <;> omega
            · rw [if_neg (by omega)]
              exact (g.2.2 g2).1
          · exact b3'
          · rw [h15]; omega
          · exact b5
          · exact b6
          · rw [q_sum_zero (fun i hi => by
              have e7 : q_dayed M 129 (7 + i) = 0 := by rw [hu, if_neg (by omega), if_pos (by omega)]
              show (if q_dayed M 129 (7 + i) = (a : Int) + 1 then 1 else 0) = 0
              rw [e7, if_neg (by omega)])]
            exact hR.1 _ (by have := hR.2.1.2.2.2.1; omega)
        have e124 : ∀ k, k ≠ 11 → q_dayed M 124 k = q_note M 124 k := fun k hk => by
          unfold q_dayed
          rw [if_neg (by decide), if_neg (fun g => hk g.2)]
        exact (hF.note h1).now (q_note_124 (s := M) (b := 14) (by decide) ▸ h1) (q_dayed_ne (by decide) (by decide)) (q_dayed_ne (by decide) (by decide)) (q_dayed_ne (by decide) (by decide)) (q_dayed_ne (by decide) (by decide)) (e124 14 (by decide)) (e124 2 (by decide)) (e124 9 (by decide)) (e124 10 (by decide)) (e124 20 (by decide)) (e124 21 (by decide)) ⟨Int.le_refl 0, by show (0 : Int) ≤ 6; decide⟩ hT2
theorem l_day_2 {l : Launch} {X : ZX} {M : ZM} {ρ : Nat → Int} {h : Int} (hW : zWc M) (hC : ICc ρ h 2 M) (hR : wfR ρ) (hco : M 0 5 = 2) {S : Nat} (hS : S < 2147483648) {x : Int} {Q : Option ZV → ZM → Prop} (hQ : zP l X 4 tX11_day 122 [some (zr 0), some (zi (S : Int)), some (zi x), some (zi (q_n ρ 2 : Int))] [] (zadd M 50 (q_n ρ 2) (fun s => (q_harm (q_n ρ) S s : Int))) Q) : ∀ (j i : Nat), i + j = q_n ρ 2 → zP l X 4 tX11_day 81 [some (zr 0), some (zi (S : Int)), some (zi x), some (zi (i : Int))] [] (zadd M 50 i (fun s => (q_harm (q_n ρ) S s : Int))) (Q) := by
  have e2 : ρ 2 = (q_n ρ 2 : Int) := hR.n (by decide)
  have b2 := hR.2.1.2.2.1
  intro j
  induction j with
  | zero =>
    intro i hi
    refine p_iload_n 82 dX11_day_81 rfl rfl ?_
    refine p_aload_n 83 dX11_day_82 rfl rfl (by decide) ?_
    refine p_getR 0 86 dX11_day_83 fX11_16 rfl ((congrFun (zadd_ne (by decide)) 5).trans hco) ?_
    refine p_getR 2 89 dX11_day_86 fX11_99 rfl ((zadd_wc hW (by decide +kernel)) (2, 3, 3) (by decide)) ?_
    refine p_getI 3 92 dX11_day_89 fX11_103 rfl ?_
    rw [zadd_ne (by decide), hC.1.2.2.2.1]
    refine p_icmp_ge 122 95 dX11_day_92 (by omega) (by omega) (by omega) (by omega) (fun h92 => ?_) (fun h92 => absurd (by omega) (fun h9 : False => h9))
    rw [Nat.add_zero] at hi
    rw [hi]
    exact hQ
  | succ j ih =>
    intro i hi
    refine p_iload_n 82 dX11_day_81 rfl rfl ?_
    refine p_aload_n 83 dX11_day_82 rfl rfl (by decide) ?_
    refine p_getR 0 86 dX11_day_83 fX11_16 rfl ((congrFun (zadd_ne (by decide)) 5).trans hco) ?_
    refine p_getR 2 89 dX11_day_86 fX11_99 rfl ((zadd_wc hW (by decide +kernel)) (2, 3, 3) (by decide)) ?_
    refine p_getI 3 92 dX11_day_89 fX11_103 rfl ?_
    rw [zadd_ne (by decide), hC.1.2.2.2.1]
    refine p_icmp_ge 122 95 dX11_day_92 (by omega) (by omega) (by omega) (by omega) (fun h92 => absurd (by omega) (fun h9 : False => h9)) (fun h92 => ?_)
    refine p_aload_n 96 dX11_day_95 rfl rfl (by decide) ?_
    refine p_getR 0 99 dX11_day_96 fX11_33 rfl ((zadd_wc hW (by decide +kernel)) (0, 8, 49) (by decide)) ?_
    refine p_getR 49 102 dX11_day_99 fX11_139 rfl ((zadd_wc hW (by decide +kernel)) (49, 4, 50) (by decide)) ?_
    refine p_iload_n 103 dX11_day_102 rfl rfl ?_
    refine p_dup2 104 dX11_day_103 ?_
    refine p_ialdn 50 105 (i) dX11_day_104 rfl (by omega) (by omega) ?_
    refine p_aload_n 106 dX11_day_105 rfl rfl (by decide) ?_
    refine p_getR 0 109 dX11_day_106 fX11_16 rfl ((congrFun (zadd_ne (by decide)) 5).trans hco) ?_
    refine p_iload_n 110 dX11_day_109 rfl rfl ?_
    refine p_iload_n 111 dX11_day_110 rfl rfl ?_
    refine p_callV2i 2 114 dX11_day_111 (s_dayHarm_2 (zadd_wc hW (by decide +kernel)) (hC.congr (fun a g1 g2 => zadd_ne (by omega))) hR (s := i) (S := S) (by omega) hS) lk_X11_177 mX0_dayHarm rfl rfl (by decide) (Nat.le_of_ble_eq_true rfl) ?_
    rintro _ _ ⟨rfl, e9⟩
    have e9 := e9.symm
    subst e9
    refine p_iadd 115 dX11_day_114 ?_
    refine p_iastn 50 116 (i) dX11_day_115 rfl (by omega) (by omega) ?_
    refine p_iinc 119 dX11_day_116 rfl rfl rfl ?_
    dsimp only [List.set]
    refine p_goto 81 dX11_day_119 ?_
    rw [zadd_step M 50 i (fun s => (q_harm (q_n ρ) S s : Int))]
    exact ih (i + 1) (by omega)
theorem l_day_25 {l : Launch} {X : ZX} {M : ZM} {ρ : Nat → Int} {h : Int} (hW : zWc M) (hC : ICc ρ h 25 M) (hR : wfR ρ) (hco : M 0 5 = 25) {S : Nat} (hS : S < 2147483648) {x : Int} {Q : Option ZV → ZM → Prop} (hQ : zP l X 4 tX11_day 122 [some (zr 0), some (zi (S : Int)), some (zi x), some (zi (q_n ρ 2 : Int))] [] (zadd M 50 (q_n ρ 2) (fun s => (q_harm (q_n ρ) S s : Int))) Q) : ∀ (j i : Nat), i + j = q_n ρ 2 → zP l X 4 tX11_day 81 [some (zr 0), some (zi (S : Int)), some (zi x), some (zi (i : Int))] [] (zadd M 50 i (fun s => (q_harm (q_n ρ) S s : Int))) (Q) := by
  have e2 : ρ 2 = (q_n ρ 2 : Int) := hR.n (by decide)
  have b2 := hR.2.1.2.2.1
  intro j
  induction j with
  | zero =>
    intro i hi
    refine p_iload_n 82 dX11_day_81 rfl rfl ?_
    refine p_aload_n 83 dX11_day_82 rfl rfl (by decide) ?_
    refine p_getR 0 86 dX11_day_83 fX11_16 rfl ((congrFun (zadd_ne (by decide)) 5).trans hco) ?_
    refine p_getR 25 89 dX11_day_86 fX11_99 rfl ((zadd_wc hW (by decide +kernel)) (25, 3, 26) (by decide)) ?_
    refine p_getI 26 92 dX11_day_89 fX11_103 rfl ?_
    rw [zadd_ne (by decide), hC.1.2.2.2.1]
    refine p_icmp_ge 122 95 dX11_day_92 (by omega) (by omega) (by omega) (by omega) (fun h92 => ?_) (fun h92 => absurd (by omega) (fun h9 : False => h9))
    rw [Nat.add_zero] at hi
    rw [hi]
    exact hQ
  | succ j ih =>
    intro i hi
    refine p_iload_n 82 dX11_day_81 rfl rfl ?_
    refine p_aload_n 83 dX11_day_82 rfl rfl (by decide) ?_
    refine p_getR 0 86 dX11_day_83 fX11_16 rfl ((congrFun (zadd_ne (by decide)) 5).trans hco) ?_
    refine p_getR 25 89 dX11_day_86 fX11_99 rfl ((zadd_wc hW (by decide +kernel)) (25, 3, 26) (by decide)) ?_
    refine p_getI 26 92 dX11_day_89 fX11_103 rfl ?_
    rw [zadd_ne (by decide), hC.1.2.2.2.1]
    refine p_icmp_ge 122 95 dX11_day_92 (by omega) (by omega) (by omega) (by omega) (fun h92 => absurd (by omega) (fun h9 : False => h9)) (fun h92 => ?_)
    refine p_aload_n 96 dX11_day_95 rfl rfl (by decide) ?_
    refine p_getR 0 99 dX11_day_96 fX11_33 rfl ((zadd_wc hW (by decide +kernel)) (0, 8, 49) (by decide)) ?_
    refine p_getR 49 102 dX11_day_99 fX11_139 rfl ((zadd_wc hW (by decide +kernel)) (49, 4, 50) (by decide)) ?_
    refine p_iload_n 103 dX11_day_102 rfl rfl ?_
    refine p_dup2 104 dX11_day_103 ?_
    refine p_ialdn 50 105 (i) dX11_day_104 rfl (by omega) (by omega) ?_
    refine p_aload_n 106 dX11_day_105 rfl rfl (by decide) ?_
    refine p_getR 0 109 dX11_day_106 fX11_16 rfl ((congrFun (zadd_ne (by decide)) 5).trans hco) ?_
    refine p_iload_n 110 dX11_day_109 rfl rfl ?_
    refine p_iload_n 111 dX11_day_110 rfl rfl ?_
    refine p_callV2i 25 114 dX11_day_111 (s_dayHarm_25 (zadd_wc hW (by decide +kernel)) (hC.congr (fun a g1 g2 => zadd_ne (by omega))) hR (s := i) (S := S) (by omega) hS) lk_X11_177 mX0_dayHarm rfl rfl (by decide) (Nat.le_of_ble_eq_true rfl) ?_
    rintro _ _ ⟨rfl, e9⟩
    have e9 := e9.symm
    subst e9
    refine p_iadd 115 dX11_day_114 ?_
    refine p_iastn 50 116 (i) dX11_day_115 rfl (by omega) (by omega) ?_
    refine p_iinc 119 dX11_day_116 rfl rfl rfl ?_
    dsimp only [List.set]
    refine p_goto 81 dX11_day_119 ?_
    rw [zadd_step M 50 i (fun s => (q_harm (q_n ρ) S s : Int))]
    exact ih (i + 1) (by omega)
theorem c_day {l : Launch} {X : ZX} {M : ZM} (hI : IC M M) (hF : WF M)  : zCi l X 4 yX11_day tX11_day [zr 0] M (CA M (ga_day M)) := by
  obtain ⟨hW, ⟨c, c', hcc, hco, hsp, hC⟩, ⟨j1, j2, j3, j4, j5⟩, hN, hpast, hten, ⟨hz0, hsea⟩, hfit⟩ := id hI
  have hR := hF.r
  have hT := hF.t
  have hh := hF.h
  have e0 : M 127 0 = (q_n (M 127) 0 : Int) := hR.n (by decide)
  have e2 : M 127 2 = (q_n (M 127) 2 : Int) := hR.n (by decide)
  have e3 : M 127 3 = (q_n (M 127) 3 : Int) := hR.n (by decide)
  have e4 : M 127 4 = (q_n (M 127) 4 : Int) := hR.n (by decide)
  have bR := hR.2.1
  have h20 : M 124 14 = 0 → M 127 2 = 0 := fun h => hF.r0 h 2 (by decide)
  have h30 : M 124 14 = 0 → M 127 3 = 0 := fun h => hF.r0 h 3 (by decide)
  have h40 : M 124 14 = 0 → M 127 4 = 0 := fun h => hF.r0 h 4 (by decide)
  have hwo : M 49 3 = M 129 16 := hN.2.2.2.1
  have t160 := hT.1 16 (by decide)
  have t161 := hT.2.2.2.2.1
  refine zC.of [some (zr 0), none, none, none] (by decide +kernel) rfl rfl (Nat.le_of_ble_eq_true rfl) rfl ?_
  rcases hcc with ⟨rfl, rfl⟩ | ⟨rfl, rfl⟩
  · have hto : M 2 0 = M 124 14 := hC.1.1
    have hla : M 2 1 = M 127 0 := hC.1.2.1
    have hsn : M 2 2 = M 127 1 := hC.1.2.2.1
    have hcs : M 3 0 = M 127 2 := hC.1.2.2.2.1
    have hca : M 8 0 = M 127 3 := hC.1.2.2.2.2.1
    have hcw : M 13 0 = M 127 4 := hC.1.2.2.2.2.2.1
    have hcb : M 13 1 = M 127 5 := hC.1.2.2.2.2.2.2.1
    have hcor : M 19 0 = M 127 6 := hC.1.2.2.2.2.2.2.2.1
    have hcn : M 19 4 = M 127 7 := hC.1.2.2.2.2.2.2.2.2
    have hu := hF.u
    have hm3 := hF.m
    obtain ⟨p1, p2, top, ht16, p3, p4, p5⟩ := id hpast
    obtain ⟨cnt, hcnt⟩ : ∃ k : Nat, M 124 20 = (k : Int) := ⟨(M 124 20).toNat, by omega⟩
    have hc52 : M 52 2 = (cnt : Int) := by omega
    obtain ⟨ki, hki⟩ : ∃ k : Nat, M 124 21 = (k : Int) := ⟨(M 124 21).toNat, by omega⟩
    have hc54 : M 52 4 = (ki : Int) := by omega
    refine p_aload_n 1 dX11_day_0 rfl rfl (by decide) ?_
    refine p_getR 0 4 dX11_day_1 fX11_16 rfl hco ?_
    refine p_getI 2 7 dX11_day_4 fX11_114 rfl ?_
    rw [hto]
    refine p_if_ne 16 10 dX11_day_7 (by omega) (by omega) (fun h7 => ?_) (fun h7 => ?_)
    · have h1 : M 124 14 = 1 := by omega
      have hN1 : ICn (M 129) 1 49 M := by rw [← h1]; exact hN
      have t150 := hT.1 15 (by decide)
      have t151 := hT.2.2.2.1
      refine p_aload_n 17 dX11_day_16 rfl rfl (by decide) ?_
      refine p_getR 0 20 dX11_day_17 fX11_33 rfl (hW (0, 8, 49) (by decide)) ?_
      refine p_getI 49 23 dX11_day_20 fX11_343 rfl ?_
      rw [show M 49 0 = M 129 15 from hN.1]
      refine p_sipush 26 dX11_day_23 rfl ?_
      refine p_icmp_lt 35 29 dX11_day_26 (by omega) (by omega) (by omega) (by omega) (fun h26 => ?_) (fun h26 => ?_)
      · refine p_aload_n 36 dX11_day_35 rfl rfl (by decide) ?_
        refine p_getR 0 39 dX11_day_36 fX11_33 rfl (hW (0, 8, 49) (by decide)) ?_
        refine p_getI 49 42 dX11_day_39 fX11_170 rfl ?_
        rw [hwo]
        refine p_if_eq 51 45 dX11_day_42 (by omega) (by omega) (fun h42 => ?_) (fun h42 => ?_)
        · refine p_aload_n 52 dX11_day_51 rfl rfl (by decide) ?_
          refine p_getR 0 55 dX11_day_52 fX11_40 rfl (hW (0, 9, 52) (by decide)) ?_
          refine p_aload_n 56 dX11_day_55 rfl rfl (by decide) ?_
          refine p_getR 0 59 dX11_day_56 fX11_33 rfl (hW (0, 8, 49) (by decide)) ?_
          refine p_callV1v 52 62 dX11_day_59 (s_keep hW ht16 (by omega) p3 hc52 (by rw [hwo]; omega)) lk_X11_335 mX5_keep rfl rfl (by decide) (Nat.le_of_ble_eq_true rfl) ?_
          intro M9 e9
          change M9 = zkeep M top cnt at e9
          subst e9
          have hI9 := hI.keep hF h1 ht16 p3 hc52
          have hW := hI9.1
          have hN := hI9.2.2.2.1
          rw [show q_note M 124 14 = 1 from (q_note_124 (by decide)).trans h1] at hN
          have hT : wfT (q_note M 127) (q_note M 129) := (hF.note h1).t
          have hco : zkeep M top cnt 0 5 = 2 := (congrFun (zkeep_ne (by omega) (by omega) (by omega) (by decide)) 5).trans hco
          have hC : ICc (q_note M 127) (M 124 14) 2 (zkeep M top cnt) := hC.congr (fun a g1 g2 => zkeep_ne (by omega) (by omega) (by omega) (by omega))
          refine p_aload_n 63 dX11_day_62 rfl rfl (by decide) ?_
          refine p_getR 0 66 dX11_day_63 fX11_33 rfl (hW (0, 8, 49) (by decide)) ?_
          refine p_callV0i 49 69 dX11_day_66 (s_tendedBits hW hN hT hR) lk_X11_173 mX3_tendedBits rfl rfl (by decide) (Nat.le_of_ble_eq_true rfl) ?_
          rintro _ _ ⟨rfl, e9⟩
          have e9 := e9.symm
          subst e9
          refine p_istore_n 70 dX11_day_69 rfl (Nat.le_of_ble_eq_true rfl) rfl rfl ?_
          dsimp only [List.set]
          refine p_aload_n 71 dX11_day_70 rfl rfl (by decide) ?_
          refine p_getR 0 74 dX11_day_71 fX11_16 rfl hco ?_
          refine p_iload_n 75 dX11_day_74 rfl rfl ?_
          refine p_callV1i 2 78 dX11_day_75 (s_dayHarmOfAll_2 hW hC hR (S := q_tset (M 129)) (q_tset_lt _)) lk_X11_181 mX0_dayHarmOfAll rfl rfl (by decide) (Nat.le_of_ble_eq_true rfl) ?_
          rintro _ _ ⟨rfl, e9⟩
          have e9 := e9.symm
          subst e9
          refine p_istore_n 79 dX11_day_78 rfl (Nat.le_of_ble_eq_true rfl) rfl rfl ?_
          dsimp only [List.set]
          refine p_iconst 80 dX11_day_79 ?_
          refine p_istore_n 81 dX11_day_80 rfl (Nat.le_of_ble_eq_true rfl) rfl rfl ?_
          dsimp only [List.set]
          have e := l_day_2 (l := l) (X := X) (Q := fun r M' => ∃ a, r = some (zi a) ∧ CA M (ga_day M) a M') (x := (q_harms (q_n (q_note M 127)) (q_tset (M 129)) : Int)) hW hC hR hco (S := q_tset (M 129)) (q_tset_lt _) ?_ (q_n (q_note M 127) 2) 0 (Nat.zero_add _)
          · rw [zadd_zero] at e
            exact e
          · have hW50 : zWc (zadd (zkeep M top cnt) 50 (q_n (q_note M 127) 2) (fun s => (q_harm (q_n (q_note M 127)) (q_tset (M 129)) s : Int))) := zadd_wc hW (by decide +kernel)
            refine p_aload_n 123 dX11_day_122 rfl rfl (by decide) ?_
            refine p_getR 0 126 dX11_day_123 fX11_33 rfl (hW50 (0, 8, 49) (by decide)) ?_
            refine p_callV0v 49 129 dX11_day_126 (s_tendNobody hW50) lk_X11_346 mX3_tendNobody rfl rfl (by decide) (Nat.le_of_ble_eq_true rfl) ?_
            rintro _ rfl
            have hW50 := zfill_wc (c := 51) (k := 7) (v := -2) hW50 (by decide +kernel)
            refine p_aload_n 130 dX11_day_129 rfl rfl (by decide) ?_
            refine p_getR 0 133 dX11_day_130 fX11_33 rfl (hW50 (0, 8, 49) (by decide)) ?_
            refine p_dupR 134 dX11_day_133 ?_
            refine p_getI 49 137 dX11_day_134 fX11_343 rfl ?_
            refine p_iconst 138 dX11_day_137 ?_
            refine p_iadd 139 dX11_day_138 ?_
            refine p_putI 49 142 dX11_day_139 wX11_343 rfl ?_
            refine p_aload_n 143 dX11_day_142 rfl rfl (by decide) ?_
            refine p_iload_n 144 dX11_day_143 rfl rfl ?_
            refine p_callV1i 0 147 dX11_day_144 s_grant lk_X11_108 mX11_grant rfl rfl (by decide) (Nat.le_of_ble_eq_true rfl) ?_
            rintro _ _ ⟨rfl, rfl⟩
            refine p_iret dX11_day_147 rfl ?_
            refine ⟨_, rfl, ?_⟩
            unfold ga_day
            rw [if_neg (by omega), if_neg (by omega), if_neg (by omega)]
            refine ⟨?_, ?_, fun k hk => by rw [zset_ne _ (by omega), zset_ne _ (by omega), zfill_ne (by omega), zadd_ne (by omega), zkeep_ne (by omega) (by omega) (by omega) (by omega)]⟩
            · show ((q_harms (q_n (M 127)) (q_tset (M 129)) : Nat) : Int) = _
              unfold q_harms
              rw [q_sum_congr (fun i _ => show q_harm (q_n (M 127)) (q_tset (M 129)) i = q_harmN (q_n (M 127)) (M 129) i from by unfold q_harmN; rw [if_neg (by omega)])]
            have e124 : ∀ k, k ≠ 11 → q_dayed M 124 k = q_note M 124 k := fun k hk => by
              unfold q_dayed
              rw [if_neg (by decide), if_neg (fun g => hk g.2)]
            refine hI9.now (s' := q_dayed M) (hF.note h1) ?_ (q_dayed_ne (by decide) (by decide)) (q_dayed_ne (by decide) (by decide)) (q_dayed_ne (by decide) (by decide)) (q_dayed_ne (by decide) (by decide)) (e124 14 (by decide)) (e124 2 (by decide)) (e124 9 (by decide)) (e124 20 (by decide)) (e124 21 (by decide)) (fun a g1 g2 g3 g4 g5 => by rw [zset_ne _ g1, zset_ne _ g2, zfill_ne g4, zadd_ne g3]) (fun k hk => ?_) rfl (by show (0 : Int) ≠ 4; decide) ?_
            · exact ((zfill_wc (zadd_wc hW (by decide +kernel)) (by decide +kernel)).set (by decide +kernel)).set (by decide +kernel)
            · rw [zset_k hk, zset_ne _ (by decide), zfill_ne (by decide), zadd_ne (by decide)]
            · obtain ⟨n1, n2, n3, n4, n5, n6⟩ := hN
              have n15 : zkeep M top cnt 49 0 = M 129 15 := n1
              refine ⟨?_, ?_, ?_, ?_, fun s hs => ?_, fun g1 s hs => ?_⟩
              · show zkeep M top cnt 49 0 + 1 = M 129 15 + 1
                rw [n15]
              · exact n2
              · exact n3
              · exact n4
              · show zadd (zkeep M top cnt) 50 (q_n (M 127) 2) (fun s => (q_harm (q_n (M 127)) (q_tset (M 129)) s : Int)) 50 s = if s < 7 then (if s < q_n (M 127) 2 then M 129 s + (q_harmN (q_n (M 127)) (M 129) s : Int) else M 129 s) else _
                have n5' : zkeep M top cnt 50 s = M 129 s := n5 s hs
                rw [if_pos hs]
                by_cases e : s < q_n (M 127) 2
                · rw [if_pos e, zadd_in e, n5']
                  unfold q_harmN
                  rw [if_neg (by omega)]
                · rw [if_neg e, zadd_out (by omega), n5']
              · have e7 : q_dayed M 129 (7 + s) = 0 := by
                  show (if 7 + s < 7 then _ else if 7 + s < 14 then (0 : Int) else _) = 0
                  rw [if_neg (by omega), if_pos (by omega)]
                rw [e7]
                show zfill (zadd (zkeep M top cnt) 50 (q_n (M 127) 2) (fun s => (q_harm (q_n (M 127)) (q_tset (M 129)) s : Int))) 51 7 (-2) 51 s = q_tnd 0
                unfold zfill
                rw [if_pos ⟨rfl, hs⟩]
                rfl
        · refine p_aload_n 46 dX11_day_45 rfl rfl (by decide) ?_
          refine p_iconst 47 dX11_day_46 ?_
          refine p_callV1i 0 50 dX11_day_47 s_refuse lk_X11_73 mX11_refuse rfl rfl (by decide) (Nat.le_of_ble_eq_true rfl) ?_
          rintro _ _ ⟨rfl, rfl⟩
          refine p_iret dX11_day_50 rfl ?_
          exact ⟨_, rfl, CA.no hI hF (by unfold ga_day; (repeat' split) <;> first | rfl | (exfalso; omega)) (by unfold ga_day; (repeat' split) <;> first | rfl | (exfalso; omega)) (by decide)⟩
      · refine p_aload_n 30 dX11_day_29 rfl rfl (by decide) ?_
        refine p_iconst 31 dX11_day_30 ?_
        refine p_callV1i 0 34 dX11_day_31 s_refuse lk_X11_73 mX11_refuse rfl rfl (by decide) (Nat.le_of_ble_eq_true rfl) ?_
        rintro _ _ ⟨rfl, rfl⟩
        refine p_iret dX11_day_34 rfl ?_
        exact ⟨_, rfl, CA.no hI hF (by unfold ga_day; (repeat' split) <;> first | rfl | (exfalso; omega)) (by unfold ga_day; (repeat' split) <;> first | rfl | (exfalso; omega)) (by decide)⟩
    · refine p_aload_n 11 dX11_day_10 rfl rfl (by decide) ?_
      refine p_iconst 12 dX11_day_11 ?_
      refine p_callV1i 0 15 dX11_day_12 s_refuse lk_X11_73 mX11_refuse rfl rfl (by decide) (Nat.le_of_ble_eq_true rfl) ?_
      rintro _ _ ⟨rfl, rfl⟩
      refine p_iret dX11_day_15 rfl ?_
      exact ⟨_, rfl, CA.no hI hF (by unfold ga_day; (repeat' split) <;> first | rfl | (exfalso; omega)) (by unfold ga_day; (repeat' split) <;> first | rfl | (exfalso; omega)) (by decide)⟩
  · have hto : M 25 0 = M 124 14 := hC.1.1
    have hla : M 25 1 = M 127 0 := hC.1.2.1
    have hsn : M 25 2 = M 127 1 := hC.1.2.2.1
    have hcs : M 26 0 = M 127 2 := hC.1.2.2.2.1
    have hca : M 31 0 = M 127 3 := hC.1.2.2.2.2.1
    have hcw : M 36 0 = M 127 4 := hC.1.2.2.2.2.2.1
    have hcb : M 36 1 = M 127 5 := hC.1.2.2.2.2.2.2.1
    have hcor : M 42 0 = M 127 6 := hC.1.2.2.2.2.2.2.2.1
    have hcn : M 42 4 = M 127 7 := hC.1.2.2.2.2.2.2.2.2
    have hu := hF.u
    have hm3 := hF.m
    obtain ⟨p1, p2, top, ht16, p3, p4, p5⟩ := id hpast
    obtain ⟨cnt, hcnt⟩ : ∃ k : Nat, M 124 20 = (k : Int) := ⟨(M 124 20).toNat, by omega⟩
    have hc52 : M 52 2 = (cnt : Int) := by omega
    obtain ⟨ki, hki⟩ : ∃ k : Nat, M 124 21 = (k : Int) := ⟨(M 124 21).toNat, by omega⟩
    have hc54 : M 52 4 = (ki : Int) := by omega
    refine p_aload_n 1 dX11_day_0 rfl rfl (by decide) ?_
    refine p_getR 0 4 dX11_day_1 fX11_16 rfl hco ?_
    refine p_getI 25 7 dX11_day_4 fX11_114 rfl ?_
    rw [hto]
    refine p_if_ne 16 10 dX11_day_7 (by omega) (by omega) (fun h7 => ?_) (fun h7 => ?_)
    · have h1 : M 124 14 = 1 := by omega
      have hN1 : ICn (M 129) 1 49 M := by rw [← h1]; exact hN
      have t150 := hT.1 15 (by decide)
      have t151 := hT.2.2.2.1
      refine p_aload_n 17 dX11_day_16 rfl rfl (by decide) ?_
      refine p_getR 0 20 dX11_day_17 fX11_33 rfl (hW (0, 8, 49) (by decide)) ?_
      refine p_getI 49 23 dX11_day_20 fX11_343 rfl ?_
      rw [show M 49 0 = M 129 15 from hN.1]
      refine p_sipush 26 dX11_day_23 rfl ?_
      refine p_icmp_lt 35 29 dX11_day_26 (by omega) (by omega) (by omega) (by omega) (fun h26 => ?_) (fun h26 => ?_)
      · refine p_aload_n 36 dX11_day_35 rfl rfl (by decide) ?_
        refine p_getR 0 39 dX11_day_36 fX11_33 rfl (hW (0, 8, 49) (by decide)) ?_
        refine p_getI 49 42 dX11_day_39 fX11_170 rfl ?_
        rw [hwo]
        refine p_if_eq 51 45 dX11_day_42 (by omega) (by omega) (fun h42 => ?_) (fun h42 => ?_)
        · refine p_aload_n 52 dX11_day_51 rfl rfl (by decide) ?_
          refine p_getR 0 55 dX11_day_52 fX11_40 rfl (hW (0, 9, 52) (by decide)) ?_
          refine p_aload_n 56 dX11_day_55 rfl rfl (by decide) ?_
          refine p_getR 0 59 dX11_day_56 fX11_33 rfl (hW (0, 8, 49) (by decide)) ?_
          refine p_callV1v 52 62 dX11_day_59 (s_keep hW ht16 (by omega) p3 hc52 (by rw [hwo]; omega)) lk_X11_335 mX5_keep rfl rfl (by decide) (Nat.le_of_ble_eq_true rfl) ?_
          intro M9 e9
          change M9 = zkeep M top cnt at e9
          subst e9
          have hI9 := hI.keep hF h1 ht16 p3 hc52
          have hW := hI9.1
          have hN := hI9.2.2.2.1
          rw [show q_note M 124 14 = 1 from (q_note_124 (by decide)).trans h1] at hN
          have hT : wfT (q_note M 127) (q_note M 129) := (hF.note h1).t
          have hco : zkeep M top cnt 0 5 = 25 := (congrFun (zkeep_ne (by omega) (by omega) (by omega) (by decide)) 5).trans hco
          have hC : ICc (q_note M 127) (M 124 14) 25 (zkeep M top cnt) := hC.congr (fun a g1 g2 => zkeep_ne (by omega) (by omega) (by omega) (by omega))
          refine p_aload_n 63 dX11_day_62 rfl rfl (by decide) ?_
          refine p_getR 0 66 dX11_day_63 fX11_33 rfl (hW (0, 8, 49) (by decide)) ?_
          refine p_callV0i 49 69 dX11_day_66 (s_tendedBits hW hN hT hR) lk_X11_173 mX3_tendedBits rfl rfl (by decide) (Nat.le_of_ble_eq_true rfl) ?_
          rintro _ _ ⟨rfl, e9⟩
          have e9 := e9.symm
          subst e9
          refine p_istore_n 70 dX11_day_69 rfl (Nat.le_of_ble_eq_true rfl) rfl rfl ?_
          dsimp only [List.set]
          refine p_aload_n 71 dX11_day_70 rfl rfl (by decide) ?_
          refine p_getR 0 74 dX11_day_71 fX11_16 rfl hco ?_
          refine p_iload_n 75 dX11_day_74 rfl rfl ?_
          refine p_callV1i 25 78 dX11_day_75 (s_dayHarmOfAll_25 hW hC hR (S := q_tset (M 129)) (q_tset_lt _)) lk_X11_181 mX0_dayHarmOfAll rfl rfl (by decide) (Nat.le_of_ble_eq_true rfl) ?_
          rintro _ _ ⟨rfl, e9⟩
          have e9 := e9.symm
          subst e9
          refine p_istore_n 79 dX11_day_78 rfl (Nat.le_of_ble_eq_true rfl) rfl rfl ?_
          dsimp only [List.set]
          refine p_iconst 80 dX11_day_79 ?_
          refine p_istore_n 81 dX11_day_80 rfl (Nat.le_of_ble_eq_true rfl) rfl rfl ?_
          dsimp only [List.set]
          have e := l_day_25 (l := l) (X := X) (Q := fun r M' => ∃ a, r = some (zi a) ∧ CA M (ga_day M) a M') (x := (q_harms (q_n (q_note M 127)) (q_tset (M 129)) : Int)) hW hC hR hco (S := q_tset (M 129)) (q_tset_lt _) ?_ (q_n (q_note M 127) 2) 0 (Nat.zero_add _)
          · rw [zadd_zero] at e
            exact e
          · have hW50 : zWc (zadd (zkeep M top cnt) 50 (q_n (q_note M 127) 2) (fun s => (q_harm (q_n (q_note M 127)) (q_tset (M 129)) s : Int))) := zadd_wc hW (by decide +kernel)
            refine p_aload_n 123 dX11_day_122 rfl rfl (by decide) ?_
            refine p_getR 0 126 dX11_day_123 fX11_33 rfl (hW50 (0, 8, 49) (by decide)) ?_
            refine p_callV0v 49 129 dX11_day_126 (s_tendNobody hW50) lk_X11_346 mX3_tendNobody rfl rfl (by decide) (Nat.le_of_ble_eq_true rfl) ?_
            rintro _ rfl
            have hW50 := zfill_wc (c := 51) (k := 7) (v := -2) hW50 (by decide +kernel)
            refine p_aload_n 130 dX11_day_129 rfl rfl (by decide) ?_
            refine p_getR 0 133 dX11_day_130 fX11_33 rfl (hW50 (0, 8, 49) (by decide)) ?_
            refine p_dupR 134 dX11_day_133 ?_
            refine p_getI 49 137 dX11_day_134 fX11_343 rfl ?_
            refine p_iconst 138 dX11_day_137 ?_
            refine p_iadd 139 dX11_day_138 ?_
            refine p_putI 49 142 dX11_day_139 wX11_343 rfl ?_
            refine p_aload_n 143 dX11_day_142 rfl rfl (by decide) ?_
            refine p_iload_n 144 dX11_day_143 rfl rfl ?_
            refine p_callV1i 0 147 dX11_day_144 s_grant lk_X11_108 mX11_grant rfl rfl (by decide) (Nat.le_of_ble_eq_true rfl) ?_
            rintro _ _ ⟨rfl, rfl⟩
            refine p_iret dX11_day_147 rfl ?_
            refine ⟨_, rfl, ?_⟩
            unfold ga_day
            rw [if_neg (by omega), if_neg (by omega), if_neg (by omega)]
            refine ⟨?_, ?_, fun k hk => by rw [zset_ne _ (by omega), zset_ne _ (by omega), zfill_ne (by omega), zadd_ne (by omega), zkeep_ne (by omega) (by omega) (by omega) (by omega)]⟩
            · show ((q_harms (q_n (M 127)) (q_tset (M 129)) : Nat) : Int) = _
              unfold q_harms
              rw [q_sum_congr (fun i _ => show q_harm (q_n (M 127)) (q_tset (M 129)) i = q_harmN (q_n (M 127)) (M 129) i from by unfold q_harmN; rw [if_neg (by omega)])]
            have e124 : ∀ k, k ≠ 11 → q_dayed M 124 k = q_note M 124 k := fun k hk => by
              unfold q_dayed
              rw [if_neg (by decide), if_neg (fun g => hk g.2)]
            refine hI9.now (s' := q_dayed M) (hF.note h1) ?_ (q_dayed_ne (by decide) (by decide)) (q_dayed_ne (by decide) (by decide)) (q_dayed_ne (by decide) (by decide)) (q_dayed_ne (by decide) (by decide)) (e124 14 (by decide)) (e124 2 (by decide)) (e124 9 (by decide)) (e124 20 (by decide)) (e124 21 (by decide)) (fun a g1 g2 g3 g4 g5 => by rw [zset_ne _ g1, zset_ne _ g2, zfill_ne g4, zadd_ne g3]) (fun k hk => ?_) rfl (by show (0 : Int) ≠ 4; decide) ?_
            · exact ((zfill_wc (zadd_wc hW (by decide +kernel)) (by decide +kernel)).set (by decide +kernel)).set (by decide +kernel)
            · rw [zset_k hk, zset_ne _ (by decide), zfill_ne (by decide), zadd_ne (by decide)]
            · obtain ⟨n1, n2, n3, n4, n5, n6⟩ := hN
              have n15 : zkeep M top cnt 49 0 = M 129 15 := n1
              refine ⟨?_, ?_, ?_, ?_, fun s hs => ?_, fun g1 s hs => ?_⟩
              · show zkeep M top cnt 49 0 + 1 = M 129 15 + 1
                rw [n15]
              · exact n2
              · exact n3
              · exact n4
              · show zadd (zkeep M top cnt) 50 (q_n (M 127) 2) (fun s => (q_harm (q_n (M 127)) (q_tset (M 129)) s : Int)) 50 s = if s < 7 then (if s < q_n (M 127) 2 then M 129 s + (q_harmN (q_n (M 127)) (M 129) s : Int) else M 129 s) else _
                have n5' : zkeep M top cnt 50 s = M 129 s := n5 s hs
                rw [if_pos hs]
                by_cases e : s < q_n (M 127) 2
                · rw [if_pos e, zadd_in e, n5']
                  unfold q_harmN
                  rw [if_neg (by omega)]
                · rw [if_neg e, zadd_out (by omega), n5']
              · have e7 : q_dayed M 129 (7 + s) = 0 := by
                  show (if 7 + s < 7 then _ else if 7 + s < 14 then (0 : Int) else _) = 0
                  rw [if_neg (by omega), if_pos (by omega)]
                rw [e7]
                show zfill (zadd (zkeep M top cnt) 50 (q_n (M 127) 2) (fun s => (q_harm (q_n (M 127)) (q_tset (M 129)) s : Int))) 51 7 (-2) 51 s = q_tnd 0
                unfold zfill
                rw [if_pos ⟨rfl, hs⟩]
                rfl
        · refine p_aload_n 46 dX11_day_45 rfl rfl (by decide) ?_
          refine p_iconst 47 dX11_day_46 ?_
          refine p_callV1i 0 50 dX11_day_47 s_refuse lk_X11_73 mX11_refuse rfl rfl (by decide) (Nat.le_of_ble_eq_true rfl) ?_
          rintro _ _ ⟨rfl, rfl⟩
          refine p_iret dX11_day_50 rfl ?_
          exact ⟨_, rfl, CA.no hI hF (by unfold ga_day; (repeat' split) <;> first | rfl | (exfalso; omega)) (by unfold ga_day; (repeat' split) <;> first | rfl | (exfalso; omega)) (by decide)⟩
      · refine p_aload_n 30 dX11_day_29 rfl rfl (by decide) ?_
        refine p_iconst 31 dX11_day_30 ?_
        refine p_callV1i 0 34 dX11_day_31 s_refuse lk_X11_73 mX11_refuse rfl rfl (by decide) (Nat.le_of_ble_eq_true rfl) ?_
        rintro _ _ ⟨rfl, rfl⟩
        refine p_iret dX11_day_34 rfl ?_
        exact ⟨_, rfl, CA.no hI hF (by unfold ga_day; (repeat' split) <;> first | rfl | (exfalso; omega)) (by unfold ga_day; (repeat' split) <;> first | rfl | (exfalso; omega)) (by decide)⟩
    · refine p_aload_n 11 dX11_day_10 rfl rfl (by decide) ?_
      refine p_iconst 12 dX11_day_11 ?_
      refine p_callV1i 0 15 dX11_day_12 s_refuse lk_X11_73 mX11_refuse rfl rfl (by decide) (Nat.le_of_ble_eq_true rfl) ?_
      rintro _ _ ⟨rfl, rfl⟩
      refine p_iret dX11_day_15 rfl ?_
      exact ⟨_, rfl, CA.no hI hF (by unfold ga_day; (repeat' split) <;> first | rfl | (exfalso; omega)) (by unfold ga_day; (repeat' split) <;> first | rfl | (exfalso; omega)) (by decide)⟩
theorem s_harmNow2 {l : Launch} {X : ZX} {M : ZM} {ρ : Nat → Int} (hW : zWm M) (hE : ∀ i, i < 421 → M 127 i = ρ i) (hR : wfR ρ) {τ : Nat → Int} (hU : ∀ i, 7 ≤ i → i < 18 → M 129 i = τ i) (hT : wfT ρ τ) {s : Nat} (hs : s < 7) : zCi l X 3 yX12_harmNow tX12_harmNow [zr 124, zi (s : Int)] M (fun a M' => a = (q_harmN (q_n ρ) τ s : Int) ∧ M' = M) := by
  have t1 := hT.2.2.2.2.1
  have t0 := hT.1 16 (by decide)
  refine zC.of [some (zr 124), some (zi (s : Int))] (by decide +kernel) rfl rfl (Nat.le_of_ble_eq_true rfl) rfl ?_
  refine p_aload_n 1 dX12_harmNow_0 rfl rfl (by decide) ?_
  refine p_getR 124 4 dX12_harmNow_1 fX12_26 rfl (hW (124, 17, 129) (by decide)) ?_
  refine p_bipush 6 dX12_harmNow_4 rfl ?_
  refine p_iald 129 7 dX12_harmNow_6 rfl (by omega) (by omega) ?_
  try simp only [Int.toNat_natCast, Int.reduceToNat]
  rw [hU 16 (by decide) (by decide)]
  refine p_if_le 14 10 dX12_harmNow_7 (by omega) (by omega) (fun h7 => ?_) (fun h7 => ?_)
  · refine p_aload_n 15 dX12_harmNow_14 rfl rfl (by decide) ?_
    refine p_aload_n 16 dX12_harmNow_15 rfl rfl (by decide) ?_
    refine p_getR 124 19 dX12_harmNow_16 fX12_26 rfl (hW (124, 17, 129) (by decide)) ?_
    refine p_bipush 21 dX12_harmNow_19 rfl ?_
    refine p_iload_n 22 dX12_harmNow_21 rfl rfl ?_
    refine p_callV3i 124 25 dX12_harmNow_22 (s_harmBy_129 hW hE hR (v := fun i => τ (7 + i)) (fun i hi => hU _ (by omega) (by omega)) (fun i hi => hT.1 _ (by omega)) (fun i hi => by have := (hT.2.1 i hi).2.1; have := hR.2.1.2.2.2.1; omega) (q_tset_bit hT) hs) lk_X12_290 mX12_harmBy rfl rfl (by decide) (Nat.le_of_ble_eq_true rfl) ?_
    rintro _ _ ⟨rfl, rfl⟩
    refine p_iret dX12_harmNow_25 rfl ?_
    refine ⟨_, rfl, ?_, rfl⟩
    unfold q_harmN
    first | (rw [if_pos (by omega)]; rfl) | (rw [if_neg (by omega)])
  · refine p_iconst 11 dX12_harmNow_10 ?_
    refine p_goto 25 dX12_harmNow_11 ?_
    refine p_iret dX12_harmNow_25 rfl ?_
    refine ⟨_, rfl, ?_, rfl⟩
    unfold q_harmN
    first | (rw [if_pos (by omega)]; rfl) | (rw [if_neg (by omega)])
theorem l_dayM2 {l : Launch} {X : ZX} {M : ZM} (hW : zWm M) {x : Int} : ∀ (j i : Nat), i + j = 7 → zP l X 5 tX12_day 95 [some (zr 124), some (zi x), some (zi (i : Int))] [] (zclr M i) (fun r M' => r = some (zi x) ∧ M' = zset (zclr M 7) 129 15 (M 129 15 + 1)) := by
  intro j
  induction j with
  | zero =>
    intro i hi
    refine p_iload_n 96 dX12_day_95 rfl rfl ?_
    refine p_bipush 98 dX12_day_96 rfl ?_
    refine p_icmp_ge 117 101 dX12_day_98 (by omega) (by omega) (by omega) (by omega) (fun h98 => ?_) (fun h98 => absurd (by omega) (fun h9 : False => h9))
    refine p_aload_n 118 dX12_day_117 rfl rfl (by decide) ?_
    refine p_getR 124 121 dX12_day_118 fX12_26 rfl ((zclr_wm hW) (124, 17, 129) (by decide)) ?_
    refine p_bipush 123 dX12_day_121 rfl ?_
    refine p_dup2 124 dX12_day_123 ?_
    refine p_ialdn 129 125 (15) dX12_day_124 rfl (by omega) (by omega) ?_
    refine p_iconst 126 dX12_day_125 ?_
    refine p_iadd 127 dX12_day_126 ?_
    refine p_iastn 129 128 (15) dX12_day_127 rfl (by omega) (by omega) ?_
    refine p_iload_n 129 dX12_day_128 rfl rfl ?_
    refine p_iret dX12_day_129 rfl ?_
    rw [Nat.add_zero] at hi
    subst hi
    exact ⟨rfl, rfl⟩
  | succ j ih =>
    intro i hi
    refine p_iload_n 96 dX12_day_95 rfl rfl ?_
    refine p_bipush 98 dX12_day_96 rfl ?_
    refine p_icmp_ge 117 101 dX12_day_98 (by omega) (by omega) (by omega) (by omega) (fun h98 => absurd (by omega) (fun h9 : False => h9)) (fun h98 => ?_)
    refine p_aload_n 102 dX12_day_101 rfl rfl (by decide) ?_
    refine p_getR 124 105 dX12_day_102 fX12_26 rfl ((zclr_wm hW) (124, 17, 129) (by decide)) ?_
    refine p_bipush 107 dX12_day_105 rfl ?_
    refine p_iload_n 108 dX12_day_107 rfl rfl ?_
    refine p_iadd 109 dX12_day_108 ?_
    refine p_iconst 110 dX12_day_109 ?_
    refine p_iastn 129 111 (7 + i) dX12_day_110 rfl (by omega) (by omega) ?_
    refine p_iinc 114 dX12_day_111 rfl rfl rfl ?_
    dsimp only [List.set]
    refine p_goto 95 dX12_day_114 ?_
    rw [zclr_step]
    exact ih (i + 1) (by omega)
theorem l_dayM {l : Launch} {X : ZX} {M : ZM} {ρ : Nat → Int} (hW : zWm M) (hE : ∀ i, i < 421 → M 127 i = ρ i) (hR : wfR ρ) {τ : Nat → Int} (hU : ∀ i, i < 18 → M 129 i = τ i) (hT : wfT ρ τ) {x : Int} : ∀ (j i : Nat), i + j = q_n ρ 2 → zP l X 5 tX12_day 63 [some (zr 124), some (zi x), some (zi (i : Int))] [] (zadd M 129 i (fun s => (q_harmN (q_n ρ) τ s : Int))) (fun r M' => r = some (zi x) ∧ M' = zset (zclr (zadd M 129 (q_n ρ 2) (fun s => (q_harmN (q_n ρ) τ s : Int))) 7) 129 15 (zadd M 129 (q_n ρ 2) (fun s => (q_harmN (q_n ρ) τ s : Int)) 129 15 + 1)) := by
  have e2 : ρ 2 = (q_n ρ 2 : Int) := hR.n (by decide)
  have b2 := hR.2.1.2.2.1
  intro j
  induction j with
  | zero =>
    intro i hi
    refine p_iload_n 64 dX12_day_63 rfl rfl ?_
    refine p_aload_n 65 dX12_day_64 rfl rfl (by decide) ?_
    refine p_getR 124 68 dX12_day_65 fX12_20 rfl ((zadd_wm hW (by decide +kernel)) (124, 15, 127) (by decide)) ?_
    refine p_iconst 69 dX12_day_68 ?_
    refine p_iald 127 70 dX12_day_69 rfl (by omega) (by omega) ?_
    try simp only [Int.toNat_natCast, Int.reduceToNat]
    rw [zadd_ne (by decide), hE 2 (by decide)]
    refine p_icmp_ge 93 73 dX12_day_70 (by omega) (by omega) (by omega) (by omega) (fun h70 => ?_) (fun h70 => absurd (by omega) (fun h9 : False => h9))
    refine p_iconst 94 dX12_day_93 ?_
    refine p_istore_n 95 dX12_day_94 rfl (Nat.le_of_ble_eq_true rfl) rfl rfl ?_
    dsimp only [List.set]
    rw [Nat.add_zero] at hi
    rw [hi]
    have e := l_dayM2 (l := l) (X := X) (x := x) (M := zadd M 129 (q_n ρ 2) (fun s => (q_harmN (q_n ρ) τ s : Int))) (zadd_wm hW (by decide +kernel)) 7 0 rfl
    rw [zclr_zero] at e
    exact e
  | succ j ih =>
    intro i hi
    refine p_iload_n 64 dX12_day_63 rfl rfl ?_
    refine p_aload_n 65 dX12_day_64 rfl rfl (by decide) ?_
    refine p_getR 124 68 dX12_day_65 fX12_20 rfl ((zadd_wm hW (by decide +kernel)) (124, 15, 127) (by decide)) ?_
    refine p_iconst 69 dX12_day_68 ?_
    refine p_iald 127 70 dX12_day_69 rfl (by omega) (by omega) ?_
    try simp only [Int.toNat_natCast, Int.reduceToNat]
    rw [zadd_ne (by decide), hE 2 (by decide)]
    refine p_icmp_ge 93 73 dX12_day_70 (by omega) (by omega) (by omega) (by omega) (fun h70 => absurd (by omega) (fun h9 : False => h9)) (fun h70 => ?_)
    refine p_aload_n 74 dX12_day_73 rfl rfl (by decide) ?_
    refine p_getR 124 77 dX12_day_74 fX12_26 rfl ((zadd_wm hW (by decide +kernel)) (124, 17, 129) (by decide)) ?_
    refine p_iload_n 78 dX12_day_77 rfl rfl ?_
    refine p_dup2 79 dX12_day_78 ?_
    refine p_ialdn 129 80 (i) dX12_day_79 rfl (by omega) (by omega) ?_
    refine p_aload_n 81 dX12_day_80 rfl rfl (by decide) ?_
    refine p_iload_n 82 dX12_day_81 rfl rfl ?_
    refine p_callV1i 124 85 dX12_day_82 (s_harmNow2 (ρ := ρ) (τ := τ) (zadd_wm hW (by decide +kernel)) (fun k hk => by rw [zadd_ne (by decide)]; exact hE k hk) hR (fun k h7 hk => by rw [zadd_out (by omega)]; exact hU k hk) hT (s := i) (by omega)) lk_X12_294 mX12_harmNow rfl rfl (by decide) (Nat.le_of_ble_eq_true rfl) ?_
    rintro _ _ ⟨rfl, e9⟩
    have e9 := e9.symm
    subst e9
    refine p_iadd 86 dX12_day_85 ?_
    refine p_iastn 129 87 (i) dX12_day_86 rfl (by omega) (by omega) ?_
    refine p_iinc 90 dX12_day_87 rfl rfl rfl ?_
    dsimp only [List.set]
    refine p_goto 63 dX12_day_90 ?_
    rw [zadd_step M 129 i (fun s => (q_harmN (q_n ρ) τ s : Int))]
    exact ih (i + 1) (by omega)
theorem m_day {l : Launch} {X : ZX} {M : ZM} (hW : zWm M) (hF : WF M)  : zCi l X 5 yX12_day tX12_day [zr 124] M (MA M (ga_day M)) := by
  have hWg : zWm (zset (zset M 124 0 0) 124 11 0) := (hW.set (by decide +kernel)).set (by decide +kernel)
  have hR := hF.r
  have hT := hF.t
  have hh := hF.h
  have e0 : M 127 0 = (q_n (M 127) 0 : Int) := hR.n (by decide)
  have e2 : M 127 2 = (q_n (M 127) 2 : Int) := hR.n (by decide)
  have e3 : M 127 3 = (q_n (M 127) 3 : Int) := hR.n (by decide)
  have e4 : M 127 4 = (q_n (M 127) 4 : Int) := hR.n (by decide)
  have bR := hR.2.1
  have h20 : M 124 14 = 0 → M 127 2 = 0 := fun h => hF.r0 h 2 (by decide)
  have h30 : M 124 14 = 0 → M 127 3 = 0 := fun h => hF.r0 h 3 (by decide)
  have h40 : M 124 14 = 0 → M 127 4 = 0 := fun h => hF.r0 h 4 (by decide)
  have hu := hF.u
  have hm3 := hF.m
  obtain ⟨cnt, hcnt⟩ : ∃ k : Nat, M 124 20 = (k : Int) := ⟨(M 124 20).toNat, by omega⟩
  obtain ⟨ki, hki⟩ : ∃ k : Nat, M 124 21 = (k : Int) := ⟨(M 124 21).toNat, by omega⟩
  have t160 := hT.1 16 (by decide)
  have t161 := hT.2.2.2.2.1
  have t150 := hT.1 15 (by decide)
  have t151 := hT.2.2.2.1
  refine zC.of [some (zr 124), none, none] (by decide +kernel) rfl rfl (Nat.le_of_ble_eq_true rfl) rfl ?_
  refine p_aload_n 1 dX12_day_0 rfl rfl (by decide) ?_
  refine p_callV0v 124 4 dX12_day_1 s_good lk_X12_165 mX12_good rfl rfl (by decide) (Nat.le_of_ble_eq_true rfl) ?_
  rintro _ rfl
  refine p_aload_n 5 dX12_day_4 rfl rfl (by decide) ?_
  refine p_getI 124 8 dX12_day_5 fX12_178 rfl ?_
  refine p_if_ne 17 11 dX12_day_8 (by show _ ≤ M 124 14; omega) (by show M 124 14 < _; omega) (fun h8 => ?_) (fun h8 => ?_)
  · have h8 : ¬ M 124 14 = 0 := h8
    refine p_aload_n 18 dX12_day_17 rfl rfl (by decide) ?_
    refine p_getR 124 21 dX12_day_18 fX12_26 rfl (hWg (124, 17, 129) (by decide)) ?_
    refine p_bipush 23 dX12_day_21 rfl ?_
    refine p_ialdn 129 24 (15) dX12_day_23 rfl (by omega) (by omega) ?_
    refine p_sipush 27 dX12_day_24 rfl ?_
    refine p_icmp_ne 36 30 dX12_day_27 (by show _ ≤ M 129 15; omega) (by show M 129 15 < _; omega) (by omega) (by omega) (fun h27 => ?_) (fun h27 => ?_)
    · have h27 : M 129 15 ≠ 999 := h27
      refine p_aload_n 37 dX12_day_36 rfl rfl (by decide) ?_
      refine p_getR 124 40 dX12_day_37 fX12_26 rfl (hWg (124, 17, 129) (by decide)) ?_
      refine p_bipush 42 dX12_day_40 rfl ?_
      refine p_ialdn 129 43 (16) dX12_day_42 rfl (by omega) (by omega) ?_
      refine p_if_le 52 46 dX12_day_43 (by show _ ≤ M 129 16; omega) (by show M 129 16 < _; omega) (fun h43 => ?_) (fun h43 => ?_)
      · have h43 : M 129 16 ≤ 0 := h43
        refine p_aload_n 53 dX12_day_52 rfl rfl (by decide) ?_
        refine p_callV0v 124 56 dX12_day_53 (s_note hWg (show zset (zset M 124 0 0) 124 11 0 124 20 = (cnt : Int) from hcnt) (by omega)) lk_X12_434 mX12_note rfl rfl (by decide) (Nat.le_of_ble_eq_true rfl) ?_
        rintro _ rfl
        have hW9 := q_note_wm hWg
        refine p_aload_n 57 dX12_day_56 rfl rfl (by decide) ?_
        refine p_callV0i 124 60 dX12_day_57 (s_harmAll hW9 (ρ := M 127) (τ := M 129) (fun _ _ => rfl) hR (fun _ _ => rfl) hT) lk_X12_297 mX12_harmAll rfl rfl (by decide) (Nat.le_of_ble_eq_true rfl) ?_
        rintro _ _ ⟨rfl, e9⟩
        have e9 := e9.symm
        subst e9
        refine p_istore_n 61 dX12_day_60 rfl (Nat.le_of_ble_eq_true rfl) rfl rfl ?_
        dsimp only [List.set]
        refine p_iconst 62 dX12_day_61 ?_
        refine p_istore_n 63 dX12_day_62 rfl (Nat.le_of_ble_eq_true rfl) rfl rfl ?_
        dsimp only [List.set]
        have e := l_dayM (l := l) (X := X) (x := (q_sum (q_harmN (q_n (M 127)) (M 129)) (q_n (M 127) 2) : Int)) (ρ := M 127) (τ := M 129) hW9 (fun _ _ => rfl) hR (fun _ _ => rfl) hT (q_n (M 127) 2) 0 (Nat.zero_add _)
        rw [zadd_zero] at e
        refine e.mono (fun r M9 h9 => ?_)
        obtain ⟨ea, eb⟩ := h9
        subst eb
        refine ⟨_, ea, ?_⟩
        unfold ga_day
        rw [if_neg (by omega), if_neg (by omega), if_neg (by omega)]
        have ec : ∀ k, k ≠ 129 → k ≠ 124 → k ≠ 130 → zset (zclr (zadd (q_note (zset (zset M 124 0 0) 124 11 0)) 129 (q_n (M 127) 2) (fun s => (q_harmN (q_n (M 127)) (M 129) s : Int))) 7) 129 15 (zadd (q_note (zset (zset M 124 0 0) 124 11 0)) 129 (q_n (M 127) 2) (fun s => (q_harmN (q_n (M 127)) (M 129) s : Int)) 129 15 + 1) k = M k := fun k h1 h2 h3 => by
          rw [zset_ne _ h1, zclr_ne h1, zadd_ne h1, q_note_ne h3 h2, zset_ne _ h2, zset_ne _ h2]
        have ed : ∀ k, k ≠ 129 → zset (zclr (zadd (q_note (zset (zset M 124 0 0) 124 11 0)) 129 (q_n (M 127) 2) (fun s => (q_harmN (q_n (M 127)) (M 129) s : Int))) 7) 129 15 (zadd (q_note (zset (zset M 124 0 0) 124 11 0)) 129 (q_n (M 127) 2) (fun s => (q_harmN (q_n (M 127)) (M 129) s : Int)) 129 15 + 1) k = q_note (zset (zset M 124 0 0) 124 11 0) k := fun k h1 => by
          rw [zset_ne _ h1, zclr_ne h1, zadd_ne h1]
        refine ⟨rfl, fun k hk => ec k (by omega) (by omega) (by omega), (zclr_wm (zadd_wm hW9 (by decide +kernel))).setc (by decide +kernel), ec 125 (by decide) (by decide) (by decide), ec 127 (by decide) (by decide) (by decide), ?_, ?_, ec 131 (by decide) (by decide) (by decide), ?_, ?_, ?_, ?_, ?_, ?_, ?_⟩
        · funext b
          show _ = (if b < 7 then (if b < q_n (M 127) 2 then M 129 b + (q_harmN (q_n (M 127)) (M 129) b : Int) else M 129 b) else if b < 14 then 0 else if b = 15 then M 129 15 + 1 else M 129 b)
          have e129 : q_note (zset (zset M 124 0 0) 124 11 0) 129 = M 129 := rfl
          simp only [zset, zclr, zadd, e129, true_and, if_true]
          (repeat' split) <;> first | (exfalso; omega) | rfl
        · rw [ed 130 (by decide)]
          rfl
        · rw [ed 124 (by decide)]
          rfl
        · rw [ed 124 (by decide)]
          rfl
        · rw [ed 124 (by decide)]
          rfl
        · rw [ed 124 (by decide)]
          rfl
        · rw [ed 124 (by decide)]
          rfl
        · rw [ed 124 (by decide)]
          rfl
        · rw [ed 124 (by decide)]
          rfl
      · have h43 : ¬ M 129 16 ≤ 0 := h43
        refine p_aload_n 47 dX12_day_46 rfl rfl (by decide) ?_
        refine p_iconst 48 dX12_day_47 ?_
        refine p_callV1i 124 51 dX12_day_48 s_no lk_X12_168 mX12_no rfl rfl (by decide) (Nat.le_of_ble_eq_true rfl) ?_
        rintro _ _ ⟨rfl, rfl⟩
        refine p_iret dX12_day_51 rfl ?_
        exact ⟨_, rfl, MA.no hW (by unfold ga_day; (repeat' split) <;> first | rfl | (exfalso; omega)) (by unfold ga_day; (repeat' split) <;> first | rfl | (exfalso; omega))⟩
    · have h27 : ¬ M 129 15 ≠ 999 := h27
      refine p_aload_n 31 dX12_day_30 rfl rfl (by decide) ?_
      refine p_iconst 32 dX12_day_31 ?_
      refine p_callV1i 124 35 dX12_day_32 s_no lk_X12_168 mX12_no rfl rfl (by decide) (Nat.le_of_ble_eq_true rfl) ?_
      rintro _ _ ⟨rfl, rfl⟩
      refine p_iret dX12_day_35 rfl ?_
      exact ⟨_, rfl, MA.no hW (by unfold ga_day; (repeat' split) <;> first | rfl | (exfalso; omega)) (by unfold ga_day; (repeat' split) <;> first | rfl | (exfalso; omega))⟩
  · have h8 : ¬ M 124 14 ≠ 0 := h8
    refine p_aload_n 12 dX12_day_11 rfl rfl (by decide) ?_
    refine p_iconst 13 dX12_day_12 ?_
    refine p_callV1i 124 16 dX12_day_13 s_no lk_X12_168 mX12_no rfl rfl (by decide) (Nat.le_of_ble_eq_true rfl) ?_
    rintro _ _ ⟨rfl, rfl⟩
    refine p_iret dX12_day_16 rfl ?_
    exact ⟨_, rfl, MA.no hW (by unfold ga_day; (repeat' split) <;> first | rfl | (exfalso; omega)) (by unfold ga_day; (repeat' split) <;> first | rfl | (exfalso; omega))⟩
