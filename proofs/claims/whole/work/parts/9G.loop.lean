/-! CASE 48, THE LOOP -/
theorem Obs.set {M : ZM} {c k : Nat} {v : Int} (h : c = 138 ∨ (c = 124 ∧ k = 0)) : Obs M (zset M c k v) := by
  rcases h with rfl | ⟨rfl, rfl⟩
  · exact ⟨zset_ne _ (by decide), zset_ne _ (by decide), zset_ne _ (by decide), zset_ne _ (by decide), zset_ne _ (by decide), by rw [zset_ne _ (by decide)], by rw [zset_ne _ (by decide)], by rw [zset_ne _ (by decide)], by rw [zset_ne _ (by decide)], by rw [zset_ne _ (by decide)], by rw [zset_ne _ (by decide)], by rw [zset_ne _ (by decide)]⟩
  · exact ⟨zset_ne _ (by decide), zset_ne _ (by decide), zset_ne _ (by decide), zset_ne _ (by decide), zset_ne _ (by decide), zset_k (by decide), zset_k (by decide), zset_k (by decide), zset_k (by decide), zset_k (by decide), zset_k (by decide), zset_k (by decide)⟩
theorem Inv.out {M : ZM} (hI : Inv M) (v : Int) : Inv (zset M 138 0 v) :=
  Inv.join (M := M) hI.1 hI.2.2 (fun k hk => zset_ne _ (by omega)) (hI.2.1.row (by decide)) (Obs.set (Or.inl rfl))
theorem Inv.thrown {M : ZM} (hI : Inv M) (v : Int) : Inv (zset M 124 0 v) :=
  Inv.join (M := M) hI.1 hI.2.2 (fun k hk => zset_ne _ (by omega)) (hI.2.1.set (by decide +kernel)) (Obs.set (Or.inr ⟨rfl, rfl⟩))
theorem law_hk2 {u : Nat} (hu : u ≤ 512) : 139 + u ≤ room_1.cells ∧ pz_ss 139 + 6 * u ≤ room_1.slots := by
  rw [pz_ss139]
  show 139 + u ≤ 601024 ∧ 7467 + 6 * u ≤ 7293034
  omega
theorem law_48 {nm : String} {l : Launch} {X : ZX} {p : Program} {e : Env} {s : State} {m : MethodId} {below : List Frame} {meth : Method} {c0 : Code} {b Len u i : Nat} {xs : Nat → Int32} {M : ZM} (B : pz_bd X (tL_law nm) p s m #[Value.ref b] meth c0) (hX : xs_at X s b Len xs) (hu : u ≤ 511) (hi : i + 6 ≤ Len) (hI : Inv M) (hEx : pz_ex X s) (hl : l.stackTraces = false) (K : ∀ M', Inv M' → zX l X (tL_law nm) p e room_1 s m #[Value.ref b] below meth c0 (lw_Z below #[Value.ref b] s) (139 + (u + 1)) (pz_ss 139 + 6 * (u + 1)) 1638 [some (zr 4000), some (zr 0), some (zr 124), some (zr 138), some (zi (i : Int)), none, none] [] M') : zX l X (tL_law nm) p e room_1 s m #[Value.ref b] below meth c0 (lw_Z below #[Value.ref b] s) (139 + u) (pz_ss 139 + 6 * u) 1544 [some (zr 4000), some (zr 0), some (zr 124), some (zr 138), some (zi (i : Int)), none, none] [] M := by
  have hk1 : 139 + u + 1 ≤ room_1.cells ∧ pz_ss 139 + 6 * u + 6 ≤ room_1.slots := by
    rw [pz_ss139]
    show 139 + u + 1 ≤ 601024 ∧ 7467 + 6 * u + 6 ≤ 7293034
    omega
  have hk2 : 139 + (u + 1) ≤ room_1.cells ∧ pz_ss 139 + 6 * (u + 1) ≤ room_1.slots := law_hk2 (by omega)
  refine x_aload_n B 1545 dL_law_1544 rfl rfl (by decide) ?_
  refine x_aload_n B 1546 dL_law_1545 rfl rfl (by decide) ?_
  refine x_iload B 1548 dL_law_1546 rfl ?_
  refine x_iconst B 1549 dL_law_1548 ?_
  refine x_iadd B 1550 dL_law_1549 ?_
  refine x_sld B hX 1551 (i + 1) dL_law_1550 rfl (by omega) ?_
  refine x_aload_n B 1552 dL_law_1551 rfl rfl (by decide) ?_
  refine x_ledL B hEx hl hI (xs_lo _) (xs_hi _) 1555 dL_law_1552 hk1 ⟨by decide, by decide⟩ ?_
  intro r M1 hto
  rw [show pz_ss 139 + 6 * u + 6 = pz_ss 139 + 6 * (u + 1) by omega, show 139 + u + 1 = 139 + (u + 1) from rfl]
  rcases hto with ⟨hthr, er, eM⟩ | ⟨hthr, w, hw7, hlw, er, eM⟩
  · rw [er, eM]
    refine x_istore B 1557 dL_law_1555 (Nat.le_of_ble_eq_true rfl) rfl rfl ?_
    dsimp only [List.set]
    refine x_aload_n B 1558 dL_law_1557 rfl rfl (by decide) ?_
    refine x_aload_n B 1559 dL_law_1558 rfl rfl (by decide) ?_
    refine x_iload B 1561 dL_law_1559 rfl ?_
    refine x_iconst B 1562 dL_law_1561 ?_
    refine x_iadd B 1563 dL_law_1562 ?_
    refine x_sld B hX 1564 (i + 1) dL_law_1563 rfl (by omega) ?_
    refine x_callV1i B 124 1567 dL_law_1564 (m_led hI.2.1 hI.1 (xs_lo _) (xs_hi _)) lk_L_226 mX12_led rfl rfl hk2 ⟨by decide, by decide⟩ (Nat.le_of_ble_eq_true rfl) ?_
    intro a2 M2 h2
    rcases h2 with ⟨-, e2, e3⟩ | ⟨hno, -⟩
    · subst e2
      subst e3
      refine x_istore B 1569 dL_law_1567 (Nat.le_of_ble_eq_true rfl) rfl rfl ?_
      dsimp only [List.set]
      refine x_aload_n B 1570 dL_law_1569 rfl rfl (by decide) ?_
      refine x_callV0i B 124 1573 dL_law_1570 s_thrown lk_L_227 mX12_thrown rfl rfl hk2 ⟨by decide, by decide⟩ (Nat.le_of_ble_eq_true rfl) ?_
      rintro a3 M3 ⟨e4, e5⟩
      subst e4
      subst e5
      refine x_iload B 1575 dL_law_1573 rfl ?_
      refine x_eqI B 1580 dL_law_1575 (zset_at _ _ _ _) ?_
      refine x_iload B 1582 dL_law_1580 rfl ?_
      refine x_if_ne B 1597 1585 dL_law_1582 (by decide) (by decide) (fun _ => ?_) (fun h => absurd (by decide) h)
      refine x_goto B 1638 dL_law_1597 ?_
      refine zX.weak (L' := [some (zr 4000), some (zr 0), some (zr 124), some (zr 138), some (zi (i : Int)), none, none]) rfl (fun j v hv => ?_) ?_
      · match j, hv with
        | 0, hv => exact hv
        | 1, hv => exact hv
        | 2, hv => exact hv
        | 3, hv => exact hv
        | 4, hv => exact hv
        | 5, hv => exact absurd hv (by simp)
        | 6, hv => exact absurd hv (by simp)
        | n + 7, hv => exact absurd hv (by simp)
      · exact K _ (hI.thrown 1)
    · exact absurd hthr hno
  · rw [er, eM]
    have hIN := hI.out (w : Int)
    refine x_istore B 1557 dL_law_1555 (Nat.le_of_ble_eq_true rfl) rfl rfl ?_
    dsimp only [List.set]
    refine x_aload_n B 1558 dL_law_1557 rfl rfl (by decide) ?_
    refine x_aload_n B 1559 dL_law_1558 rfl rfl (by decide) ?_
    refine x_iload B 1561 dL_law_1559 rfl ?_
    refine x_iconst B 1562 dL_law_1561 ?_
    refine x_iadd B 1563 dL_law_1562 ?_
    refine x_sld B hX 1564 (i + 1) dL_law_1563 rfl (by omega) ?_
    refine x_callV1i B 124 1567 dL_law_1564 (m_led hIN.2.1 hIN.1 (xs_lo _) (xs_hi _)) lk_L_226 mX12_led rfl rfl hk2 ⟨by decide, by decide⟩ (Nat.le_of_ble_eq_true rfl) ?_
    intro a2 M2 h2
    rcases h2 with ⟨ht, -⟩ | ⟨-, w2, hw2, e2, hlw2, e3⟩
    · exact absurd (show q_thr M (xs (i + 1)).toInt from ht) hthr
    · have ew : w2 = w := q_lw_one (S := q_sd1 M) hlw2 hlw
      subst ew
      subst e2
      subst e3
      refine x_istore B 1569 dL_law_1567 (Nat.le_of_ble_eq_true rfl) rfl rfl ?_
      dsimp only [List.set]
      refine x_aload_n B 1570 dL_law_1569 rfl rfl (by decide) ?_
      refine x_callV0i B 124 1573 dL_law_1570 s_thrown lk_L_227 mX12_thrown rfl rfl hk2 ⟨by decide, by decide⟩ (Nat.le_of_ble_eq_true rfl) ?_
      rintro a3 M3 ⟨e4, e5⟩
      subst e4
      subst e5
      refine x_iload B 1575 dL_law_1573 rfl ?_
      refine x_eqI B 1580 dL_law_1575 (zset_at _ _ _ _) ?_
      refine x_iload B 1582 dL_law_1580 rfl ?_
      refine x_if_ne B 1597 1585 dL_law_1582 (by decide) (by decide) (fun h => absurd rfl h) (fun _ => ?_)
      refine x_aload_n B 1586 dL_law_1585 rfl rfl (by decide) ?_
      refine x_iconst B 1587 dL_law_1586 ?_
      refine x_laldn B 138 1588 0 dL_law_1587 rfl rfl (by decide) ?_
      refine x_iload B 1590 dL_law_1588 rfl ?_
      refine x_i2l B 1591 dL_law_1590 ?_
      refine x_eqL B 1592 1597 dL_law_1591 dL_law_1592 ?_ ?_
      · rw [zset_ne _ (by decide), zset_at, w32_id (by omega) (by omega)]
      refine x_goto B 1638 dL_law_1597 ?_
      refine zX.weak (L' := [some (zr 4000), some (zr 0), some (zr 124), some (zr 138), some (zi (i : Int)), none, none]) rfl (fun j v hv => ?_) ?_
      · match j, hv with
        | 0, hv => exact hv
        | 1, hv => exact hv
        | 2, hv => exact hv
        | 3, hv => exact hv
        | 4, hv => exact hv
        | 5, hv => exact absurd hv (by simp)
        | 6, hv => exact absurd hv (by simp)
        | n + 7, hv => exact absurd hv (by simp)
      · exact K _ (hIN.thrown 0)
theorem z_iand_lo (a b : Int) : -2147483648 ≤ z_iand a b := xs_lo _
theorem z_iand_hi (a b : Int) : z_iand a b < 2147483648 := xs_hi _
theorem law_sw (wv : Int) : wv = 0 ∨ wv = 1 ∨ wv = 2 ∨ wv = 3 ∨ wv = 4 ∨ wv = 5 ∨ wv = 6 ∨ wv = 7 ∨ wv = 8 ∨ wv = 9 ∨ wv = 10 ∨ wv = 11 ∨ wv = 12 ∨ wv = 13 ∨ wv = 14 ∨ wv = 15 ∨ wv = 16 ∨ wv = 17 ∨ wv = 18 ∨ wv = 19 ∨ wv = 20 ∨ wv = 21 ∨ wv = 22 ∨ wv = 23 ∨ wv = 24 ∨ wv = 25 ∨ wv = 26 ∨ wv = 27 ∨ wv = 28 ∨ wv = 29 ∨ wv = 30 ∨ wv = 31 ∨ wv = 32 ∨ wv = 33 ∨ wv = 34 ∨ wv = 35 ∨ wv = 36 ∨ wv = 37 ∨ wv = 38 ∨ wv = 39 ∨ wv = 40 ∨ wv = 41 ∨ wv = 42 ∨ wv = 43 ∨ wv = 44 ∨ wv = 45 ∨ wv = 46 ∨ wv = 47 ∨ wv = 48 ∨ wv = 49 ∨ wv = 50 ∨ (wv < 0 ∨ 50 < wv) := by omega
theorem law_loop {nm : String} {l : Launch} {X : ZX} {p : Program} {e : Env} {s : State} {m : MethodId} {below : List Frame} {meth : Method} {c0 : Code} {b Len : Nat} {xs : Nat → Int32} (B : pz_bd X (tL_law nm) p s m #[Value.ref b] meth c0) (hX : xs_at X s b Len xs) (hEx : pz_ex X s) (hl : l.stackTraces = false) (h1 : X.1 = s.heap.size) : ∀ (n i u : Nat) (M : ZM), Len ≤ i + 6 * n + 5 → i ≤ Len → 6 * u ≤ i → Inv M → zX l X (tL_law nm) p e room_1 s m #[Value.ref b] below meth c0 (lw_Z below #[Value.ref b] s) (139 + u) (pz_ss 139 + 6 * u) 23 [some (zr 4000), some (zr 0), some (zr 124), some (zr 138), some (zi (i : Int)), none, none] [] M := by
  have hLen : Len ≤ 3072 := hX.2.2.2.2
  have stop : ∀ (i u : Nat) (M : ZM), i ≤ Len → 6 * u ≤ i → zX l X (tL_law nm) p e room_1 s m #[Value.ref b] below meth c0 (lw_Z below #[Value.ref b] s) (139 + u) (pz_ss 139 + 6 * u) 1644 [some (zr 4000), some (zr 0), some (zr 124), some (zr 138), some (zi (i : Int)), none, none] [] M := by
    intro i u M hiL hu
    refine x_iconst B 1645 dL_law_1644 ?_
    refine x_ret1 B h1 ?_
    rw [pz_ss139]
    omega
  intro n
  induction n with
  | zero =>
    intro i u M hn hiL hu hI
    refine x_iload B 25 dL_law_23 rfl ?_
    refine x_aload_n B 26 dL_law_25 rfl rfl (by decide) ?_
    refine x_slen B hX 27 dL_law_26 ?_
    refine x_bipush B 29 dL_law_27 rfl ?_
    refine x_isub B 30 dL_law_29 ?_
    refine x_icmp_gt B 1644 33 dL_law_30 (by omega) (by omega) (by omega) (by omega) (fun _ => stop i u M hiL hu) (fun h => absurd (by omega) h)
  | succ n ih =>
    intro i u M hn hiL hu hI
    refine x_iload B 25 dL_law_23 rfl ?_
    refine x_aload_n B 26 dL_law_25 rfl rfl (by decide) ?_
    refine x_slen B hX 27 dL_law_26 ?_
    refine x_bipush B 29 dL_law_27 rfl ?_
    refine x_isub B 30 dL_law_29 ?_
    refine x_icmp_gt B 1644 33 dL_law_30 (by omega) (by omega) (by omega) (by omega) (fun _ => stop i u M hiL hu) (fun hi0 => ?_)
    have hi6 : i + 6 ≤ Len := by omega
    have K : ∀ v, 6 * v ≤ i + 6 → ∀ M', Inv M' → zX l X (tL_law nm) p e room_1 s m #[Value.ref b] below meth c0 (lw_Z below #[Value.ref b] s) (139 + v) (pz_ss 139 + 6 * v) 1638 [some (zr 4000), some (zr 0), some (zr 124), some (zr 138), some (zi (i : Int)), none, none] [] M' := by
      intro v hv M' hI'
      refine x_iinc B 1641 dL_law_1638 rfl rfl rfl ?_
      dsimp only [List.set]
      refine x_goto B 23 dL_law_1641 ?_
      exact ih (i + 6) v M' (by omega) hi6 hv hI'
    refine x_aload_n B 34 dL_law_33 rfl rfl (by decide) ?_
    refine x_iload B 36 dL_law_34 rfl ?_
    refine x_sld B hX 37 i dL_law_36 rfl (by omega) ?_
    refine x_bipush B 39 dL_law_37 rfl ?_
    refine x_iand B 40 dL_law_39 ?_
    have hb1 := z_iand_lo (xs i).toInt 63
    have hb2 := z_iand_hi (xs i).toInt 63
    generalize z_iand (xs i).toInt 63 = wv at hb1 hb2 ⊢
    rcases law_sw wv with hs | hs | hs | hs | hs | hs | hs | hs | hs | hs | hs | hs | hs | hs | hs | hs | hs | hs | hs | hs | hs | hs | hs | hs | hs | hs | hs | hs | hs | hs | hs | hs | hs | hs | hs | hs | hs | hs | hs | hs | hs | hs | hs | hs | hs | hs | hs | hs | hs | hs | hs | hs
    · refine x_tabJ B (off := 220) 0 260 dL_law_40 hs (by decide) (by decide) (by decide) ?_
      exact law_0 B hX (by omega) (by omega) hI (K u (by omega))
    · refine x_tabJ B (off := 293) 1 333 dL_law_40 hs (by decide) (by decide) (by decide) ?_
      exact law_1 B hX (by omega) (by omega) hI (K u (by omega))
    · refine x_tabJ B (off := 318) 2 358 dL_law_40 hs (by decide) (by decide) (by decide) ?_
      exact law_2 B hX (by omega) (by omega) hI (K u (by omega))
    · refine x_tabJ B (off := 331) 3 371 dL_law_40 hs (by decide) (by decide) (by decide) ?_
      exact law_3 B hX (by omega) (by omega) hI (K u (by omega))
    · refine x_tabJ B (off := 344) 4 384 dL_law_40 hs (by decide) (by decide) (by decide) ?_
      exact law_4 B hX (by omega) (by omega) hI (K u (by omega))
    · refine x_tabJ B (off := 369) 5 409 dL_law_40 hs (by decide) (by decide) (by decide) ?_
      exact law_5 B hX (by omega) (by omega) hI (K u (by omega))
    · refine x_tabJ B (off := 394) 6 434 dL_law_40 hs (by decide) (by decide) (by decide) ?_
      exact law_6 B hX (by omega) (by omega) hI (K u (by omega))
    · refine x_tabJ B (off := 431) 7 471 dL_law_40 hs (by decide) (by decide) (by decide) ?_
      exact law_7 B hX (by omega) (by omega) hI (K u (by omega))
    · refine x_tabJ B (off := 468) 8 508 dL_law_40 hs (by decide) (by decide) (by decide) ?_
      exact law_8 B hX (by omega) (by omega) hI (K u (by omega))
    · refine x_tabJ B (off := 505) 9 545 dL_law_40 hs (by decide) (by decide) (by decide) ?_
      exact law_9 B hX (by omega) (by omega) hI (K u (by omega))
    · refine x_tabJ B (off := 530) 10 570 dL_law_40 hs (by decide) (by decide) (by decide) ?_
      exact law_10 B hX (by omega) (by omega) hI (K u (by omega))
    · refine x_tabJ B (off := 543) 11 583 dL_law_40 hs (by decide) (by decide) (by decide) ?_
      exact law_11 B hX (by omega) (by omega) hI (K u (by omega))
    · refine x_tabJ B (off := 556) 12 596 dL_law_40 hs (by decide) (by decide) (by decide) ?_
      exact law_12 B hX (by omega) (by omega) hI (K u (by omega))
    · refine x_tabJ B (off := 569) 13 609 dL_law_40 hs (by decide) (by decide) (by decide) ?_
      exact law_13 B hX (by omega) (by omega) hI (K u (by omega))
    · refine x_tabJ B (off := 582) 14 622 dL_law_40 hs (by decide) (by decide) (by decide) ?_
      exact law_14 B hX (by omega) (by omega) hI (K u (by omega))
    · refine x_tabJ B (off := 607) 15 647 dL_law_40 hs (by decide) (by decide) (by decide) ?_
      exact law_15 B hX (by omega) (by omega) hI (K u (by omega))
    · refine x_tabJ B (off := 620) 16 660 dL_law_40 hs (by decide) (by decide) (by decide) ?_
      exact law_16 B hX (by omega) (by omega) hI (K u (by omega))
    · refine x_tabJ B (off := 645) 17 685 dL_law_40 hs (by decide) (by decide) (by decide) ?_
      exact law_17 B hX (by omega) (by omega) hI (K u (by omega))
    · refine x_tabJ B (off := 658) 18 698 dL_law_40 hs (by decide) (by decide) (by decide) ?_
      exact law_18 B hX (by omega) (by omega) hI (K u (by omega))
    · refine x_tabJ B (off := 695) 19 735 dL_law_40 hs (by decide) (by decide) (by decide) ?_
      exact law_19 B hX (by omega) (by omega) hI (K u (by omega))
    · refine x_tabJ B (off := 749) 20 789 dL_law_40 hs (by decide) (by decide) (by decide) ?_
      exact law_20 B hX (by omega) (by omega) hI (K u (by omega))
    · refine x_tabJ B (off := 791) 21 831 dL_law_40 hs (by decide) (by decide) (by decide) ?_
      exact law_21 B hX (by omega) (by omega) hI (K u (by omega))
    · refine x_tabJ B (off := 816) 22 856 dL_law_40 hs (by decide) (by decide) (by decide) ?_
      exact law_22 B hX (by omega) (by omega) hI (K u (by omega))
    · refine x_tabJ B (off := 870) 23 910 dL_law_40 hs (by decide) (by decide) (by decide) ?_
      exact law_23 B hX (by omega) (by omega) hI (K u (by omega))
    · refine x_tabJ B (off := 924) 24 964 dL_law_40 hs (by decide) (by decide) (by decide) ?_
      exact law_24 B hX (by omega) (by omega) hI (K u (by omega))
    · refine x_tabJ B (off := 949) 25 989 dL_law_40 hs (by decide) (by decide) (by decide) ?_
      exact law_25 B hX (by omega) (by omega) hI (K u (by omega))
    · refine x_tabJ B (off := 962) 26 1002 dL_law_40 hs (by decide) (by decide) (by decide) ?_
      exact law_26 B hX (by omega) (by omega) hI (K u (by omega))
    · refine x_tabJ B (off := 975) 27 1015 dL_law_40 hs (by decide) (by decide) (by decide) ?_
      exact law_27 B hX (by omega) (by omega) hI (K u (by omega))
    · refine x_tabJ B (off := 988) 28 1028 dL_law_40 hs (by decide) (by decide) (by decide) ?_
      exact law_28 B hX (by omega) (by omega) hI (K u (by omega))
    · refine x_tabJ B (off := 1001) 29 1041 dL_law_40 hs (by decide) (by decide) (by decide) ?_
      exact law_29 B hX (by omega) (by omega) hI (K u (by omega))
    · refine x_tabJ B (off := 1014) 30 1054 dL_law_40 hs (by decide) (by decide) (by decide) ?_
      exact law_30 B hX (by omega) (by omega) hI (K u (by omega))
    · refine x_tabJ B (off := 1027) 31 1067 dL_law_40 hs (by decide) (by decide) (by decide) ?_
      exact law_31 B hX (by omega) (by omega) hI (K u (by omega))
    · refine x_tabJ B (off := 1040) 32 1080 dL_law_40 hs (by decide) (by decide) (by decide) ?_
      exact law_32 B hX (by omega) (by omega) hI (K u (by omega))
    · refine x_tabJ B (off := 1053) 33 1093 dL_law_40 hs (by decide) (by decide) (by decide) ?_
      exact law_33 B hX (by omega) (by omega) hI (K u (by omega))
    · refine x_tabJ B (off := 1078) 34 1118 dL_law_40 hs (by decide) (by decide) (by decide) ?_
      exact law_34 B hX (by omega) (by omega) hI (K u (by omega))
    · refine x_tabJ B (off := 1091) 35 1131 dL_law_40 hs (by decide) (by decide) (by decide) ?_
      exact law_35 B hX (by omega) (by omega) hI (K u (by omega))
    · refine x_tabJ B (off := 1168) 36 1208 dL_law_40 hs (by decide) (by decide) (by decide) ?_
      exact law_36 B hX (by omega) (by omega) hI (K u (by omega))
    · refine x_tabJ B (off := 1193) 37 1233 dL_law_40 hs (by decide) (by decide) (by decide) ?_
      exact law_37 B hX (by omega) (by omega) hI (K u (by omega))
    · refine x_tabJ B (off := 1218) 38 1258 dL_law_40 hs (by decide) (by decide) (by decide) ?_
      exact law_38 B hX (by omega) (by omega) hI (K u (by omega))
    · refine x_tabJ B (off := 1255) 39 1295 dL_law_40 hs (by decide) (by decide) (by decide) ?_
      exact law_39 B hX (by omega) (by omega) hI (K u (by omega))
    · refine x_tabJ B (off := 1304) 40 1344 dL_law_40 hs (by decide) (by decide) (by decide) ?_
      exact law_40 B hX (by omega) (by omega) hI (K u (by omega))
    · refine x_tabJ B (off := 1353) 41 1393 dL_law_40 hs (by decide) (by decide) (by decide) ?_
      exact law_41 B hX (by omega) (by omega) hI (K u (by omega))
    · refine x_tabJ B (off := 1390) 42 1430 dL_law_40 hs (by decide) (by decide) (by decide) ?_
      exact law_42 B hX (by omega) (by omega) hI (K u (by omega))
    · refine x_tabJ B (off := 1403) 43 1443 dL_law_40 hs (by decide) (by decide) (by decide) ?_
      exact law_43 B hX (by omega) (by omega) hI (K u (by omega))
    · refine x_tabJ B (off := 1428) 44 1468 dL_law_40 hs (by decide) (by decide) (by decide) ?_
      exact law_44 B hX (by omega) (by omega) hI (K u (by omega))
    · refine x_tabJ B (off := 1453) 45 1493 dL_law_40 hs (by decide) (by decide) (by decide) ?_
      exact law_45 B hX (by omega) (by omega) hI (K u (by omega))
    · refine x_tabJ B (off := 1466) 46 1506 dL_law_40 hs (by decide) (by decide) (by decide) ?_
      exact law_46 B hX (by omega) (by omega) hI (K u (by omega))
    · refine x_tabJ B (off := 1479) 47 1519 dL_law_40 hs (by decide) (by decide) (by decide) ?_
      exact law_47 B hX (by omega) (by omega) hI (K u (by omega))
    · refine x_tabJ B (off := 1504) 48 1544 dL_law_40 hs (by decide) (by decide) (by decide) ?_
      exact law_48 B hX (by omega) (by omega) hI hEx hl (K (u + 1) (by omega))
    · refine x_tabJ B (off := 1560) 49 1600 dL_law_40 hs (by decide) (by decide) (by decide) ?_
      exact law_49 B hX (by omega) (by omega) hI (K u (by omega))
    · refine x_tabJ B (off := 1585) 50 1625 dL_law_40 hs (by decide) (by decide) (by decide) ?_
      exact law_50 B hX (by omega) (by omega) hI (K u (by omega))
    · refine x_tabD B 1638 dL_law_40 hb1 hb2 hs ?_
      exact K u (by omega) M hI
