theorem en_fmR (Y : ZX) (h : Y.2.2.2.2 0 = 1) : pz_val Y (zr (pz_fm Y)) = .ref (Y.2.2.2.1 2000) := by
  unfold pz_fm
  rw [if_neg (by rw [h]; decide), pz_val_s]
theorem en_fmN (Y : ZX) (h : Y.2.2.2.2 0 = 0) : pz_val Y (zr (pz_fm Y)) = .null := by
  unfold pz_fm
  rw [if_pos h]
  rfl
theorem env_start {args : Array Value} {s : State} (hts : ∀ w ∈ lw_tbl, w.before args s = true) (hs : ∀ w ∈ st_gv, w.before args s = true) (b : Nat) : ∃ X : ZX, X.1 = s.heap.size ∧ X.2.2.2.1 3000 = b ∧ pz_env X s ∧ pz_ex X s := by
  have htg : ∀ w ∈ lwg, w.before args s = true := fun w hw => hts w (List.mem_filter.mp hw).1
  have hA : ∀ a : Nat, a < s.heap.size → ¬ (fun q : Nat => s.heap.size ≤ q) a := fun a ha => Nat.not_le.mpr ha
  obtain ⟨D, hD⟩ := env_cls htg
  obtain ⟨d0, e0, f0⟩ := en_arr (htg _ ac_int) (fun C h => by cases h)
  obtain ⟨d1, e1, f1⟩ := en_arr (htg _ ac_byte) (fun C h => by cases h)
  obtain ⟨d2, e2, f2⟩ := en_arr (htg _ ac_long) (fun C h => by cases h)
  obtain ⟨d3, e3, f3⟩ := en_now (hts _ en_ao)
  obtain ⟨d4, e4, f4⟩ := en_arr (htg _ ac_boolean) (fun C h => by cases h)
  obtain ⟨ad, had⟩ := st_one hs hts hA
  have hfm := va_Zqof (hts _ en_fm1) (hts _ en_fm2) (hs _ en_fm3) hA
  obtain ⟨fl, t, hft⟩ : ∃ (fl t : Nat), (fl = 0 ∧ va_Z "jdk/internal/util/Preconditions" "SIOOBE_FORMATTER" "Ljava/util/function/BiFunction;" .null (fun q : Nat => s.heap.size ≤ q) s s.heap) ∨ (fl = 1 ∧ va_Z "jdk/internal/util/Preconditions" "SIOOBE_FORMATTER" "Ljava/util/function/BiFunction;" (.ref t) (fun q : Nat => s.heap.size ≤ q) s s.heap) := by
    rcases hfm with h | ⟨t, h⟩
    · exact ⟨0, 0, Or.inl ⟨rfl, h⟩⟩
    · exact ⟨1, t, Or.inr ⟨rfl, h⟩⟩
  refine ⟨(s.heap.size, D, (fun k => [d0, d1, d2, d3, d4].getD k d0), (fun k => if k < 1000 then (ad k).1 else if k < 2000 then (ad (k - 1000)).2 else if k = 2000 then t else b), fun _ => fl), rfl, rfl, ?_, ?_⟩
  · refine ⟨⟨hD, fun k q hq => ?_⟩, Nat.le_refl _, fun a i y h hm => va_Nw.of rfl (hts _ hm), fun i q hq => ?_, va_Zof (hts _ en_cs1) (hts _ en_cs2) (va_eqt (hs _ en_cs3)) hA, ?_, va_AO.of (hts _ en_ao)⟩
    · match k, hq with
      | 0, hq => cases hq; exact ⟨e0, f0⟩
      | 1, hq => cases hq; exact ⟨e1, f1⟩
      | 2, hq => cases hq; exact ⟨e2, f2⟩
      | 3, hq => cases hq; exact ⟨e3, f3⟩
      | 4, hq => cases hq; exact ⟨e4, f4⟩
      | n + 5, hq => cases hq
    · have hi : i < 45 := by
        have := (List.getElem?_eq_some_iff.mp hq).1
        have h45 : zstr.length = 45 := by decide +kernel
        omega
      have g := had i q hq
      dsimp only
      rw [if_pos (show i < 1000 by omega), if_neg (show ¬ 1000 + i < 1000 by omega), if_pos (show 1000 + i < 2000 by omega), show 1000 + i - 1000 = i by omega]
      exact g
    · rcases hft with ⟨rfl, h⟩ | ⟨rfl, h⟩
      · rw [en_fmN _ rfl]
        exact h
      · rw [en_fmR _ rfl]
        dsimp only
        rw [if_neg (by decide), if_neg (by decide), if_pos rfl]
        exact h
  · exact ⟨⟨va_Nw.of rfl (hts _ en_x1), va_Nw.of rfl (hts _ en_x2), va_Nw.of rfl (hts _ en_x3), va_Nw.of rfl (hts _ en_x4)⟩, vx_Zqof (hts _ en_us1) (hts _ en_us2) (hs _ en_us3) hA, vx_Zqof (hts _ en_ss1) (hts _ en_us2) (hs _ en_ss3) hA⟩
