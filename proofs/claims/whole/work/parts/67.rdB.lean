theorem tt_0 {c : Nat} (h : isC c) : zTT[c + 0]? = some (.inl 0) := by
  rcases h with e | e <;> (rw [e]; rfl)
theorem tt_1 {c : Nat} (h : isC c) : zTT[c + 1]? = some (.inl 8) := by
  rcases h with e | e <;> (rw [e]; rfl)
theorem tt_2 {c : Nat} (h : isC c) : zTT[c + 2]? = some (.inr (2, 7)) := by
  rcases h with e | e <;> (rw [e]; rfl)
theorem tt_3 {c : Nat} (h : isC c) : zTT[c + 3]? = some (.inr (0, 7)) := by
  rcases h with e | e <;> (rw [e]; rfl)
theorem tt_4 {c : Nat} (h : isC c) : zTT[c + 4]? = some (.inr (0, 7)) := by
  rcases h with e | e <;> (rw [e]; rfl)
theorem tt_5 {c : Nat} (h : isC c) : zTT[c + 5]? = some (.inr (0, 7)) := by
  rcases h with e | e <;> (rw [e]; rfl)
theorem tt_6 {c : Nat} (h : isC c) : zTT[c + 6]? = some (.inl 2) := by
  rcases h with e | e <;> (rw [e]; rfl)
theorem tt_7 {c : Nat} (h : isC c) : zTT[c + 7]? = some (.inr (2, 3)) := by
  rcases h with e | e <;> (rw [e]; rfl)
theorem tt_8 {c : Nat} (h : isC c) : zTT[c + 8]? = some (.inr (0, 3)) := by
  rcases h with e | e <;> (rw [e]; rfl)
theorem tt_9 {c : Nat} (h : isC c) : zTT[c + 9]? = some (.inr (0, 3)) := by
  rcases h with e | e <;> (rw [e]; rfl)
theorem tt_10 {c : Nat} (h : isC c) : zTT[c + 10]? = some (.inr (0, 3)) := by
  rcases h with e | e <;> (rw [e]; rfl)
theorem tt_11 {c : Nat} (h : isC c) : zTT[c + 11]? = some (.inl 10) := by
  rcases h with e | e <;> (rw [e]; rfl)
theorem tt_12 {c : Nat} (h : isC c) : zTT[c + 12]? = some (.inr (2, 7)) := by
  rcases h with e | e <;> (rw [e]; rfl)
theorem tt_13 {c : Nat} (h : isC c) : zTT[c + 13]? = some (.inr (0, 7)) := by
  rcases h with e | e <;> (rw [e]; rfl)
theorem tt_14 {c : Nat} (h : isC c) : zTT[c + 14]? = some (.inr (0, 7)) := by
  rcases h with e | e <;> (rw [e]; rfl)
theorem tt_15 {c : Nat} (h : isC c) : zTT[c + 15]? = some (.inr (0, 7)) := by
  rcases h with e | e <;> (rw [e]; rfl)
theorem tt_16 {c : Nat} (h : isC c) : zTT[c + 16]? = some (.inr (0, 7)) := by
  rcases h with e | e <;> (rw [e]; rfl)
theorem tt_17 {c : Nat} (h : isC c) : zTT[c + 17]? = some (.inl 4) := by
  rcases h with e | e <;> (rw [e]; rfl)
theorem tt_18 {c : Nat} (h : isC c) : zTT[c + 18]? = some (.inr (2, 6)) := by
  rcases h with e | e <;> (rw [e]; rfl)
theorem tt_19 {c : Nat} (h : isC c) : zTT[c + 19]? = some (.inr (2, 6)) := by
  rcases h with e | e <;> (rw [e]; rfl)
theorem tt_20 {c : Nat} (h : isC c) : zTT[c + 20]? = some (.inr (0, 6)) := by
  rcases h with e | e <;> (rw [e]; rfl)
theorem tt_21 {c : Nat} (h : isC c) : zTT[c + 21]? = some (.inr (2, 5)) := by
  rcases h with e | e <;> (rw [e]; rfl)
theorem tt_22 {c : Nat} (h : isC c) : zTT[c + 22]? = some (.inr (2, 5)) := by
  rcases h with e | e <;> (rw [e]; rfl)
theorem tt_c {c : Nat} (h : isC c) : zTT[c]? = some (.inl 0) := tt_0 h
theorem wi_0_3 {c : Nat} (h : isC c) {M : ZM} (hW : zWc M) : M (c) 3 = ((c + 1 : Nat) : Int) := by
  rcases h with e | e
  · rw [e]; exact hW (2, 3, 3) (by decide +kernel)
  · rw [e]; exact hW (25, 3, 26) (by decide +kernel)
theorem wi_0_4 {c : Nat} (h : isC c) {M : ZM} (hW : zWc M) : M (c) 4 = ((c + 6 : Nat) : Int) := by
  rcases h with e | e
  · rw [e]; exact hW (2, 4, 8) (by decide +kernel)
  · rw [e]; exact hW (25, 4, 31) (by decide +kernel)
theorem wi_0_5 {c : Nat} (h : isC c) {M : ZM} (hW : zWc M) : M (c) 5 = ((c + 11 : Nat) : Int) := by
  rcases h with e | e
  · rw [e]; exact hW (2, 5, 13) (by decide +kernel)
  · rw [e]; exact hW (25, 5, 36) (by decide +kernel)
theorem wi_0_6 {c : Nat} (h : isC c) {M : ZM} (hW : zWc M) : M (c) 6 = ((c + 17 : Nat) : Int) := by
  rcases h with e | e
  · rw [e]; exact hW (2, 6, 19) (by decide +kernel)
  · rw [e]; exact hW (25, 6, 42) (by decide +kernel)
theorem wi_1_1 {c : Nat} (h : isC c) {M : ZM} (hW : zWc M) : M (c + 1) 1 = ((c + 2 : Nat) : Int) := by
  rcases h with e | e
  · rw [e]; exact hW (3, 1, 4) (by decide +kernel)
  · rw [e]; exact hW (26, 1, 27) (by decide +kernel)
theorem wi_1_2 {c : Nat} (h : isC c) {M : ZM} (hW : zWc M) : M (c + 1) 2 = ((c + 3 : Nat) : Int) := by
  rcases h with e | e
  · rw [e]; exact hW (3, 2, 5) (by decide +kernel)
  · rw [e]; exact hW (26, 2, 28) (by decide +kernel)
theorem wi_1_3 {c : Nat} (h : isC c) {M : ZM} (hW : zWc M) : M (c + 1) 3 = ((c + 4 : Nat) : Int) := by
  rcases h with e | e
  · rw [e]; exact hW (3, 3, 6) (by decide +kernel)
  · rw [e]; exact hW (26, 3, 29) (by decide +kernel)
theorem wi_1_4 {c : Nat} (h : isC c) {M : ZM} (hW : zWc M) : M (c + 1) 4 = ((c + 5 : Nat) : Int) := by
  rcases h with e | e
  · rw [e]; exact hW (3, 4, 7) (by decide +kernel)
  · rw [e]; exact hW (26, 4, 30) (by decide +kernel)
theorem wi_6_1 {c : Nat} (h : isC c) {M : ZM} (hW : zWc M) : M (c + 6) 1 = ((c + 7 : Nat) : Int) := by
  rcases h with e | e
  · rw [e]; exact hW (8, 1, 9) (by decide +kernel)
  · rw [e]; exact hW (31, 1, 32) (by decide +kernel)
theorem wi_6_2 {c : Nat} (h : isC c) {M : ZM} (hW : zWc M) : M (c + 6) 2 = ((c + 8 : Nat) : Int) := by
  rcases h with e | e
  · rw [e]; exact hW (8, 2, 10) (by decide +kernel)
  · rw [e]; exact hW (31, 2, 33) (by decide +kernel)
theorem wi_6_3 {c : Nat} (h : isC c) {M : ZM} (hW : zWc M) : M (c + 6) 3 = ((c + 9 : Nat) : Int) := by
  rcases h with e | e
  · rw [e]; exact hW (8, 3, 11) (by decide +kernel)
  · rw [e]; exact hW (31, 3, 34) (by decide +kernel)
theorem wi_6_4 {c : Nat} (h : isC c) {M : ZM} (hW : zWc M) : M (c + 6) 4 = ((c + 10 : Nat) : Int) := by
  rcases h with e | e
  · rw [e]; exact hW (8, 4, 12) (by decide +kernel)
  · rw [e]; exact hW (31, 4, 35) (by decide +kernel)
theorem wi_11_2 {c : Nat} (h : isC c) {M : ZM} (hW : zWc M) : M (c + 11) 2 = ((c + 12 : Nat) : Int) := by
  rcases h with e | e
  · rw [e]; exact hW (13, 2, 14) (by decide +kernel)
  · rw [e]; exact hW (36, 2, 37) (by decide +kernel)
theorem wi_11_3 {c : Nat} (h : isC c) {M : ZM} (hW : zWc M) : M (c + 11) 3 = ((c + 13 : Nat) : Int) := by
  rcases h with e | e
  · rw [e]; exact hW (13, 3, 15) (by decide +kernel)
  · rw [e]; exact hW (36, 3, 38) (by decide +kernel)
theorem wi_11_4 {c : Nat} (h : isC c) {M : ZM} (hW : zWc M) : M (c + 11) 4 = ((c + 14 : Nat) : Int) := by
  rcases h with e | e
  · rw [e]; exact hW (13, 4, 16) (by decide +kernel)
  · rw [e]; exact hW (36, 4, 39) (by decide +kernel)
theorem wi_11_5 {c : Nat} (h : isC c) {M : ZM} (hW : zWc M) : M (c + 11) 5 = ((c + 15 : Nat) : Int) := by
  rcases h with e | e
  · rw [e]; exact hW (13, 5, 17) (by decide +kernel)
  · rw [e]; exact hW (36, 5, 40) (by decide +kernel)
theorem wi_11_6 {c : Nat} (h : isC c) {M : ZM} (hW : zWc M) : M (c + 11) 6 = ((c + 16 : Nat) : Int) := by
  rcases h with e | e
  · rw [e]; exact hW (13, 6, 18) (by decide +kernel)
  · rw [e]; exact hW (36, 6, 41) (by decide +kernel)
theorem wi_17_1 {c : Nat} (h : isC c) {M : ZM} (hW : zWc M) : M (c + 17) 1 = ((c + 18 : Nat) : Int) := by
  rcases h with e | e
  · rw [e]; exact hW (19, 1, 20) (by decide +kernel)
  · rw [e]; exact hW (42, 1, 43) (by decide +kernel)
theorem wi_17_2 {c : Nat} (h : isC c) {M : ZM} (hW : zWc M) : M (c + 17) 2 = ((c + 19 : Nat) : Int) := by
  rcases h with e | e
  · rw [e]; exact hW (19, 2, 21) (by decide +kernel)
  · rw [e]; exact hW (42, 2, 44) (by decide +kernel)
theorem wi_17_3 {c : Nat} (h : isC c) {M : ZM} (hW : zWc M) : M (c + 17) 3 = ((c + 20 : Nat) : Int) := by
  rcases h with e | e
  · rw [e]; exact hW (19, 3, 22) (by decide +kernel)
  · rw [e]; exact hW (42, 3, 45) (by decide +kernel)
theorem wi_17_5 {c : Nat} (h : isC c) {M : ZM} (hW : zWc M) : M (c + 17) 5 = ((c + 21 : Nat) : Int) := by
  rcases h with e | e
  · rw [e]; exact hW (19, 5, 23) (by decide +kernel)
  · rw [e]; exact hW (42, 5, 46) (by decide +kernel)
theorem wi_17_6 {c : Nat} (h : isC c) {M : ZM} (hW : zWc M) : M (c + 17) 6 = ((c + 22 : Nat) : Int) := by
  rcases h with e | e
  · rw [e]; exact hW (19, 6, 24) (by decide +kernel)
  · rw [e]; exact hW (42, 6, 47) (by decide +kernel)
def q_tld (ρ : Nat → Int) : Int := if ρ 0 = 0 then 0 else 1
/-- a county that is being told: what its row says, and its names -/
def ICr (ρ : Nat → Int) (c : Nat) (M : ZM) : Prop := ICc ρ (q_tld ρ) c M ∧ (∀ s : Nat, (s : Int) < ρ 2 → M (c + 2) s = q_nmp ρ s) ∧ (∀ a : Nat, (a : Int) < ρ 3 → M (c + 7) a = q_nmp ρ (7 + a)) ∧ ∀ w : Nat, (w : Int) < ρ 4 → M (c + 12) w = q_nmp ρ (10 + w) ∧ M (c + 15) w = ρ (38 + 3 * w + 2)
theorem ICr.congr {ρ : Nat → Int} {c : Nat} {M M' : ZM} (h : ICr ρ c M) (hM : ∀ a, c ≤ a → a ≤ c + 22 → M' a = M a) : ICr ρ c M' := by
  obtain ⟨h1, h2, h3, h4⟩ := h
  refine ⟨h1.congr hM, fun s hs => ?_, fun a ha => ?_, fun w hw => ?_⟩
  · rw [hM (c + 2) (by omega) (by omega)]; exact h2 s hs
  · rw [hM (c + 7) (by omega) (by omega)]; exact h3 a ha
  · rw [hM (c + 12) (by omega) (by omega), hM (c + 15) (by omega) (by omega)]; exact h4 w hw
/-- what holds of a row that is being told -/
def PIB (ρ : Nat → Int) : Prop := (∀ m : Nat, m < 7 → (0 < ρ (268 + m) ↔ (m : Int) < ρ 2)) ∧ (∀ m : Nat, m < 3 → (0 < ρ (268 + (7 + m)) ↔ (m : Int) < ρ 3)) ∧ (∀ m : Nat, m < 7 → (0 < ρ (268 + (10 + m)) ↔ (m : Int) < ρ 4))
def PIC (ρ : Nat → Int) : Prop := ∀ m, m < 17 → ρ (268 + m) ≤ 8 ∧ ∀ j : Nat, (j : Int) < ρ (268 + m) → 97 ≤ ρ (285 + 8 * m + j) ∧ ρ (285 + 8 * m + j) ≤ 122
def PID (ρ : Nat → Int) : Prop := ∀ m m', m < 17 → m' < 17 → 0 < ρ (268 + m) → 0 < ρ (268 + m') → q_nmp ρ m = q_nmp ρ m' → m = m'
def PIE (ρ : Nat → Int) : Prop := (∀ s : Nat, (s : Int) < ρ 2 → 1 ≤ ρ (8 + 3 * s + 2)) ∧ (∀ a : Nat, (a : Int) < ρ 3 → 1 ≤ ρ (29 + 3 * a + 1)) ∧ (∀ w : Nat, (w : Int) < ρ 4 → 1 ≤ ρ (38 + 3 * w) ∧ 1 ≤ ρ (38 + 3 * w + 1) ∧ ρ (38 + 3 * w + 2) < 2 ^ (ρ 4).toNat) ∧ (∀ k : Nat, (k : Int) < ρ 6 → 1 ≤ ρ (59 + 19 * k) ∧ 1 ≤ ρ (59 + 19 * k + 1) ∧ 1 ≤ ρ (59 + 19 * k + 10)) ∧ (∀ k : Nat, (k : Int) < ρ 7 → 1 ≤ ρ (173 + 19 * k + 1) ∧ (ρ (173 + 19 * k) = 1 → 1 ≤ ρ (173 + 19 * k + 10)))
def PIF (ρ : Nat → Int) : Prop := ρ 0 = 0 → ρ 2 = 0 ∧ ρ 3 = 0 ∧ ρ 4 = 0 ∧ ρ 5 = 0 ∧ ρ 6 = 0 ∧ ρ 7 = 0
def PIG (ρ : Nat → Int) : Prop := (∀ w : Nat, (w : Int) < ρ 4 → (q_ab (q_n ρ) w).testBit w = false) ∧ ∀ w : Nat, w < 7 → ρ 4 ≤ (w : Int) → ρ (38 + 3 * w + 2) = 0
def PI (ρ : Nat → Int) : Prop := wfR ρ ∧ PIB ρ ∧ PIC ρ ∧ PID ρ ∧ PIE ρ ∧ PIF ρ ∧ PIG ρ
theorem PI.nm {ρ : Nat → Int} (h : PI ρ) {m : Nat} (hm : m < 17) : 0 ≤ q_nmp ρ m ∧ q_nmp ρ m < 1099511627776 := by
  have h0 : 0 ≤ ρ (268 + m) := h.1.1 _ (by omega)
  obtain ⟨h1, h2⟩ := h.2.2.1 m hm
  have hb := q_pk_bd (g := fun j => ρ (285 + 8 * m + j)) (ρ (268 + m)).toNat (fun j hj => h2 j (by omega))
  have hp : 32 ^ (ρ (268 + m)).toNat ≤ 32 ^ 8 := Nat.pow_le_pow_right (by decide) (by omega)
  have e8 : (32 : Nat) ^ 8 = 1099511627776 := by decide
  unfold q_nmp
  omega
/-- the class is reading: the token from p on, the county as the row says; else as it was (N) -/
def RS (t : Nat → Int) (n c p : Nat) (ρ : Nat → Int) (N M : ZM) : Prop := RB t n c M ∧ TC t n p M ∧ ICr ρ c M ∧ (∀ a, a ≠ 48 → a < c ∨ c + 22 < a → M a = N a) ∧ M 48 8 = 0
/-- likewise, whatever the county is -/
def RW (t : Nat → Int) (n c p : Nat) (N M : ZM) : Prop := RB t n c M ∧ TC t n p M ∧ (∀ a, a ≠ 48 → a < c ∨ c + 22 < a → M a = N a) ∧ M 48 8 = 0
theorem RS.w {t : Nat → Int} {n c p : Nat} {ρ : Nat → Int} {N M : ZM} (h : RS t n c p ρ N M) : RW t n c p N M := ⟨h.1, h.2.1, h.2.2.2.1, h.2.2.2.2⟩
def FL (c : Nat) (N : ZM) (e : Int × Int) (M : ZM) : Prop := zWc M ∧ (∀ a, a ≠ 48 → a < c ∨ c + 22 < a → M a = N a) ∧ M 48 8 = e.1 ∧ M 48 9 = e.2
def PL (t : Nat → Int) (n c : Nat) (N : ZM) (r : PR) (a : Int) (M : ZM) : Prop := match r with
  | .inl e => a = 0 ∧ FL c N e M
  | .inr q => a = 1 ∧ RS t n c q.1 q.2 N M
theorem q_srt1 {k : Nat} : q_srt k = 1 ↔ k = 2 := by
  unfold q_srt
  (repeat' split) <;> omega
theorem q_srt2 {k : Nat} : q_srt k = 2 ↔ k = 3 := by
  unfold q_srt
  (repeat' split) <;> omega
theorem q_srt3 {k : Nat} : q_srt k = 3 ↔ k = 59 := by
  unfold q_srt
  (repeat' split) <;> omega
theorem q_srt0 {k : Nat} : q_srt k = 0 ↔ k = 0 := by
  unfold q_srt
  (repeat' split) <;> omega
theorem q_srt_bd (k : Nat) : 0 ≤ q_srt k ∧ q_srt k ≤ 4 := by
  unfold q_srt
  (repeat' split) <;> omega
theorem q_fail_fl {t : Nat → Int} {n c p : Nat} {N M : ZM} (hS : RW t n c p N M) {f : Int} : FL c N (f, (q_at t n p : Int)) (zset (zset M 48 8 f) 48 9 (q_at t n p : Int)) := by
  obtain ⟨hB, hT, hfr, hf0⟩ := hS
  refine ⟨(hB.1.setc (by decide +kernel)).setc (by decide +kernel), fun a h1 h2 => by rw [zset_ne _ h1, zset_ne _ h1]; exact hfr a h1 h2, by rw [zset_k (by decide), zset_at], zset_at _ _ _ _⟩
theorem s_failR {l : Launch} {X : ZX} {M : ZM} {t : Nat → Int} {n c : Nat} (hn : n ≤ 900) (ht : ∀ i, i < n → 0 ≤ t i ∧ t i < 256) (hc : isC c) {p : Nat} (hp : p ≤ n) {N : ZM} (hS : RW t n c p N M) {f : Int} : zCi l X 0 yX6_fail tX6_fail [zr 48, zi f] M (fun a M' => a = 0 ∧ FL c N (f, (q_at t n p : Int)) M') := by
  obtain ⟨hB, hT, hfr, hf0⟩ := id hS
  obtain ⟨t3, t4, t5, t6, t7⟩ := id hT
  have hal := q_at_le t hp
  have hel := q_en_le t hp
  have hsr := q_srt_bd (q_tk t n p)
  have hcl := hc.lt
  refine zC.of [some (zr 48), some (zi f)] (by decide +kernel) rfl rfl (Nat.le_of_ble_eq_true rfl) rfl ?_
  refine p_aload_n 1 dX6_fail_0 rfl rfl (by decide) ?_
  refine p_iload_n 2 dX6_fail_1 rfl rfl ?_
  refine p_putI 48 5 dX6_fail_2 wX6_31 rfl ?_
  refine p_aload_n 6 dX6_fail_5 rfl rfl (by decide) ?_
  refine p_aload_n 7 dX6_fail_6 rfl rfl (by decide) ?_
  refine p_getI 48 10 dX6_fail_7 fX6_60 rfl ?_
  rw [zset_k (by decide), t4]
  refine p_putI 48 13 dX6_fail_10 wX6_34 rfl ?_
  refine p_iconst 14 dX6_fail_13 ?_
  refine p_zret dX6_fail_14 rfl (by decide) ?_
  exact ⟨_, rfl, rfl, q_fail_fl hS⟩
theorem l_spells {l : Launch} {X : ZX} {M : ZM} {t : Nat → Int} {n c : Nat} (hn : n ≤ 900) (ht : ∀ i, i < n → 0 ≤ t i ∧ t i < 256) (hc : isC c) {p : Nat} (hp : p ≤ n) {N : ZM} (hS : RW t n c p N M) {i : Nat} {q0 : String × Nat × String} (hq : zstr[i]? = some q0) (hi : i < 45) (hk2 : q_tk t n p = 2) (hl : q_ln t n p = (zbyt.getD i []).length) : ∀ (k j : Nat), j + k = (zbyt.getD i []).length → q_all (fun j => decide (t (q_at t n p + j) = ((zbyt.getD i []).getD j 0).toInt)) j = true → zP l X 4 tX6_spells 28 [some (zr 48), some (zr (1000 + (i : Int))), some (zi (j : Int))] [] M (fun r M' => ∃ a, r = some (zi a) ∧ (a = (if q_all (fun j => decide (t (q_at t n p + j) = ((zbyt.getD i []).getD j 0).toInt)) (zbyt.getD i []).length = true then 1 else 0) ∧ M' = M)) := by
  obtain ⟨hB, hT, hfr, hf0⟩ := id hS
  obtain ⟨t3, t4, t5, t6, t7⟩ := id hT
  have hal := q_at_le t hp
  have hel := q_en_le t hp
  have hsr := q_srt_bd (q_tk t n p)
  have hcl := hc.lt
  obtain ⟨hb1, hb2⟩ := zbyt_bd i hi
  obtain ⟨w1, w2, w3, w4, w5⟩ := q_tk_word hp hk2
  intro k
  induction k with
  | zero =>
    intro j hj hv
    refine p_iload_n 29 dX6_spells_28 rfl rfl ?_
    refine p_aload_n 30 dX6_spells_29 rfl rfl (by omega) ?_
    refine p_callT0i 33 hq dX6_spells_30 (s_length hq hb1) lk_X6_83 mJ0_length_8abf5 rfl (by decide) (Nat.le_of_ble_eq_true rfl) ?_
    rintro _ _ ⟨rfl, e9⟩
    have e9 := e9.symm
    subst e9
    refine p_icmp_ge 63 36 dX6_spells_33 (by omega) (by omega) (by omega) (by omega) (fun h33 => ?_) (fun h33 => absurd (by omega) (fun h9 : False => h9))
    refine p_iconst 64 dX6_spells_63 ?_
    refine p_zret dX6_spells_64 rfl (by decide) ?_
    rw [Nat.add_zero] at hj
    subst hj
    exact ⟨_, rfl, by rw [if_pos hv], rfl⟩
  | succ k ih =>
    intro j hj hv
    have hb3 := hb2 j (by omega)
    have w6 := w5 j (by omega)
    refine p_iload_n 29 dX6_spells_28 rfl rfl ?_
    refine p_aload_n 30 dX6_spells_29 rfl rfl (by omega) ?_
    refine p_callT0i 33 hq dX6_spells_30 (s_length hq hb1) lk_X6_83 mJ0_length_8abf5 rfl (by decide) (Nat.le_of_ble_eq_true rfl) ?_
    rintro _ _ ⟨rfl, e9⟩
    have e9 := e9.symm
    subst e9
    refine p_icmp_ge 63 36 dX6_spells_33 (by omega) (by omega) (by omega) (by omega) (fun h33 => absurd (by omega) (fun h9 : False => h9)) (fun h33 => ?_)
    refine p_aload_n 37 dX6_spells_36 rfl rfl (by decide) ?_
    refine p_getR 48 40 dX6_spells_37 fX6_9 rfl hB.2.1 ?_
    refine p_aload_n 41 dX6_spells_40 rfl rfl (by decide) ?_
    refine p_getI 48 44 dX6_spells_41 fX6_60 rfl ?_
    rw [t4]
    refine p_iload_n 45 dX6_spells_44 rfl rfl ?_
    refine p_iadd 46 dX6_spells_45 ?_
    refine p_baldn 1 47 (q_at t n p + j) dX6_spells_46 rfl (by omega) (by omega) ?_
    rw [hB.2.2.2.2 _ (by omega), q_sb_small (by omega)]
    refine p_aload_n 48 dX6_spells_47 rfl rfl (by omega) ?_
    refine p_iload_n 49 dX6_spells_48 rfl rfl ?_
    refine p_callT1i 52 hq dX6_spells_49 (s_charAt hq hi (j := j) (by omega)) lk_X6_88 mJ0_charAt_5068e rfl (by decide) (Nat.le_of_ble_eq_true rfl) ?_
    rintro _ _ ⟨rfl, e9⟩
    have e9 := e9.symm
    subst e9
    refine p_icmp_eq 57 55 dX6_spells_52 (by omega) (by omega) (by omega) (by omega) (fun h52 => ?_) (fun h52 => ?_)
    · refine p_iinc 60 dX6_spells_57 rfl rfl rfl ?_
      dsimp only [List.set]
      refine p_goto 28 dX6_spells_60 ?_
      refine ih (j + 1) (by omega) ?_
      rw [q_all_succ, hv, Bool.true_and]
      exact decide_eq_true (by omega)
    · refine p_iconst 56 dX6_spells_55 ?_
      refine p_zret dX6_spells_56 rfl (by decide) ?_
      refine ⟨_, rfl, ?_, rfl⟩
      rw [if_neg]
      intro g
      have := q_all_iff.mp g j (by omega)
      rw [decide_eq_true_eq] at this
      omega
theorem s_spells {l : Launch} {X : ZX} {M : ZM} {t : Nat → Int} {n c : Nat} (hn : n ≤ 900) (ht : ∀ i, i < n → 0 ≤ t i ∧ t i < 256) (hc : isC c) {p : Nat} (hp : p ≤ n) {N : ZM} (hS : RW t n c p N M) {i : Nat} {q0 : String × Nat × String} (hq : zstr[i]? = some q0) (hi : i < 45) : zCi l X 4 yX6_spells tX6_spells [zr 48, zr (1000 + (i : Int))] M (fun a M' => a = (if q_is t n p i = true then 1 else 0) ∧ M' = M) := by
  obtain ⟨hB, hT, hfr, hf0⟩ := id hS
  obtain ⟨t3, t4, t5, t6, t7⟩ := id hT
  have hal := q_at_le t hp
  have hel := q_en_le t hp
  have hsr := q_srt_bd (q_tk t n p)
  have hcl := hc.lt
  obtain ⟨hb1, hb2⟩ := zbyt_bd i hi
  refine zC.of [some (zr 48), some (zr (1000 + (i : Int))), none] (by decide +kernel) rfl rfl (Nat.le_of_ble_eq_true rfl) rfl ?_
  refine p_aload_n 1 dX6_spells_0 rfl rfl (by decide) ?_
  refine p_getI 48 4 dX6_spells_1 fX6_44 rfl ?_
  rw [t5]
  refine p_iconst 5 dX6_spells_4 ?_
  refine p_icmp_ne 24 8 dX6_spells_5 (by omega) (by omega) (by decide) (by decide) (fun h5 => ?_) (fun h5 => ?_)
  · have hno : ¬ q_is t n p i = true := by
      unfold q_is
      rw [decide_eq_false (fun g => h5 (q_srt1.mpr g))]
      simp
    refine p_iconst 25 dX6_spells_24 ?_
    refine p_zret dX6_spells_25 rfl (by decide) ?_
    exact ⟨_, rfl, by rw [if_neg hno], rfl⟩
  · have hk2 : q_tk t n p = 2 := q_srt1.mp (Decidable.not_not.mp h5)
    refine p_aload_n 9 dX6_spells_8 rfl rfl (by decide) ?_
    refine p_getI 48 12 dX6_spells_9 fX6_28 rfl ?_
    rw [t3]
    refine p_aload_n 13 dX6_spells_12 rfl rfl (by decide) ?_
    refine p_getI 48 16 dX6_spells_13 fX6_60 rfl ?_
    rw [t4]
    refine p_isub 17 dX6_spells_16 ?_
    refine p_aload_n 18 dX6_spells_17 rfl rfl (by omega) ?_
    refine p_callT0i 21 hq dX6_spells_18 (s_length hq hb1) lk_X6_83 mJ0_length_8abf5 rfl (by decide) (Nat.le_of_ble_eq_true rfl) ?_
    rintro _ _ ⟨rfl, e9⟩
    have e9 := e9.symm
    subst e9
    refine p_icmp_eq 26 24 dX6_spells_21 (by omega) (by omega) (by omega) (by omega) (fun h21 => ?_) (fun h21 => ?_)
    · have hl : q_ln t n p = (zbyt.getD i []).length := by unfold q_ln; omega
      refine p_iconst 27 dX6_spells_26 ?_
      refine p_istore_n 28 dX6_spells_27 rfl (Nat.le_of_ble_eq_true rfl) rfl rfl ?_
      dsimp only [List.set]
      refine (l_spells hn ht hc hp hS hq hi hk2 hl (zbyt.getD i []).length 0 (Nat.zero_add _) rfl).mono (fun r M9 h9 => ?_)
      obtain ⟨a9, ea, eb, ec⟩ := h9
      refine ⟨a9, ea, ?_, ec⟩
      rw [eb]
      unfold q_is
      rw [decide_eq_true hk2, decide_eq_true hl]
      rfl
    · have hno : ¬ q_is t n p i = true := by
        unfold q_is
        rw [decide_eq_false (p := q_ln t n p = (zbyt.getD i []).length) (by unfold q_ln; omega)]
        simp
      refine p_iconst 25 dX6_spells_24 ?_
      refine p_zret dX6_spells_25 rfl (by decide) ?_
      exact ⟨_, rfl, by rw [if_neg hno], rfl⟩
theorem s_isReserved {l : Launch} {X : ZX} {M : ZM} {t : Nat → Int} {n c : Nat} (hn : n ≤ 900) (ht : ∀ i, i < n → 0 ≤ t i ∧ t i < 256) (hc : isC c) {p : Nat} (hp : p ≤ n) {N : ZM} (hS : RW t n c p N M) : zCi l X 5 yX6_isReserved tX6_isReserved [zr 48] M (fun a M' => a = (if q_rsv t n p = true then 1 else 0) ∧ M' = M) := by
  obtain ⟨hB, hT, hfr, hf0⟩ := id hS
  obtain ⟨t3, t4, t5, t6, t7⟩ := id hT
  have hal := q_at_le t hp
  have hel := q_en_le t hp
  have hsr := q_srt_bd (q_tk t n p)
  have hcl := hc.lt
  refine zC.of [some (zr 48)] (by decide +kernel) rfl rfl (Nat.le_of_ble_eq_true rfl) rfl ?_
  refine p_aload_n 1 dX6_isReserved_0 rfl rfl (by decide) ?_
  refine p_ldcS 0 3 dX6_isReserved_1 rfl ?_
  refine p_callV1i 48 6 dX6_isReserved_3 (s_spells hn ht hc hp hS (i := 0) rfl (by decide)) lk_X6_94 mX6_spells rfl rfl (by decide) (Nat.le_of_ble_eq_true rfl) ?_
  rintro _ _ ⟨rfl, e9⟩
  have e9 := e9.symm
  subst e9
  refine p_if_ne 81 9 dX6_isReserved_6 (by split <;> omega) (by split <;> omega) (fun h6 => ?_) (fun h6 => ?_)
  · have hy : q_is t n p 0 = true := if_ne0 h6
    have hr : q_rsv t n p = true := by
      unfold q_rsv
      rw [hy]
      simp
    refine p_iconst 82 dX6_isReserved_81 ?_
    refine p_goto 86 dX6_isReserved_82 ?_
    refine p_zret dX6_isReserved_86 rfl (by decide) ?_
    exact ⟨_, rfl, by first | rw [if_pos hr] | rw [if_neg hr], rfl⟩
  · have hn0 : q_is t n p 0 = false := Bool.eq_false_iff.mpr (if_nne0 h6)
    refine p_aload_n 10 dX6_isReserved_9 rfl rfl (by decide) ?_
    refine p_ldcS 3 12 dX6_isReserved_10 rfl ?_
    refine p_callV1i 48 15 dX6_isReserved_12 (s_spells hn ht hc hp hS (i := 3) rfl (by decide)) lk_X6_94 mX6_spells rfl rfl (by decide) (Nat.le_of_ble_eq_true rfl) ?_
    rintro _ _ ⟨rfl, e9⟩
    have e9 := e9.symm
    subst e9
    refine p_if_ne 81 18 dX6_isReserved_15 (by split <;> omega) (by split <;> omega) (fun h15 => ?_) (fun h15 => ?_)
    · have hy : q_is t n p 3 = true := if_ne0 h15
      have hr : q_rsv t n p = true := by
        unfold q_rsv
        rw [hy]
        simp
      refine p_iconst 82 dX6_isReserved_81 ?_
      refine p_goto 86 dX6_isReserved_82 ?_
      refine p_zret dX6_isReserved_86 rfl (by decide) ?_
      exact ⟨_, rfl, by first | rw [if_pos hr] | rw [if_neg hr], rfl⟩
    · have hn3 : q_is t n p 3 = false := Bool.eq_false_iff.mpr (if_nne0 h15)
      refine p_aload_n 19 dX6_isReserved_18 rfl rfl (by decide) ?_
      refine p_ldcS 4 21 dX6_isReserved_19 rfl ?_
      refine p_callV1i 48 24 dX6_isReserved_21 (s_spells hn ht hc hp hS (i := 4) rfl (by decide)) lk_X6_94 mX6_spells rfl rfl (by decide) (Nat.le_of_ble_eq_true rfl) ?_
      rintro _ _ ⟨rfl, e9⟩
      have e9 := e9.symm
      subst e9
      refine p_if_ne 81 27 dX6_isReserved_24 (by split <;> omega) (by split <;> omega) (fun h24 => ?_) (fun h24 => ?_)
      · have hy : q_is t n p 4 = true := if_ne0 h24
        have hr : q_rsv t n p = true := by
          unfold q_rsv
          rw [hy]
          simp
        refine p_iconst 82 dX6_isReserved_81 ?_
        refine p_goto 86 dX6_isReserved_82 ?_
        refine p_zret dX6_isReserved_86 rfl (by decide) ?_
        exact ⟨_, rfl, by first | rw [if_pos hr] | rw [if_neg hr], rfl⟩
      · have hn4 : q_is t n p 4 = false := Bool.eq_false_iff.mpr (if_nne0 h24)
        refine p_aload_n 28 dX6_isReserved_27 rfl rfl (by decide) ?_
        refine p_ldcS 5 30 dX6_isReserved_28 rfl ?_
        refine p_callV1i 48 33 dX6_isReserved_30 (s_spells hn ht hc hp hS (i := 5) rfl (by decide)) lk_X6_94 mX6_spells rfl rfl (by decide) (Nat.le_of_ble_eq_true rfl) ?_
        rintro _ _ ⟨rfl, e9⟩
        have e9 := e9.symm
        subst e9
        refine p_if_ne 81 36 dX6_isReserved_33 (by split <;> omega) (by split <;> omega) (fun h33 => ?_) (fun h33 => ?_)
        · have hy : q_is t n p 5 = true := if_ne0 h33
          have hr : q_rsv t n p = true := by
            unfold q_rsv
            rw [hy]
            simp
          refine p_iconst 82 dX6_isReserved_81 ?_
          refine p_goto 86 dX6_isReserved_82 ?_
          refine p_zret dX6_isReserved_86 rfl (by decide) ?_
          exact ⟨_, rfl, by first | rw [if_pos hr] | rw [if_neg hr], rfl⟩
        · have hn5 : q_is t n p 5 = false := Bool.eq_false_iff.mpr (if_nne0 h33)
          refine p_aload_n 37 dX6_isReserved_36 rfl rfl (by decide) ?_
          refine p_ldcS 6 39 dX6_isReserved_37 rfl ?_
          refine p_callV1i 48 42 dX6_isReserved_39 (s_spells hn ht hc hp hS (i := 6) rfl (by decide)) lk_X6_94 mX6_spells rfl rfl (by decide) (Nat.le_of_ble_eq_true rfl) ?_
          rintro _ _ ⟨rfl, e9⟩
          have e9 := e9.symm
          subst e9
          refine p_if_ne 81 45 dX6_isReserved_42 (by split <;> omega) (by split <;> omega) (fun h42 => ?_) (fun h42 => ?_)
          · have hy : q_is t n p 6 = true := if_ne0 h42
            have hr : q_rsv t n p = true := by
              unfold q_rsv
              rw [hy]
              simp
            refine p_iconst 82 dX6_isReserved_81 ?_
            refine p_goto 86 dX6_isReserved_82 ?_
            refine p_zret dX6_isReserved_86 rfl (by decide) ?_
            exact ⟨_, rfl, by first | rw [if_pos hr] | rw [if_neg hr], rfl⟩
          · have hn6 : q_is t n p 6 = false := Bool.eq_false_iff.mpr (if_nne0 h42)
            refine p_aload_n 46 dX6_isReserved_45 rfl rfl (by decide) ?_
            refine p_ldcS 7 48 dX6_isReserved_46 rfl ?_
            refine p_callV1i 48 51 dX6_isReserved_48 (s_spells hn ht hc hp hS (i := 7) rfl (by decide)) lk_X6_94 mX6_spells rfl rfl (by decide) (Nat.le_of_ble_eq_true rfl) ?_
            rintro _ _ ⟨rfl, e9⟩
            have e9 := e9.symm
            subst e9
            refine p_if_ne 81 54 dX6_isReserved_51 (by split <;> omega) (by split <;> omega) (fun h51 => ?_) (fun h51 => ?_)
            · have hy : q_is t n p 7 = true := if_ne0 h51
              have hr : q_rsv t n p = true := by
                unfold q_rsv
                rw [hy]
                simp
              refine p_iconst 82 dX6_isReserved_81 ?_
              refine p_goto 86 dX6_isReserved_82 ?_
              refine p_zret dX6_isReserved_86 rfl (by decide) ?_
              exact ⟨_, rfl, by first | rw [if_pos hr] | rw [if_neg hr], rfl⟩
            · have hn7 : q_is t n p 7 = false := Bool.eq_false_iff.mpr (if_nne0 h51)
              refine p_aload_n 55 dX6_isReserved_54 rfl rfl (by decide) ?_
              refine p_ldcS 8 57 dX6_isReserved_55 rfl ?_
              refine p_callV1i 48 60 dX6_isReserved_57 (s_spells hn ht hc hp hS (i := 8) rfl (by decide)) lk_X6_94 mX6_spells rfl rfl (by decide) (Nat.le_of_ble_eq_true rfl) ?_
              rintro _ _ ⟨rfl, e9⟩
              have e9 := e9.symm
              subst e9
              refine p_if_ne 81 63 dX6_isReserved_60 (by split <;> omega) (by split <;> omega) (fun h60 => ?_) (fun h60 => ?_)
              · have hy : q_is t n p 8 = true := if_ne0 h60
                have hr : q_rsv t n p = true := by
                  unfold q_rsv
                  rw [hy]
                  simp
                refine p_iconst 82 dX6_isReserved_81 ?_
                refine p_goto 86 dX6_isReserved_82 ?_
                refine p_zret dX6_isReserved_86 rfl (by decide) ?_
                exact ⟨_, rfl, by first | rw [if_pos hr] | rw [if_neg hr], rfl⟩
              · have hn8 : q_is t n p 8 = false := Bool.eq_false_iff.mpr (if_nne0 h60)
                refine p_aload_n 64 dX6_isReserved_63 rfl rfl (by decide) ?_
                refine p_ldcS 9 66 dX6_isReserved_64 rfl ?_
                refine p_callV1i 48 69 dX6_isReserved_66 (s_spells hn ht hc hp hS (i := 9) rfl (by decide)) lk_X6_94 mX6_spells rfl rfl (by decide) (Nat.le_of_ble_eq_true rfl) ?_
                rintro _ _ ⟨rfl, e9⟩
                have e9 := e9.symm
                subst e9
                refine p_if_ne 81 72 dX6_isReserved_69 (by split <;> omega) (by split <;> omega) (fun h69 => ?_) (fun h69 => ?_)
                · have hy : q_is t n p 9 = true := if_ne0 h69
                  have hr : q_rsv t n p = true := by
                    unfold q_rsv
                    rw [hy]
                    simp
                  refine p_iconst 82 dX6_isReserved_81 ?_
                  refine p_goto 86 dX6_isReserved_82 ?_
                  refine p_zret dX6_isReserved_86 rfl (by decide) ?_
                  exact ⟨_, rfl, by first | rw [if_pos hr] | rw [if_neg hr], rfl⟩
                · have hn9 : q_is t n p 9 = false := Bool.eq_false_iff.mpr (if_nne0 h69)
                  refine p_aload_n 73 dX6_isReserved_72 rfl rfl (by decide) ?_
                  refine p_ldcS 10 75 dX6_isReserved_73 rfl ?_
                  refine p_callV1i 48 78 dX6_isReserved_75 (s_spells hn ht hc hp hS (i := 10) rfl (by decide)) lk_X6_94 mX6_spells rfl rfl (by decide) (Nat.le_of_ble_eq_true rfl) ?_
                  rintro _ _ ⟨rfl, e9⟩
                  have e9 := e9.symm
                  subst e9
                  refine p_if_eq 85 81 dX6_isReserved_78 (by split <;> omega) (by split <;> omega) (fun h78 => ?_) (fun h78 => ?_)
                  · have hn10 : q_is t n p 10 = false := Bool.eq_false_iff.mpr (if_eq0 h78)
                    have hr : ¬ q_rsv t n p = true := by
                      unfold q_rsv
                      rw [hn0, hn3, hn4, hn5, hn6, hn7, hn8, hn9, hn10]
                      decide
                    refine p_iconst 86 dX6_isReserved_85 ?_
                    refine p_zret dX6_isReserved_86 rfl (by decide) ?_
                    exact ⟨_, rfl, by first | rw [if_pos hr] | rw [if_neg hr], rfl⟩
                  · have hy : q_is t n p 10 = true := if_neq0 h78
                    have hr : q_rsv t n p = true := by
                      unfold q_rsv
                      rw [hy]
                      simp
                    refine p_iconst 82 dX6_isReserved_81 ?_
                    refine p_goto 86 dX6_isReserved_82 ?_
                    refine p_zret dX6_isReserved_86 rfl (by decide) ?_
                    exact ⟨_, rfl, by first | rw [if_pos hr] | rw [if_neg hr], rfl⟩
theorem s_kindSpelt {l : Launch} {X : ZX} {M : ZM} {t : Nat → Int} {n c : Nat} (hn : n ≤ 900) (ht : ∀ i, i < n → 0 ≤ t i ∧ t i < 256) (hc : isC c) {p : Nat} (hp : p ≤ n) {N : ZM} (hS : RW t n c p N M) : zCi l X 5 yX6_kindSpelt tX6_kindSpelt [zr 48] M (fun a M' => a = q_kind t n p ∧ M' = M) := by
  obtain ⟨hB, hT, hfr, hf0⟩ := id hS
  obtain ⟨t3, t4, t5, t6, t7⟩ := id hT
  have hal := q_at_le t hp
  have hel := q_en_le t hp
  have hsr := q_srt_bd (q_tk t n p)
  have hcl := hc.lt
  refine zC.of [some (zr 48)] (by decide +kernel) rfl rfl (Nat.le_of_ble_eq_true rfl) rfl ?_
  refine p_aload_n 1 dX6_kindSpelt_0 rfl rfl (by decide) ?_
  refine p_ldcS 11 3 dX6_kindSpelt_1 rfl ?_
  refine p_callV1i 48 6 dX6_kindSpelt_3 (s_spells hn ht hc hp hS (i := 11) rfl (by decide)) lk_X6_94 mX6_spells rfl rfl (by decide) (Nat.le_of_ble_eq_true rfl) ?_
  rintro _ _ ⟨rfl, e9⟩
  have e9 := e9.symm
  subst e9
  refine p_if_eq 11 9 dX6_kindSpelt_6 (by split <;> omega) (by split <;> omega) (fun h6 => ?_) (fun h6 => ?_)
  · have n11 := if_eq0 h6
    refine p_aload_n 12 dX6_kindSpelt_11 rfl rfl (by decide) ?_
    refine p_ldcS 12 14 dX6_kindSpelt_12 rfl ?_
    refine p_callV1i 48 17 dX6_kindSpelt_14 (s_spells hn ht hc hp hS (i := 12) rfl (by decide)) lk_X6_94 mX6_spells rfl rfl (by decide) (Nat.le_of_ble_eq_true rfl) ?_
    rintro _ _ ⟨rfl, e9⟩
    have e9 := e9.symm
    subst e9
    refine p_if_eq 22 20 dX6_kindSpelt_17 (by split <;> omega) (by split <;> omega) (fun h17 => ?_) (fun h17 => ?_)
    · have n12 := if_eq0 h17
      refine p_aload_n 23 dX6_kindSpelt_22 rfl rfl (by decide) ?_
      refine p_ldcS 13 25 dX6_kindSpelt_23 rfl ?_
      refine p_callV1i 48 28 dX6_kindSpelt_25 (s_spells hn ht hc hp hS (i := 13) rfl (by decide)) lk_X6_94 mX6_spells rfl rfl (by decide) (Nat.le_of_ble_eq_true rfl) ?_
      rintro _ _ ⟨rfl, e9⟩
      have e9 := e9.symm
      subst e9
      refine p_if_eq 33 31 dX6_kindSpelt_28 (by split <;> omega) (by split <;> omega) (fun h28 => ?_) (fun h28 => ?_)
      · have n13 := if_eq0 h28
        refine p_aload_n 34 dX6_kindSpelt_33 rfl rfl (by decide) ?_
        refine p_ldcS 14 36 dX6_kindSpelt_34 rfl ?_
        refine p_callV1i 48 39 dX6_kindSpelt_36 (s_spells hn ht hc hp hS (i := 14) rfl (by decide)) lk_X6_94 mX6_spells rfl rfl (by decide) (Nat.le_of_ble_eq_true rfl) ?_
        rintro _ _ ⟨rfl, e9⟩
        have e9 := e9.symm
        subst e9
        refine p_if_eq 46 42 dX6_kindSpelt_39 (by split <;> omega) (by split <;> omega) (fun h39 => ?_) (fun h39 => ?_)
        · have n14 := if_eq0 h39
          refine p_iconst 47 dX6_kindSpelt_46 ?_
          refine p_iret dX6_kindSpelt_47 rfl ?_
          first
            | exact ⟨_, rfl, by unfold q_kind; rw [if_neg n11, if_neg n12, if_neg n13, if_neg n14], rfl⟩
            | exact ⟨_, rfl, by unfold q_kind; rw [if_neg n11, if_neg n12, if_neg n13, if_pos y14], rfl⟩
        · have y14 := if_neq0 h39
          refine p_iconst 43 dX6_kindSpelt_42 ?_
          refine p_goto 47 dX6_kindSpelt_43 ?_
          refine p_iret dX6_kindSpelt_47 rfl ?_
          first
            | exact ⟨_, rfl, by unfold q_kind; rw [if_neg n11, if_neg n12, if_neg n13, if_neg n14], rfl⟩
            | exact ⟨_, rfl, by unfold q_kind; rw [if_neg n11, if_neg n12, if_neg n13, if_pos y14], rfl⟩
      · have y13 := if_neq0 h28
        refine p_iconst 32 dX6_kindSpelt_31 ?_
        refine p_iret dX6_kindSpelt_32 rfl ?_
        exact ⟨_, rfl, by unfold q_kind; rw [if_neg n11, if_neg n12, if_pos y13], rfl⟩
    · have y12 := if_neq0 h17
      refine p_iconst 21 dX6_kindSpelt_20 ?_
      refine p_iret dX6_kindSpelt_21 rfl ?_
      exact ⟨_, rfl, by unfold q_kind; rw [if_neg n11, if_pos y12], rfl⟩
  · have y11 := if_neq0 h6
    refine p_iconst 10 dX6_kindSpelt_9 ?_
    refine p_iret dX6_kindSpelt_10 rfl ?_
    exact ⟨_, rfl, by unfold q_kind; rw [if_pos y11], rfl⟩
theorem RW.adv {t : Nat → Int} {n c p p' : Nat} {N M M' : ZM} (hc : isC c) (hS : RW t n c p N M) (hk : RK M M') (hT : TC t n p' M') : RW t n c p' N M' := by
  obtain ⟨hB, -, hfr, hf0⟩ := hS
  have hcl := hc.lt
  exact ⟨hB.of hk, hT, fun a h1 h2 => (hk.1 a h1).trans (hfr a h1 h2), (hk.2 8 (by omega)).trans hf0⟩
theorem RS.adv {t : Nat → Int} {n c p p' : Nat} {ρ : Nat → Int} {N M M' : ZM} (hc : isC c) (hS : RS t n c p ρ N M) (hk : RK M M') (hT : TC t n p' M') : RS t n c p' ρ N M' := by
  obtain ⟨hB, -, hI, hfr, hf0⟩ := hS
  have hcl := hc.lt
  exact ⟨hB.of hk, hT, hI.congr (fun a g1 g2 => hk.1 a (by omega)), fun a h1 h2 => (hk.1 a h1).trans (hfr a h1 h2), (hk.2 8 (by omega)).trans hf0⟩
theorem s_takeKeyword {l : Launch} {X : ZX} {M : ZM} {t : Nat → Int} {n c : Nat} (hn : n ≤ 900) (ht : ∀ i, i < n → 0 ≤ t i ∧ t i < 256) (hc : isC c) {p : Nat} (hp : p ≤ n) {N : ZM} (hS : RW t n c p N M) {i : Nat} {q0 : String × Nat × String} (hq : zstr[i]? = some q0) (hi : i < 45) : zCi l X 5 yX6_takeKeyword tX6_takeKeyword [zr 48, zr (1000 + (i : Int))] M (fun a M' => (q_is t n p i = true ∧ a = 1 ∧ RK M M' ∧ TC t n (q_en t n p) M') ∨ (q_is t n p i = false ∧ a = 0 ∧ FL c N (1, (q_at t n p : Int)) M')) := by
  obtain ⟨hB, hT, hfr, hf0⟩ := id hS
  obtain ⟨t3, t4, t5, t6, t7⟩ := id hT
  have hal := q_at_le t hp
  have hel := q_en_le t hp
  have hsr := q_srt_bd (q_tk t n p)
  have hcl := hc.lt
  refine zC.of [some (zr 48), some (zr (1000 + (i : Int)))] (by decide +kernel) rfl rfl (Nat.le_of_ble_eq_true rfl) rfl ?_
  refine p_aload_n 1 dX6_takeKeyword_0 rfl rfl (by decide) ?_
  refine p_aload_n 2 dX6_takeKeyword_1 rfl rfl (by omega) ?_
  refine p_callV1i 48 5 dX6_takeKeyword_2 (s_spells hn ht hc hp hS hq hi) lk_X6_94 mX6_spells rfl rfl (by decide) (Nat.le_of_ble_eq_true rfl) ?_
  rintro _ _ ⟨rfl, e9⟩
  have e9 := e9.symm
  subst e9
  refine p_if_ne 14 8 dX6_takeKeyword_5 (by split <;> omega) (by split <;> omega) (fun h5 => ?_) (fun h5 => ?_)
  · have hy := if_ne0 h5
    refine p_aload_n 15 dX6_takeKeyword_14 rfl rfl (by decide) ?_
    refine p_callV0v 48 18 dX6_takeKeyword_15 (s_advance hn ht hS.1 (p := q_en t n p) (by omega) hS.2.1.1) lk_X6_37 mX6_advance rfl rfl (by decide) (Nat.le_of_ble_eq_true rfl) ?_
    intro M9 h9
    obtain ⟨kk, hT9⟩ := h9
    refine p_iconst 19 dX6_takeKeyword_18 ?_
    refine p_zret dX6_takeKeyword_19 rfl (by decide) ?_
    exact ⟨_, rfl, Or.inl ⟨hy, rfl, kk, hT9⟩⟩
  · have hno := Bool.eq_false_iff.mpr (if_nne0 h5)
    refine p_aload_n 9 dX6_takeKeyword_8 rfl rfl (by decide) ?_
    refine p_iconst 10 dX6_takeKeyword_9 ?_
    refine p_callV1i 48 13 dX6_takeKeyword_10 (s_failR hn ht hc hp hS) lk_X6_47 mX6_fail rfl rfl (by decide) (Nat.le_of_ble_eq_true rfl) ?_
    rintro _ M9 ⟨rfl, h9⟩
    refine p_zret dX6_takeKeyword_13 rfl (by decide) ?_
    exact ⟨_, rfl, Or.inr ⟨hno, rfl, h9⟩⟩
theorem s_isNumber {l : Launch} {X : ZX} {M : ZM} {t : Nat → Int} {n c : Nat} (hn : n ≤ 900) (ht : ∀ i, i < n → 0 ≤ t i ∧ t i < 256) (hc : isC c) {p : Nat} (hp : p ≤ n) {N : ZM} (hS : RW t n c p N M) {lo hi : Int} (hlo : 0 ≤ lo ∧ lo ≤ 1000) (hhi : 0 ≤ hi ∧ hi ≤ 1000) : zCi l X 1 yX6_isNumber tX6_isNumber [zr 48, zi lo, zi hi] M (fun a M' => (q_num t n p lo hi = .inr (q_en t n p, q_nb t n p) ∧ q_tk t n p = 3 ∧ a = 1 ∧ M' = M) ∨ ∃ e, q_num t n p lo hi = .inl e ∧ a = 0 ∧ FL c N e M') := by
  obtain ⟨hB, hT, hfr, hf0⟩ := id hS
  obtain ⟨t3, t4, t5, t6, t7⟩ := id hT
  have hal := q_at_le t hp
  have hel := q_en_le t hp
  have hsr := q_srt_bd (q_tk t n p)
  have hcl := hc.lt
  refine zC.of [some (zr 48), some (zi lo), some (zi hi)] (by decide +kernel) rfl rfl (Nat.le_of_ble_eq_true rfl) rfl ?_
  refine p_aload_n 1 dX6_isNumber_0 rfl rfl (by decide) ?_
  refine p_getI 48 4 dX6_isNumber_1 fX6_44 rfl ?_
  rw [t5]
  refine p_iconst 5 dX6_isNumber_4 ?_
  refine p_icmp_eq 14 8 dX6_isNumber_5 (by omega) (by omega) (by decide) (by decide) (fun h5 => ?_) (fun h5 => ?_)
  · have hk3 : q_tk t n p = 3 := q_srt2.mp h5
    have hnb := q_nb_bd hp hk3
    refine p_aload_n 15 dX6_isNumber_14 rfl rfl (by decide) ?_
    refine p_getI 48 18 dX6_isNumber_15 fX6_80 rfl ?_
    rw [t7 hk3]
    refine p_iload_n 19 dX6_isNumber_18 rfl rfl ?_
    refine p_icmp_lt 30 22 dX6_isNumber_19 (by omega) (by omega) (by omega) (by omega) (fun h19 => ?_) (fun h19 => ?_)
    · refine p_aload_n 31 dX6_isNumber_30 rfl rfl (by decide) ?_
      refine p_iconst 32 dX6_isNumber_31 ?_
      refine p_callV1i 48 35 dX6_isNumber_32 (s_failR hn ht hc hp hS) lk_X6_47 mX6_fail rfl rfl (by decide) (Nat.le_of_ble_eq_true rfl) ?_
      rintro _ M9 ⟨rfl, h9⟩
      refine p_if_eq 42 38 dX6_isNumber_35 (by decide) (by decide) (fun h35 => ?_) (fun h35 => absurd (absurd rfl h35) (fun h9 : False => h9))
      refine p_iconst 43 dX6_isNumber_42 ?_
      refine p_zret dX6_isNumber_43 rfl (by decide) ?_
      first
        | exact ⟨_, rfl, Or.inr ⟨_, by unfold q_num; rw [if_neg (by omega), if_neg (by omega)], rfl, h9⟩⟩
        | exact ⟨_, rfl, Or.inl ⟨by unfold q_num; rw [if_neg (by omega), if_pos (by omega)], hk3, rfl, rfl⟩⟩
    · refine p_aload_n 23 dX6_isNumber_22 rfl rfl (by decide) ?_
      refine p_getI 48 26 dX6_isNumber_23 fX6_80 rfl ?_
      rw [t7 hk3]
      refine p_iload_n 27 dX6_isNumber_26 rfl rfl ?_
      refine p_icmp_le 38 30 dX6_isNumber_27 (by omega) (by omega) (by omega) (by omega) (fun h27 => ?_) (fun h27 => ?_)
      · refine p_iconst 39 dX6_isNumber_38 ?_
        refine p_goto 43 dX6_isNumber_39 ?_
        refine p_zret dX6_isNumber_43 rfl (by decide) ?_
        first
          | exact ⟨_, rfl, Or.inr ⟨_, by unfold q_num; rw [if_neg (by omega), if_neg (by omega)], rfl, h9⟩⟩
          | exact ⟨_, rfl, Or.inl ⟨by unfold q_num; rw [if_neg (by omega), if_pos (by omega)], hk3, rfl, rfl⟩⟩
      · refine p_aload_n 31 dX6_isNumber_30 rfl rfl (by decide) ?_
        refine p_iconst 32 dX6_isNumber_31 ?_
        refine p_callV1i 48 35 dX6_isNumber_32 (s_failR hn ht hc hp hS) lk_X6_47 mX6_fail rfl rfl (by decide) (Nat.le_of_ble_eq_true rfl) ?_
        rintro _ M9 ⟨rfl, h9⟩
        refine p_if_eq 42 38 dX6_isNumber_35 (by decide) (by decide) (fun h35 => ?_) (fun h35 => absurd (absurd rfl h35) (fun h9 : False => h9))
        refine p_iconst 43 dX6_isNumber_42 ?_
        refine p_zret dX6_isNumber_43 rfl (by decide) ?_
        first
          | exact ⟨_, rfl, Or.inr ⟨_, by unfold q_num; rw [if_neg (by omega), if_neg (by omega)], rfl, h9⟩⟩
          | exact ⟨_, rfl, Or.inl ⟨by unfold q_num; rw [if_neg (by omega), if_pos (by omega)], hk3, rfl, rfl⟩⟩
  · have hk3 : ¬ q_tk t n p = 3 := fun g => h5 (q_srt2.mpr g)
    refine p_aload_n 9 dX6_isNumber_8 rfl rfl (by decide) ?_
    refine p_iconst 10 dX6_isNumber_9 ?_
    refine p_callV1i 48 13 dX6_isNumber_10 (s_failR hn ht hc hp hS) lk_X6_47 mX6_fail rfl rfl (by decide) (Nat.le_of_ble_eq_true rfl) ?_
    rintro _ M9 ⟨rfl, h9⟩
    refine p_zret dX6_isNumber_13 rfl (by decide) ?_
    exact ⟨_, rfl, Or.inr ⟨_, by unfold q_num; rw [if_pos hk3], rfl, h9⟩⟩
theorem s_begin {l : Launch} {X : ZX} {M : ZM} {t : Nat → Int} {n c : Nat} (hn : n ≤ 900) (ht : ∀ i, i < n → 0 ≤ t i ∧ t i < 256) (hc : isC c) {p : Nat} (hp : p ≤ n) {ρ : Nat → Int} {N : ZM} (hS : RS t n c p ρ N M) {cn rm : Int} (hcn : 0 ≤ cn ∧ cn ≤ 100) (hrm : 0 ≤ rm ∧ rm ≤ 100) : zCi l X 3 yX6_begin tX6_begin [zr 48, zi cn, zi rm] M (fun a M' => (¬ ρ 0 = 0 ∧ ¬ rm ≤ cn ∧ a = 1 ∧ RK M M' ∧ TC t n (q_en t n p) M') ∨ ∃ e, ((ρ 0 = 0 ∧ e = (6, (q_at t n p : Int))) ∨ (¬ ρ 0 = 0 ∧ rm ≤ cn ∧ e = (5, (q_at t n p : Int)))) ∧ a = 0 ∧ FL c N e M') := by
  obtain ⟨hB, hT, hI, hfr, hf0⟩ := id hS
  obtain ⟨t3, t4, t5, t6, t7⟩ := id hT
  have hal := q_at_le t hp
  have hel := q_en_le t hp
  have hsr := q_srt_bd (q_tk t n p)
  have hcl := hc.lt
  refine zC.of [some (zr 48), some (zi cn), some (zi rm)] (by decide +kernel) rfl rfl (Nat.le_of_ble_eq_true rfl) rfl ?_
  refine p_aload_n 1 dX6_begin_0 rfl rfl (by decide) ?_
  refine p_getR 48 4 dX6_begin_1 fX6_19 rfl hB.2.2.2.1 ?_
  refine p_getI (c) 7 dX6_begin_4 fX6_166 (tt_c hc) ?_
  rw [hI.1.1.1]
  refine p_if_ne 17 10 dX6_begin_7 (by unfold q_tld; split <;> omega) (by unfold q_tld; split <;> omega) (fun h7 => ?_) (fun h7 => ?_)
  · have h0 : ¬ ρ 0 = 0 := fun g => by unfold q_tld at h7; rw [if_pos g] at h7; exact h7 rfl
    refine p_iload_n 18 dX6_begin_17 rfl rfl ?_
    refine p_iload_n 19 dX6_begin_18 rfl rfl ?_
    refine p_icmp_lt 28 22 dX6_begin_19 (by omega) (by omega) (by omega) (by omega) (fun h19 => ?_) (fun h19 => ?_)
    · refine p_aload_n 29 dX6_begin_28 rfl rfl (by decide) ?_
      refine p_callV0v 48 32 dX6_begin_29 (s_advance hn ht hS.1 (p := q_en t n p) (by omega) hS.2.1.1) lk_X6_37 mX6_advance rfl rfl (by decide) (Nat.le_of_ble_eq_true rfl) ?_
      intro M9 h9
      obtain ⟨kk, hT9⟩ := h9
      refine p_iconst 33 dX6_begin_32 ?_
      refine p_zret dX6_begin_33 rfl (by decide) ?_
      exact ⟨_, rfl, Or.inl ⟨h0, by omega, rfl, kk, hT9⟩⟩
    · refine p_aload_n 23 dX6_begin_22 rfl rfl (by decide) ?_
      refine p_iconst 24 dX6_begin_23 ?_
      refine p_callV1i 48 27 dX6_begin_24 (s_failR hn ht hc hp hS.w) lk_X6_47 mX6_fail rfl rfl (by decide) (Nat.le_of_ble_eq_true rfl) ?_
      rintro _ M9 ⟨rfl, h9⟩
      refine p_zret dX6_begin_27 rfl (by decide) ?_
      exact ⟨_, rfl, Or.inr ⟨_, Or.inr ⟨h0, by omega, rfl⟩, rfl, h9⟩⟩
  · have h0 : ρ 0 = 0 := by
      by_cases g : ρ 0 = 0
      · exact g
      · unfold q_tld at h7; rw [if_neg g] at h7; exact absurd (by decide) h7
    refine p_aload_n 11 dX6_begin_10 rfl rfl (by decide) ?_
    refine p_bipush 13 dX6_begin_11 rfl ?_
    refine p_callV1i 48 16 dX6_begin_13 (s_failR hn ht hc hp hS.w) lk_X6_47 mX6_fail rfl rfl (by decide) (Nat.le_of_ble_eq_true rfl) ?_
    rintro _ M9 ⟨rfl, h9⟩
    refine p_zret dX6_begin_16 rfl (by decide) ?_
    exact ⟨_, rfl, Or.inr ⟨_, Or.inl ⟨h0, rfl⟩, rfl, h9⟩⟩
theorem l_findG {l : Launch} {X : ZX} {M : ZM} {c : Nat} (hc : isC c) (hW : zWc M) {n : Nat} {g : Nat → Int} (hn : M (c + 11) 0 = (n : Int)) (hn7 : n ≤ 7) (hg : ∀ k, k < n → M (c + 12) k = g k) (hgb : ∀ k, k < n → 0 ≤ g k ∧ g k < 1099511627776) {sh : Int} (hsh : 0 ≤ sh ∧ sh < 1099511627776) : ∀ (j i : Nat), i + j = n → (∀ v, v < i → (fun w => decide (g w = sh)) v = false) → zP l X 0 tX10_find 2 [some (zr ((c + 11 : Nat) : Int)), some (zl sh), none, some (zi (i : Int))] [] M (fun r M' => ∃ a, r = some (zi a) ∧ (a = q_mn (q_first (fun w => decide (g w = sh)) n) ∧ M' = M)) := by
  have hcl := hc.lt
  intro j
  induction j with
  | zero =>
    intro i hi hv
    refine p_iload_n 3 dX10_find_2 rfl rfl ?_
    refine p_aload_n 4 dX10_find_3 rfl rfl (by omega) ?_
    refine p_getI (c + 11) 7 dX10_find_4 fX10_28 (tt_11 hc) ?_
    rw [hn]
    refine p_icmp_ge 29 10 dX10_find_7 (by omega) (by omega) (by omega) (by omega) (fun h7 => ?_) (fun h7 => absurd (by omega) (fun h9 : False => h9))
    refine p_iconst 30 dX10_find_29 ?_
    refine p_iret dX10_find_30 rfl ?_
    refine ⟨_, rfl, ?_, rfl⟩
    cases hq : q_first (fun w => decide (g w = sh)) n with
    | none => rfl
    | some w =>
      obtain ⟨a, b, -⟩ := q_first_some hq
      have b2 := (hv w (by omega)).symm.trans b
      cases b2
  | succ j ih =>
    intro i hi hv
    refine p_iload_n 3 dX10_find_2 rfl rfl ?_
    refine p_aload_n 4 dX10_find_3 rfl rfl (by omega) ?_
    refine p_getI (c + 11) 7 dX10_find_4 fX10_28 (tt_11 hc) ?_
    rw [hn]
    refine p_icmp_ge 29 10 dX10_find_7 (by omega) (by omega) (by omega) (by omega) (fun h7 => absurd (by omega) (fun h9 : False => h9)) (fun h7 => ?_)
    refine p_aload_n 11 dX10_find_10 rfl rfl (by omega) ?_
    refine p_getR (c + 11) 14 dX10_find_11 fX10_9 (tt_11 hc) (wi_11_2 hc hW) ?_
    refine p_iload_n 15 dX10_find_14 rfl rfl ?_
    refine p_laldn (c + 12) 16 (i) dX10_find_15 (tt_12 hc) (by omega) (by omega) ?_
    rw [hg i (by omega)]
    have zc := z_lc (hgb i (by omega)) hsh
    refine p_lload_n 17 dX10_find_16 rfl rfl ?_
    refine p_lcmp 18 dX10_find_17 ?_
    refine p_if_ne 23 21 dX10_find_18 (by omega) (by omega) (fun h18 => ?_) (fun h18 => ?_)
    · refine p_iinc 26 dX10_find_23 rfl rfl rfl ?_
      dsimp only [List.set]
      refine p_goto 2 dX10_find_26 ?_
      refine ih (i + 1) (by omega) (fun v hv2 => ?_)
      by_cases e : v = i
      · subst e; exact decide_eq_false (fun g9 => h18 (zc.1.mpr g9))
      · exact hv v (by omega)
    · refine p_iload_n 22 dX10_find_21 rfl rfl ?_
      refine p_iret dX10_find_22 rfl ?_
      refine ⟨_, rfl, ?_, rfl⟩
      have hy : (fun w => decide (g w = sh)) i = true := decide_eq_true (zc.1.mp (by omega))
      rw [q_first_is (by omega) hy hv]
      rfl
theorem s_findG {l : Launch} {X : ZX} {M : ZM} {c : Nat} (hc : isC c) (hW : zWc M) {n : Nat} {g : Nat → Int} (hn : M (c + 11) 0 = (n : Int)) (hn7 : n ≤ 7) (hg : ∀ k, k < n → M (c + 12) k = g k) (hgb : ∀ k, k < n → 0 ≤ g k ∧ g k < 1099511627776) {sh : Int} (hsh : 0 ≤ sh ∧ sh < 1099511627776) : zCi l X 0 yX10_find tX10_find [zr ((c + 11 : Nat) : Int), zl sh] M (fun a M' => a = q_mn (q_first (fun w => decide (g w = sh)) n) ∧ M' = M) := by
  refine zC.of [some (zr ((c + 11 : Nat) : Int)), some (zl sh), none, none] (by decide +kernel) rfl rfl (Nat.le_of_ble_eq_true rfl) rfl ?_
  refine p_iconst 1 dX10_find_0 ?_
  refine p_istore_n 2 dX10_find_1 rfl (Nat.le_of_ble_eq_true rfl) rfl rfl ?_
  dsimp only [List.set]
  exact l_findG hc hW hn hn7 hg hgb hsh n 0 (Nat.zero_add _) (fun v hv => absurd hv (by omega))
