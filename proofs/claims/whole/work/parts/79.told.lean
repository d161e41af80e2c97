/-! THE TEXT: how it fails; which places of a row matter -/
def okE (n : Nat) (e : Int × Int) : Prop := 1 ≤ e.1 ∧ e.1 ≤ 7 ∧ 0 ≤ e.2 ∧ e.2 ≤ (n : Int)
theorem okE.at {t : Nat → Int} {n p : Nat} (hp : p ≤ n) {f : Int} (h1 : 1 ≤ f) (h2 : f ≤ 7) : okE n (f, (q_at t n p : Int)) := by
  have h := q_at_le t hp
  refine ⟨h1, h2, ?_, ?_⟩
  · show (0 : Int) ≤ (q_at t n p : Int)
    omega
  · show (q_at t n p : Int) ≤ (n : Int)
    omega
def bad {α : Type} (n : Nat) (x : (Int × Int) ⊕ α) : Prop := ∀ e, x = .inl e → okE n e
theorem bad.r {α : Type} {n : Nat} {x : α} : bad n (.inr x : (Int × Int) ⊕ α) := fun e h => by cases h
theorem bad.l {α : Type} {t : Nat → Int} {n p : Nat} (hp : p ≤ n) {f : Int} (h1 : 1 ≤ f) (h2 : f ≤ 7) : bad n (.inl (f, (q_at t n p : Int)) : (Int × Int) ⊕ α) := fun e h => by cases h; exact okE.at hp h1 h2
theorem bad.ite {α : Type} {n : Nat} {c : Prop} [Decidable c] {x y : (Int × Int) ⊕ α} (h1 : c → bad n x) (h2 : ¬ c → bad n y) : bad n (if c then x else y) := by
  by_cases h : c
  · rw [if_pos h]; exact h1 h
  · rw [if_neg h]; exact h2 h
theorem bad.bindR {α : Type} {n : Nat} {x : PR} {f : Nat → (Nat → Int) → (Int × Int) ⊕ α} (hx : bad n x) (hf : ∀ p ρ, x = .inr (p, ρ) → bad n (f p ρ)) : bad n (q_bindR x f) := by
  cases hq : x with
  | inl e => intro e' h; cases h; exact hx e hq
  | inr q => exact hf q.1 q.2 hq
theorem bad.bindN {α : Type} {n : Nat} {x : (Int × Int) ⊕ (Nat × Int)} {f : Nat → Int → (Int × Int) ⊕ α} (hx : bad n x) (hf : ∀ p v, x = .inr (p, v) → bad n (f p v)) : bad n (q_bindN x f) := by
  cases hq : x with
  | inl e => intro e' h; cases h; exact hx e hq
  | inr q => exact hf q.1 q.2 hq
theorem bad.bindW {α : Type} {n : Nat} {x : (Int × Int) ⊕ Nat} {f : Nat → (Int × Int) ⊕ α} (hx : bad n x) (hf : ∀ w, x = .inr w → bad n (f w)) : bad n (q_bindW x f) := by
  cases hq : x with
  | inl e => intro e' h; cases h; exact hx e hq
  | inr q => exact hf q hq
theorem bad.num {t : Nat → Int} {n p : Nat} {lo hi : Int} (hp : p ≤ n) : bad n (q_num t n p lo hi) := bad.ite (fun _ => bad.l hp (by decide) (by decide)) (fun _ => bad.ite (fun _ => bad.r) (fun _ => bad.l hp (by decide) (by decide)))
theorem bad.aft {t : Nat → Int} {n p i : Nat} {lo hi : Int} (hp : p ≤ n) : bad n (q_aft t n p i lo hi) := bad.ite (fun _ => bad.num (q_en_n t hp)) (fun _ => bad.l hp (by decide) (by decide))
theorem aft_le {t : Nat → Int} {n p i : Nat} {lo hi : Int} {p1 : Nat} {v : Int} (hp : p ≤ n) (h : q_aft t n p i lo hi = .inr (p1, v)) : p1 ≤ n := by
  rw [(q_aft_inv h).1]
  exact q_en_n t (q_en_n t hp)
theorem bad.newn {t : Nat → Int} {n p : Nat} {ρ : Nat → Int} {m : Nat} (hp : p ≤ n) : bad n (q_newn t n p ρ m) := bad.ite (fun _ => bad.l hp (by decide) (by decide)) (fun _ => bad.ite (fun _ => bad.l hp (by decide) (by decide)) (fun _ => bad.r))
theorem newn_le {t : Nat → Int} {n p : Nat} {ρ : Nat → Int} {m p1 : Nat} {ρ1 : Nat → Int} (hp : p ≤ n) (h : q_newn t n p ρ m = .inr (p1, ρ1)) : p1 ≤ n := by
  rw [(q_newn_inv h).2.2.1]
  exact q_en_n t hp
theorem bad.told {t : Nat → Int} {n p : Nat} {ρ : Nat → Int} (hp : p ≤ n) : bad n (q_told t n p ρ) := by
  unfold q_told
  refine bad.ite (fun _ => bad.l hp (by decide) (by decide)) (fun _ => ?_)
  cases q_first (fun w => decide (q_nmp ρ (10 + w) = q_wd t n p)) (q_n ρ 4) with
  | some w => exact bad.r
  | none => exact bad.l hp (by decide) (by decide)
theorem bad.county {t : Nat → Int} {n p : Nat} {ρ : Nat → Int} (hp : p ≤ n) : bad n (q_lcounty t n p ρ) := bad.ite (fun _ => bad.l hp (by decide) (by decide)) (fun _ => bad.bindN (bad.aft (q_en_n t hp)) (fun p1 v1 h1 => bad.bindN (bad.aft (aft_le (q_en_n t hp) h1)) (fun p2 v2 h2 => bad.r)))
theorem bad.sleeper {t : Nat → Int} {n p : Nat} {ρ : Nat → Int} (hp : p ≤ n) : bad n (q_lsleeper t n p ρ) := bad.bindR (bad.newn hp) (fun p1 ρ1 h1 => bad.ite (fun _ => bad.l (newn_le hp h1) (by decide) (by decide)) (fun _ => bad.bindN (bad.aft (q_en_n t (newn_le hp h1))) (fun p2 v2 h2 => bad.bindN (bad.aft (aft_le (q_en_n t (newn_le hp h1)) h2)) (fun p3 v3 h3 => bad.r))))
theorem bad.awake {t : Nat → Int} {n p : Nat} {ρ : Nat → Int} (hp : p ≤ n) : bad n (q_lawake t n p ρ) := bad.bindR (bad.newn hp) (fun p1 ρ1 h1 => bad.bindN (bad.aft (newn_le hp h1)) (fun p2 v2 h2 => bad.bindN (bad.aft (aft_le (newn_le hp h1) h2)) (fun p3 v3 h3 => bad.bindN (bad.aft (aft_le (aft_le (newn_le hp h1) h2) h3)) (fun p4 v4 h4 => bad.r))))
theorem bad.word {t : Nat → Int} {n p : Nat} {ρ : Nat → Int} (hp : p ≤ n) : bad n (q_lword t n p ρ) := bad.bindR (bad.newn hp) (fun p1 ρ1 h1 => bad.bindN (bad.aft (newn_le hp h1)) (fun p2 v2 h2 => bad.bindN (bad.aft (aft_le (newn_le hp h1) h2)) (fun p3 v3 h3 => bad.r)))
theorem bad.before {t : Nat → Int} {n p : Nat} {ρ : Nat → Int} (hp : p ≤ n) : bad n (q_lbefore t n p ρ) := bad.bindW (bad.told hp) (fun x _ => bad.bindW (bad.told (q_en_n t hp)) (fun y _ => bad.ite (fun _ => bad.l (q_en_n t hp) (by decide) (by decide)) (fun _ => bad.ite (fun _ => bad.l (q_en_n t hp) (by decide) (by decide)) (fun _ => bad.r))))
theorem bad.order {t : Nat → Int} {n p : Nat} {ρ : Nat → Int} (hp : p ≤ n) : bad n (q_lorder t n p ρ) := by
  have hp1 := q_en_n t hp
  have hp2 := q_en_n t hp1
  have hp3 := q_en_n t hp2
  have hp4 := q_en_n t hp3
  unfold q_lorder
  dsimp only
  exact bad.ite (fun _ => bad.l hp (by decide) (by decide)) (fun _ => bad.ite (fun _ => bad.l hp1 (by decide) (by decide)) (fun _ => bad.ite (fun _ => bad.l hp2 (by decide) (by decide)) (fun _ => bad.ite (fun _ => bad.l hp3 (by decide) (by decide)) (fun _ => bad.bindN (bad.num hp4) (fun p4 v4 h4 => bad.ite (fun _ => bad.r) (fun _ => bad.l hp4 (by decide) (by decide)))))))
theorem bad.seen {t : Nat → Int} {n p : Nat} {ρ : Nat → Int} (hp : p ≤ n) : bad n (q_lseen t n p ρ) := by
  have hp1 := q_en_n t hp
  have hp2 := q_en_n t hp1
  unfold q_lseen
  dsimp only
  exact bad.ite (fun _ => bad.l hp (by decide) (by decide)) (fun _ => bad.ite (fun _ => bad.l hp (by decide) (by decide)) (fun _ => bad.ite (fun _ => bad.r) (fun _ => bad.ite (fun _ => bad.l hp1 (by decide) (by decide)) (fun _ => bad.ite (fun _ => bad.l hp2 (by decide) (by decide)) (fun _ => bad.r)))))
theorem bad.beg {t : Nat → Int} {n p : Nat} {ρ : Nat → Int} {cnt room : Int} {f : Nat → PR} (hp : p ≤ n) (hf : bad n (f (q_en t n p))) : bad n (q_beg t n p ρ cnt room f) := bad.ite (fun _ => bad.l hp (by decide) (by decide)) (fun _ => bad.ite (fun _ => bad.l hp (by decide) (by decide)) (fun _ => hf))
theorem bad.line {t : Nat → Int} {n p : Nat} {ρ : Nat → Int} (hp : p ≤ n) : bad n (q_line t n p ρ) := by
  have hp1 := q_en_n t hp
  exact bad.ite (fun _ => bad.county hp) (fun _ => bad.ite (fun _ => bad.beg hp (bad.sleeper hp1)) (fun _ => bad.ite (fun _ => bad.beg hp (bad.awake hp1)) (fun _ => bad.ite (fun _ => bad.beg hp (bad.word hp1)) (fun _ => bad.ite (fun _ => bad.beg hp (bad.before hp1)) (fun _ => bad.ite (fun _ => bad.beg hp (bad.order hp1)) (fun _ => bad.ite (fun _ => bad.beg hp (bad.seen hp1)) (fun _ => bad.l hp (by decide) (by decide))))))))
theorem bad.lines {t : Nat → Int} {n : Nat} : ∀ (f p : Nat) (ρ : Nat → Int), p ≤ n → PI ρ → bad n (q_lines t n f p ρ) := by
  intro f
  induction f with
  | zero => intro p ρ hp _; exact bad.l hp (by decide) (by decide)
  | succ f ih =>
    intro p ρ hp hP
    rw [q_lines_s]
    refine bad.bindR (bad.line hp) (fun p1 ρ1 h1 => ?_)
    obtain ⟨hP1, g1, g2, g3⟩ := q_line_ok hp hP h1
    exact bad.ite (fun _ => ih _ _ (q_en_n t g2) hP1) (fun _ => bad.ite (fun _ => bad.l g2 (by decide) (by decide)) (fun _ => bad.ite (fun _ => bad.l g2 (by decide) (by decide)) (fun _ => bad.r)))
theorem q_parse_bad {t : Nat → Int} {n : Nat} {e : Int × Int} (h : q_parse t n = .inl e) : okE n e := bad.lines (n + 1) 0 (fun _ => 0) (Nat.zero_le n) PI.zero e h
theorem q_parse_PI {t : Nat → Int} {n : Nat} {ρ : Nat → Int} (h : q_parse t n = .inr ρ) : PI ρ ∧ ρ 0 ≠ 0 ∧ ρ 2 ≠ 0 := q_lines_ok (n + 1) 0 (fun _ => 0) (Nat.zero_le n) PI.zero ρ h
theorem PI.congr {ρ ρ' : Nat → Int} (hP : PI ρ) (eo : ∀ i, i < 421 → ρ' i = ρ i) : PI ρ' := by
  obtain ⟨hR, hB, hC, hD, hE, hF, hG⟩ := hP
  have b := hR.2.1
  refine ⟨⟨fun i hi => ?_, ?_, fun s hs => ?_, fun s hs => ?_, fun s hs => ?_, fun s hs => ?_, fun s hs => ?_⟩, ⟨fun m hm => ?_, fun m hm => ?_, fun m hm => ?_⟩, fun m hm => ?_, fun m m2 hm hm2 g1 g2 g3 => ?_, ⟨fun s hs => ?_, fun s hs => ?_, fun s hs => ?_, fun s hs => ?_, fun s hs => ?_⟩, ?_, ⟨fun w hw => ?_, fun w hw hw2 => ?_⟩⟩
  · rw [eo i hi]; exact hR.1 i hi
  · rw [eo 0 (by omega), eo 1 (by omega), eo 2 (by omega), eo 3 (by omega), eo 4 (by omega), eo 5 (by omega), eo 6 (by omega), eo 7 (by omega)]
    exact b
  · rw [eo _ (by omega), eo _ (by omega), eo _ (by omega)]; exact hR.2.2.1 s hs
  · rw [eo _ (by omega), eo _ (by omega), eo _ (by omega)]; exact hR.2.2.2.1 s hs
  · rw [eo _ (by omega), eo _ (by omega), eo _ (by omega)]; exact hR.2.2.2.2.1 s hs
  · obtain ⟨k1, k2, k3⟩ := hR.2.2.2.2.2.1 s hs
    exact ⟨by rw [eo _ (by omega)]; exact k1, q_wordOk_congr k2 (fun i hi => eo i (by omega)), q_wordOk_congr k3 (fun i hi => eo i (by omega))⟩
  · obtain ⟨k1, k2, k3⟩ := hR.2.2.2.2.2.2 s hs
    exact ⟨by rw [eo _ (by omega)]; exact k1, q_wordOk_congr k2 (fun i hi => eo i (by omega)), q_wordOk_congr k3 (fun i hi => eo i (by omega))⟩
  · rw [eo _ (by omega), eo 2 (by omega)]; exact hB.1 m hm
  · rw [eo _ (by omega), eo 3 (by omega)]; exact hB.2.1 m hm
  · rw [eo _ (by omega), eo 4 (by omega)]; exact hB.2.2 m hm
  · obtain ⟨k1, k2⟩ := hC m hm
    rw [eo (268 + m) (by omega)]
    refine ⟨k1, fun j hj => ?_⟩
    rw [eo _ (by omega)]
    exact k2 j hj
  · rw [eo _ (by omega)] at g1
    rw [eo _ (by omega)] at g2
    rw [q_nmp_congr (hC m hm).1 (fun i hi => eo i (by omega)), q_nmp_congr (hC m2 hm2).1 (fun i hi => eo i (by omega))] at g3
    exact hD m m2 hm hm2 g1 g2 g3
  · rw [eo 2 (by omega)] at hs
    rw [eo _ (by omega)]; exact hE.1 s hs
  · rw [eo 3 (by omega)] at hs
    rw [eo _ (by omega)]; exact hE.2.1 s hs
  · rw [eo 4 (by omega)] at hs
    rw [eo (38 + 3 * s) (by omega), eo (38 + 3 * s + 1) (by omega), eo (38 + 3 * s + 2) (by omega), eo 4 (by omega)]; exact hE.2.2.1 s hs
  · rw [eo 6 (by omega)] at hs
    rw [eo (59 + 19 * s) (by omega), eo (59 + 19 * s + 1) (by omega), eo (59 + 19 * s + 10) (by omega)]; exact hE.2.2.2.1 s hs
  · rw [eo 7 (by omega)] at hs
    rw [eo (173 + 19 * s) (by omega), eo (173 + 19 * s + 1) (by omega), eo (173 + 19 * s + 10) (by omega)]; exact hE.2.2.2.2 s hs
  · unfold PIF at hF ⊢
    rw [eo 0 (by omega), eo 2 (by omega), eo 3 (by omega), eo 4 (by omega), eo 5 (by omega), eo 6 (by omega), eo 7 (by omega)]
    exact hF
  · rw [eo 4 (by omega)] at hw
    rw [ab_congr (r' := q_n ρ) (fun k hk => by unfold q_row q_n; rw [eo _ (by omega)]) (by omega)]
    exact hG.1 w hw
  · rw [eo 4 (by omega)] at hw2
    rw [eo _ (by omega)]
    exact hG.2 w hw hw2
theorem ICr.row {ρ ρ' : Nat → Int} {c : Nat} {M : ZM} (hP : PI ρ) (h : ICr ρ c M) (eo : ∀ i, i < 421 → ρ' i = ρ i) : ICr ρ' c M := by
  have hR := hP.1
  have b := hR.2.1
  obtain ⟨⟨a0, a1, a2, a3, a4, a5, a6, a7, a8⟩, h2, h3, h4, h6, h7⟩ := ICr_iff.mp h
  refine ICr_iff.mpr ⟨⟨?_, ?_, ?_, ?_, ?_, ?_, ?_, ?_, ?_⟩, fun s hs => ?_, fun s hs => ?_, fun s hs => ?_, fun s hs => ?_, fun s hs => ?_⟩
  · rw [q_tld_of (eo 0 (by omega))]; exact a0
  · rw [eo 0 (by omega)]; exact a1
  · rw [eo 1 (by omega)]; exact a2
  · rw [eo 2 (by omega)]; exact a3
  · rw [eo 3 (by omega)]; exact a4
  · rw [eo 4 (by omega)]; exact a5
  · rw [eo 5 (by omega)]; exact a6
  · rw [eo 6 (by omega)]; exact a7
  · rw [eo 7 (by omega)]; exact a8
  · rw [eo 2 (by omega)] at hs
    exact (h2 s hs).congr (hP.2.2.1 s (by omega)).1 (fun k k1 k2 => rfl) (fun i hi => eo i (by omega))
  · rw [eo 3 (by omega)] at hs
    exact (h3 s hs).congr (hP.2.2.1 (7 + s) (by omega)).1 (fun k k1 k2 => rfl) (fun i hi => eo i (by omega))
  · rw [eo 4 (by omega)] at hs
    exact (h4 s hs).congr (by omega) (hP.2.2.1 (10 + s) (by omega)).1 (fun k k1 k2 => rfl) (fun i hi => eo i (by omega)) (fun k hk => eo _ (by omega))
  · rw [eo 6 (by omega)] at hs
    exact (h6 s hs).congr (hR.2.2.2.2.2.1 s (by omega)).2.1.1 (hR.2.2.2.2.2.1 s (by omega)).2.2.1 (fun k k1 k2 => rfl) (fun i hi => eo i (by omega))
  · rw [eo 7 (by omega)] at hs
    exact (h7 s hs).congr (hR.2.2.2.2.2.2 s (by omega)).2.1.1 (hR.2.2.2.2.2.2 s (by omega)).2.2.1 (fun k k1 k2 => rfl) (fun i hi => eo i (by omega))
/-! THE ACT: a county is told -/
def q_bad (M : ZM) (e : Int × Int) : ZM := zset (zset (zset (zset M 124 2 0) 124 9 e.1) 124 10 e.2) 124 11 4
def q_cty (M : ZM) (ρ : Nat → Int) : ZM := fun a b => if a = 127 then (if b < 421 then ρ b else M 127 b) else if a = 129 then (if b < 18 then 0 else M 129 b) else if a = 124 then (if b = 2 ∨ b = 9 ∨ b = 11 ∨ b = 20 ∨ b = 21 then 0 else if b = 14 then 1 else M 124 b) else M a b
def ga_county (M : ZM) (v : Int) : Int × ZM := if v < 0 ∨ M 124 2 < v then (-1, zset M 124 11 2) else match q_parse (M 125) v.toNat with
  | .inl e => (-1, q_bad M e)
  | .inr ρ => (ρ 2, q_cty M ρ)
theorem WF.bad {M : ZM} (hF : WF M) {n : Nat} {e : Int × Int} (hn : n ≤ 900) (he : okE n e) : WF (q_bad M e) := by
  obtain ⟨a1, a2, a3, a4, a5, a6, a7, a8, a9, a10, a11, a12, a13, a14, a15⟩ := hF
  obtain ⟨e1, e2, e3, e4⟩ := he
  have k : ∀ x, x ≠ 124 → q_bad M e x = M x := fun x hx => by unfold q_bad; rw [zset_ne _ hx, zset_ne _ hx, zset_ne _ hx, zset_ne _ hx]
  have j : ∀ y, y ≠ 2 → y ≠ 9 → y ≠ 10 → y ≠ 11 → q_bad M e 124 y = M 124 y := fun y h1 h2 h3 h4 => by unfold q_bad; rw [zset_k h4, zset_k h3, zset_k h2, zset_k h1]
  have j2 : q_bad M e 124 2 = 0 := by unfold q_bad; rw [zset_k (by decide), zset_k (by decide), zset_k (by decide), zset_at]
  have j9 : q_bad M e 124 9 = e.1 := by unfold q_bad; rw [zset_k (by decide), zset_k (by decide), zset_at]
  have j10 : q_bad M e 124 10 = e.2 := by unfold q_bad; rw [zset_k (by decide), zset_at]
  have j11 : q_bad M e 124 11 = 4 := by unfold q_bad; rw [zset_at]
  unfold WF
  rw [k 125 (by decide), k 127 (by decide), k 129 (by decide), k 130 (by decide), k 131 (by decide), j2, j9, j10, j11, j 14 (by decide) (by decide) (by decide) (by decide), j 20 (by decide) (by decide) (by decide) (by decide), j 21 (by decide) (by decide) (by decide) (by decide)]
  exact ⟨by omega, a2, by omega, by omega, by omega, a6, a7, a8, a9, a10, a11, a12, a13, a14, a15⟩
theorem WF.cty {M : ZM} (hF : WF M) {ρ : Nat → Int} (hP : PI ρ) (h0 : ρ 0 ≠ 0) (h2 : ρ 2 ≠ 0) : WF (q_cty M ρ) := by
  obtain ⟨a1, a2, a3, a4, a5, a6, a7, a8, a9, a10, a11, a12, a13, a14, a15⟩ := hF
  have eo : ∀ i, i < 421 → q_cty M ρ 127 i = ρ i := fun i hi => by unfold q_cty; rw [if_pos rfl, if_pos hi]
  have hP' : PI (q_cty M ρ 127) := hP.congr eo
  have t0 : ∀ i, i < 18 → q_cty M ρ 129 i = 0 := fun i hi => by unfold q_cty; rw [if_neg (by decide), if_pos rfl, if_pos hi]
  have n2 := hP'.1.1
  have hR := hP'.1
  have e14 : q_cty M ρ 124 14 = 1 := rfl
  have e20 : q_cty M ρ 124 20 = 0 := rfl
  have e21 : q_cty M ρ 124 21 = 0 := rfl
  refine ⟨by show (0 : Int) ≤ 0 ∧ (0 : Int) ≤ 900; omega, a2, by show (0 : Int) ≤ 0 ∧ (0 : Int) ≤ 6; omega, by show (0 : Int) ≤ 0 ∧ (0 : Int) ≤ 7; omega, a5, Or.inr rfl, hR, fun h => (by rw [e14] at h; cases h), fun _ => hP'.one (by rw [eo 0 (by omega)]; exact h0) (by rw [eo 2 (by omega)]; exact h2), ?_, by rw [e20]; omega, fun j hj => by rw [e20] at hj; omega, by rw [e21]; omega, fun j hj => by rw [e21] at hj; omega, fun h => (by rw [e14] at h; cases h)⟩
  have n3 := n2 3 (by omega)
  refine ⟨fun i hi => by rw [t0 i hi]; exact Int.le_refl 0, fun s hs => ?_, ?_, ?_, ?_, ?_, fun x hx => ?_⟩
  · rw [t0 s (by omega), t0 (7 + s) (by omega), t0 15 (by omega)]
    omega
  · rw [t0 14 (by omega)]
    have k : (0 : Nat) < 2 ^ (q_cty M ρ 127 4).toNat := Nat.two_pow_pos _
    exact_mod_cast k
  · rw [t0 15 (by omega)]; omega
  · rw [t0 16 (by omega)]; omega
  · rw [t0 17 (by omega)]; omega
  · have k : ∀ m, m ≤ 7 → q_sum (fun s => if q_cty M ρ 129 (7 + s) = (x : Int) + 1 then 1 else 0) m = 0 := by
      intro m
      induction m with
      | zero => intro _; rfl
      | succ m ih =>
        intro hm
        show q_sum _ m + _ = 0
        rw [ih (by omega)]
        show 0 + (if q_cty M ρ 129 (7 + m) = (x : Int) + 1 then 1 else 0) = 0
        rw [t0 (7 + m) (by omega), if_neg (by omega)]
    rw [k 7 (by omega)]
    exact n2 _ (by have := hR.2.1; omega)
theorem WF.county {M : ZM} (hF : WF M) (v : Int) : WF (ga_county M v).2 := by
  unfold ga_county
  by_cases h : v < 0 ∨ M 124 2 < v
  · rw [if_pos h]
    exact WF.tr hF (by decide) (by decide)
  · rw [if_neg h]
    have h1 := hF.1
    cases hq : q_parse (M 125) v.toNat with
    | inl e => exact WF.bad hF (by omega) (q_parse_bad hq)
    | inr ρ =>
      obtain ⟨k1, k2, k3⟩ := q_parse_PI hq
      exact WF.cty hF k1 k2 k3
