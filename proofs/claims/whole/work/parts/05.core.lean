/-! THE PURE STATE: numbers are integers, a reference is the number of its cell, the heap is a table of integers by cell and place. 'zGo' says of such a state, at a pc of a method, that the machine comes from it to the method's end with an outcome. -/
abbrev ZV : Type := Int ⊕ (Int ⊕ Int)
abbrev zi (n : Int) : ZV := Sum.inl n
abbrev zl (n : Int) : ZV := Sum.inr (Sum.inl n)
abbrev zr (n : Int) : ZV := Sum.inr (Sum.inr n)
abbrev ZM : Type := Nat → Nat → Int
/-- where the cells begin; class numbers; classes of rows; addresses of the String constants (from 1000 on of their rows; 2000: the formatter); one more -/
abbrev ZX : Type := Nat × va_G × (Nat → ClassId) × (Nat → Nat) × (Nat → Nat)
/-- a method: its class, bytes, locals, what it returns, its name -/
abbrev ZT : Type := String × ByteArray × Nat × Option FieldType × String
def w32 (n : Int) : Int := (Int32.ofInt n).toInt
def w64 (n : Int) : Int := (Int64.ofInt n).toInt
def pz_A (X : ZX) : Nat → Prop := fun q => X.1 ≤ q
def pz_adr (X : ZX) (z : Int) : Nat := if z < 1000 then X.1 + z.toNat else X.2.2.2.1 (z.toNat - 1000)
def pz_val (X : ZX) (v : ZV) : Value := match v with
  | .inl n => .int (Int32.ofInt n)
  | .inr (.inl n) => .long (Int64.ofInt n)
  | .inr (.inr z) => if z < 0 then .null else .ref (pz_adr X z)
def pz_tag (t : Nat) (z : Int) : ZV := match t with
  | 0 => zi z
  | 1 => zl z
  | _ => zr z
def pz_fvs (X : ZX) : List Nat → Nat → (Nat → Int) → List Value
  | [], _, _ => []
  | t :: l, i, f => pz_val X (pz_tag t (f i)) :: pz_fvs X l (i + 1) f
def pz_arr (X : ZX) (t : Nat) (f : Nat → Int) : ((Nat → Int32) ⊕ (Nat → Int64) ⊕ (Nat → UInt32) ⊕ (Nat → UInt64) ⊕ (Nat → Option Nat)) := match t with
  | 2 => .inr (.inl (fun i => Int64.ofInt (f i)))
  | 3 => .inr (.inr (.inr (.inr (fun i => if f i < 0 then none else some (pz_adr X (f i))))))
  | _ => .inl (fun i => Int32.ofInt (f i))
def pz_cell (X : ZX) (M : ZM) (c : Nat) : va_E := match zTT[c]? with
  | some (.inl ci) => .inr (ci, pz_fvs X (zft.getD ci []) 0 (M c))
  | some (.inr q) => .inl (X.2.2.1 q.1, q.2, pz_arr X q.1 (M c))
  | none => .inr (0, [])
def pz_ws (X : ZX) (n : Nat) (M : ZM) : va_W := (List.range n).map (fun c => (X.1 + c, pz_cell X M c))
def zset (M : ZM) (c i : Nat) (v : Int) : ZM := fun a b => if a = c then (if b = i then v else M a b) else M a b
def pz_tys (X : ZX) : List (ClassId × FieldType) := [(X.2.2.1 0, .int), (X.2.2.1 1, .byte), (X.2.2.1 2, .long), (X.2.2.1 3, .object "SleepWords$Now"), (X.2.2.1 4, .boolean)]
def pz_csz (q : Nat ⊕ (Nat × Nat)) : Nat := match q with
  | .inl ci => (zft.getD ci []).length
  | .inr q => q.2
/-- slots of the first n cells -/
def pz_ss (n : Nat) : Nat := ((zTT.take n).map pz_csz).sum
/-- what a new cell holds -/
def pz_new (q : Nat ⊕ (Nat × Nat)) (b : Nat) : Int := match q with
  | .inl ci => if (zft.getD ci [])[b]? = some 2 then -1 else 0
  | .inr q => if q.1 = 3 then -1 else 0
def znew (M : ZM) (n : Nat) (q : Nat ⊕ (Nat × Nat)) : ZM := fun a b => if a = n then pz_new q b else M a b
/-- the heap holds the first n cells, as M has them; while cells are still to be made, the heap ends with them -/
def pz_rel (X : ZX) (n : Nat) (M : ZM) (H : Heap) : Prop := va_P X.2.1 vwCl (pz_ws X n M) H ∧ (n < zTT.length → H.size = X.1 + n)
def pz_str (X : ZX) (U : State) : Prop := ∀ (i : Nat) (q : String × Nat × String), zstr[i]? = some q → vk_R q.1 q.2.1 q.2.2 (X.2.2.2.1 i) U ∧ va_O "java/lang/String" (X.2.2.2.1 i) (pz_A X) U U.heap ∧ va_OF "java/lang/String" "code\x72" "B" (.int 0) (X.2.2.2.1 i) (pz_A X) U U.heap ∧ va_OF "java/lang/String" "value" "[B" (.ref (X.2.2.2.1 (1000 + i))) (X.2.2.2.1 i) (pz_A X) U U.heap ∧ va_T .byte (X.2.2.2.1 (1000 + i)) (zbyt.getD i []).length (fun j => .int ((zbyt.getD i []).getD j 0)) (pz_A X) U U.heap
/-- the formatter: null, or at its address -/
def pz_fm (X : ZX) : Int := if X.2.2.2.2 0 = 0 then -1 else 1000 + ((2000 : Nat) : Int)
def pz_env (X : ZX) (U : State) : Prop := va_K X.2.1 vwCl (pz_tys X) U ∧ X.1 ≤ U.heap.size ∧ (∀ (a : String) (i : Nat) (y : MethodName) (h : String), Cond.methodLinkNest a i y h ∈ lw_tbl → va_Nw (.methodLinkNest a i y h) U) ∧ pz_str X U ∧ va_Z "java/lang/String" "COMPACT_STRINGS" "Z" (.int 1) (pz_A X) U U.heap ∧ va_Z "jdk/internal/util/Preconditions" "SIOOBE_FORMATTER" "Ljava/util/function/BiFunction;" (pz_val X (zr (pz_fm X))) (pz_A X) U U.heap ∧ va_AO "SleepWords$Now" U
def pz_bd (X : ZX) (mt : ZT) (p : Program) (s : State) (m : MethodId) (args : Array Value) (meth : Method) (c : Code) : Prop :=
  p.tables.exec = Jvm.exec ∧ c.code = mt.2.1 ∧ meth.sig.returnType = mt.2.2.2.1 ∧ meth.locks = false ∧ c.maxLocals = mt.2.2.1 ∧ s.vm.findClass mt.1 = some m.cls ∧ (∀ w ∈ lwg, w.before args s = true) ∧ pz_env X s ∧ meth.name = mt.2.2.2.2
def pz_L (X : ZX) (ls : Array Slot) (nL : Nat) (L : List (Option ZV)) : Prop := ls.size = nL ∧ lv_wf ls ∧ L.length = nL ∧ ∀ (i : Nat) (v : ZV), L[i]? = some (some v) → ls[i]? = some (.val (pz_val X v))
abbrev ZO : Type := Option ZV × Nat × ZM
def pz_Q (X : ZX) (out : ZO) : Array Value → State → Outcome → State → Prop := match out.1 with
  | none => va_Qv (fun _ : Unit => True) (fun _ t => pz_rel X out.2.1 out.2.2 t.heap) (pz_A X)
  | some (.inl r) => va_Qi (fun x (_ : Unit) => x = Int32.ofInt r) (fun _ t => pz_rel X out.2.1 out.2.2 t.heap) (pz_A X)
  | some (.inr (.inl r)) => va_Ql (fun x (_ : Unit) => x = Int64.ofInt r) (fun _ t => pz_rel X out.2.1 out.2.2 t.heap) (pz_A X)
  | some (.inr (.inr _)) => fun _ _ _ _ => False
def pz_rm (d c s : Nat) : Room := { frames := d, cells := c, slots := s, locals := 60 * d }
/-- from this pure state, at pc of the method mt, the machine comes to the method's end with the outcome -/
def zGo (l : Launch) (X : ZX) (d : Nat) (mt : ZT) (pc : Nat) (L : List (Option ZV)) (S : List ZV) (n : Nat) (M : ZM) (out : ZO) : Prop :=
  ∀ (p : Program) (e : Env) (s : State) (m : MethodId) (args : Array Value) (below : List Frame) (meth : Method) (c : Code), pz_bd X mt p s m args meth c →
  ∀ (n0 : Nat) (H : Heap) (locs : List Loc) (ls : Array Slot), n0 ≤ n → (n ≤ out.2.1 ∧ (n0 < zTT.length → s.heap.size = X.1 + n0)) → va_P X.2.1 vwCl (pz_ws X n M) H → va_S (pz_A X) s.heap H locs → pz_L X ls mt.2.2.1 L →
  W p l e (pz_rm d (out.2.1 - n0) (pz_ss out.2.1 - pz_ss n0)) s m args below meth c H locs (n - n0) (pz_ss n - pz_ss n0) (MQ below (pz_Q X out) args s (out.2.1 - n0) (pz_ss out.2.1 - pz_ss n0) (pz_A X)) (F0 m pc ls (S.map (pz_val X)))
/-- a method's contract in these words -/
def zMet (l : Launch) (X : ZX) (d : Nat) (y : MethodName) (mt : ZT) (av : List ZV) (n : Nat) (M : ZM) (out : ZO) : Prop :=
  n ≤ out.2.1 ∧ Met l y (Cond.code y mt.2.1 mt.2.2.1 mt.2.2.2.1 :: lwg) (pz_rm d (out.2.1 - n) (pz_ss out.2.1 - pz_ss n)) (va_Pc (av.map (pz_val X)) (fun U => pz_env X U ∧ pz_rel X n M U.heap)) (pz_Q X out) (out.2.1 - n) (pz_ss out.2.1 - pz_ss n) (pz_A X)
/-! lemmas of the words -/
theorem w32_id {n : Int} (h1 : -2147483648 ≤ n) (h2 : n < 2147483648) : w32 n = n := by
  unfold w32
  rw [Int32.toInt_ofInt]
  have e : ((Int32.size : Nat) : Int) = 4294967296 := rfl
  exact Int.bmod_eq_of_le (by omega) (by omega)
theorem w64_id {n : Int} (h1 : -9223372036854775808 ≤ n) (h2 : n < 9223372036854775808) : w64 n = n := by
  unfold w64
  rw [Int64.toInt_ofInt]
  have e : ((Int64.size : Nat) : Int) = 18446744073709551616 := rfl
  exact Int.bmod_eq_of_le (by omega) (by omega)
theorem pz_ofw32 (n : Int) : Int32.ofInt (w32 n) = Int32.ofInt n := Int32.ofInt_toInt _
theorem pz_ofw64 (n : Int) : Int64.ofInt (w64 n) = Int64.ofInt n := Int64.ofInt_toInt _
theorem pz_ws_get (X : ZX) {n : Nat} (M : ZM) {c : Nat} (h : c < n) : (pz_ws X n M)[c]? = some (X.1 + c, pz_cell X M c) := by
  simp [pz_ws, h]
theorem pz_ws_get' {X : ZX} {n : Nat} {M : ZM} {c : Nat} {q : Nat × va_E} (h : (pz_ws X n M)[c]? = some q) : c < n ∧ q = (X.1 + c, pz_cell X M c) := by
  by_cases hc : c < n
  · rw [pz_ws_get X M hc] at h
    exact ⟨hc, (Option.some.inj h).symm⟩
  · have : (pz_ws X n M)[c]? = none := by
      rw [List.getElem?_eq_none_iff]
      simp [pz_ws]
      omega
    rw [this] at h
    cases h
theorem pz_D (X : ZX) (n : Nat) (M : ZM) : va_D (pz_A X) (pz_ws X n M) := by
  refine ⟨fun i j p q hp hq e => ?_, fun k q hq => ?_⟩
  · obtain ⟨-, rfl⟩ := pz_ws_get' hp
    obtain ⟨-, rfl⟩ := pz_ws_get' hq
    have e : X.1 + i = X.1 + j := e
    omega
  · obtain ⟨-, rfl⟩ := pz_ws_get' hq
    show X.1 ≤ X.1 + k
    omega
theorem pz_ws_set (X : ZX) {n : Nat} {M M' : ZM} {c : Nat} {e : va_E} (h : c < n) (hM : ∀ a, a ≠ c → M' a = M a) (he : e = pz_cell X M' c) : (pz_ws X n M).set c (X.1 + c, e) = pz_ws X n M' := by
  apply List.ext_getElem?
  intro i
  by_cases hi : i < n
  · rw [pz_ws_get X M' hi, List.getElem?_set]
    by_cases hic : c = i
    · subst hic
      have : c < (pz_ws X n M).length := by simp [pz_ws, h]
      rw [if_pos rfl, if_pos this, he]
    · rw [if_neg hic, pz_ws_get X M hi]
      have : pz_cell X M i = pz_cell X M' i := by
        unfold pz_cell
        rw [hM i (fun e => hic e.symm)]
      rw [this]
  · rw [List.getElem?_eq_none_iff.mpr (by simp [pz_ws]; omega), List.getElem?_eq_none_iff.mpr (by simp [pz_ws]; omega)]
theorem pz_fvs_get (X : ZX) : ∀ (l : List Nat) (i k : Nat) (f : Nat → Int), (pz_fvs X l i f)[k]? = (l[k]?).map (fun t => pz_val X (pz_tag t (f (i + k)))) := by
  intro l
  induction l with
  | nil => intro i k f; simp [pz_fvs]
  | cons t l ih =>
    intro i k f
    cases k with
    | zero => simp [pz_fvs]
    | succ k =>
      simp only [pz_fvs, List.getElem?_cons_succ]
      rw [ih, show i + 1 + k = i + (k + 1) by omega]
theorem pz_fvs_len (X : ZX) : ∀ (l : List Nat) (i : Nat) (f : Nat → Int), (pz_fvs X l i f).length = l.length := by
  intro l
  induction l with
  | nil => intro i f; rfl
  | cons t l ih => intro i f; simp [pz_fvs, ih]
theorem pz_fvs_congr (X : ZX) : ∀ (l : List Nat) (i : Nat) (f g : Nat → Int), (∀ j, i ≤ j → f j = g j) → pz_fvs X l i f = pz_fvs X l i g := by
  intro l
  induction l with
  | nil => intro i f g _; rfl
  | cons t l ih =>
    intro i f g h
    simp only [pz_fvs]
    rw [h i (Nat.le_refl i), ih (i + 1) f g (fun j hj => h j (by omega))]
theorem pz_fvs_set (X : ZX) : ∀ (l : List Nat) (i k t : Nat) (f : Nat → Int) (v : Int), l[k]? = some t → (pz_fvs X l i f).set k (pz_val X (pz_tag t v)) = pz_fvs X l i (fun b => if b = i + k then v else f b) := by
  intro l
  induction l with
  | nil => intro i k t f v h; simp at h
  | cons t0 l ih =>
    intro i k t f v h
    cases k with
    | zero =>
      simp only [List.getElem?_cons_zero, Option.some.injEq] at h
      subst h
      simp only [pz_fvs, List.set_cons_zero, Nat.add_zero]
      rw [if_pos trivial, pz_fvs_congr X l (i + 1) (fun b => if b = i then v else f b) f (fun j hj => if_neg (by omega))]
    | succ k =>
      simp only [List.getElem?_cons_succ] at h
      simp only [pz_fvs, List.set_cons_succ]
      rw [ih (i + 1) k t f v h, if_neg (by omega : ¬ i = i + (k + 1)), show i + 1 + k = i + (k + 1) by omega]
theorem pz_cell_o (X : ZX) (M : ZM) {c ci : Nat} (h : zTT[c]? = some (.inl ci)) : pz_cell X M c = .inr (ci, pz_fvs X (zft.getD ci []) 0 (M c)) := by
  unfold pz_cell
  rw [h]
theorem pz_cell_a (X : ZX) (M : ZM) {c : Nat} {q : Nat × Nat} (h : zTT[c]? = some (.inr q)) : pz_cell X M c = .inl (X.2.2.1 q.1, q.2, pz_arr X q.1 (M c)) := by
  unfold pz_cell
  rw [h]
theorem zset_ne (M : ZM) {c i : Nat} {v : Int} {a : Nat} (h : a ≠ c) : zset M c i v a = M a := by
  funext b
  unfold zset
  rw [if_neg h]
theorem zset_row (M : ZM) (c i : Nat) (v : Int) : zset M c i v c = fun b => if b = i then v else M c b := by
  funext b
  unfold zset
  rw [if_pos rfl]
theorem pz_ws_o (X : ZX) {n : Nat} (M : ZM) {c ci k t : Nat} (v : Int) (hn : c < n) (h : zTT[c]? = some (.inl ci)) (ht : (zft.getD ci [])[k]? = some t) : (pz_ws X n M).set c (X.1 + c, .inr (ci, (pz_fvs X (zft.getD ci []) 0 (M c)).set k (pz_val X (pz_tag t v)))) = pz_ws X n (zset M c k v) := by
  refine pz_ws_set X hn (fun a ha => zset_ne M ha) ?_
  rw [pz_cell_o X _ h, pz_fvs_set X _ 0 k t (M c) v ht, zset_row, Nat.zero_add]
theorem pz_clamp {z : Int} (h0 : 0 ≤ z) (h1 : z < 2147483648) : (Int32.ofInt z).toNatClampNeg = z.toNat := by
  show (Int32.ofInt z).toInt.toNat = z.toNat
  have := w32_id (n := z) (by omega) h1
  unfold w32 at this
  rw [this]
theorem pz_in {z : Int} {n : Nat} (h0 : 0 ≤ z) (h1 : z < (n : Int)) (hn : n < 2147483648) : vp_in (Int32.ofInt z) n := by
  have hz := w32_id (n := z) (by omega) (by omega)
  unfold w32 at hz
  unfold vp_in
  rw [pz_clamp h0 (by omega)]
  intro h
  rcases h with h | h
  · have := Int32.lt_iff_toInt_lt.mp h
    rw [hz] at this
    have e0 : (0 : Int32).toInt = 0 := rfl
    omega
  · omega
theorem pz_low {X : ZX} {n : Nat} {M : ZM} {H : Heap} (hP : va_P X.2.1 vwCl (pz_ws X n M) H) (h0 : X.1 ≤ H.size) : X.1 + n ≤ H.size := by
  cases n with
  | zero => exact h0
  | succ n =>
    have := (hP n _ (pz_ws_get X M (Nat.lt_succ_self n))).lt
    have h2 : X.1 + n < H.size := this
    omega
theorem pz_sz {p : Program} {l : Launch} {e : Env} {R : Room} {s : State} {m : MethodId} {args : Array Value} {below : List Frame} {meth : Method} {c : Code} {H : Heap} {locs : List Loc} {cells slots : Nat} {Q : State → Prop} {g : JFrame} (k : H.size ≤ s.heap.size + cells → W p l e R s m args below meth c H locs cells slots Q g) : W p l e R s m args below meth c H locs cells slots Q g := by
  intro T hT X
  have h : T.heap.size ≤ s.heap.size + cells := X.same.2.2.1
  rw [hT] at h
  exact k h T hT X
theorem pz_relOf {X : ZX} {n n0 : Nat} {M : ZM} {s : State} {H : Heap} {locs : List Loc} (h1 : n0 ≤ n) (hz : n0 < zTT.length → s.heap.size = X.1 + n0) (hP : va_P X.2.1 vwCl (pz_ws X n M) H) (h0 : X.1 ≤ s.heap.size) (hS : va_S (pz_A X) s.heap H locs) (hsz : H.size ≤ s.heap.size + (n - n0)) : pz_rel X n M H := by
  refine ⟨hP, fun hlt => ?_⟩
  have a1 := hz (by omega)
  have a2 := pz_low hP (Nat.le_trans h0 hS.1)
  omega
