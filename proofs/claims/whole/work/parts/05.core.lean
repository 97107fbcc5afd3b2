/-! THE PURE PICTURE: all objects that the claim makes, in the order in which they are made; pointer p is the address base + p.
pI: int contents (fields and elements), pR: reference contents, pS: a shape for each pointer: (0, class) an object, (k, n) an array of kind k and length n. -/
abbrev pE : Type := Program × Launch × Env × Room × State × MethodId × Array Value × List Frame × Method × Code × (State → Prop)
abbrev pB : Type := Nat × va_G × (Nat → ClassId)
abbrev pI : Type := Nat → Nat → Int32
abbrev pR : Type := Nat → Nat → Option Nat
abbrev pS : Type := List (Nat × Nat)
/-- a pointer's address; '.retAddr k' stands for a cell that is none of ours: 0 the text of the other characters, 1 its bytes, 2 the script -/
def pw_tr (b : pB) : Value → Value
  | .ref p => .ref (b.1 + p)
  | .retAddr k => .ref (b.2.2 (100 + k))
  | v => v
def pw_wI (I : pI) (p k : Nat) (v : Int32) : pI := fun p' => if p' = p then upd (I p) k v else I p'
def pw_wR (R : pR) (p k : Nat) (v : Option Nat) : pR := fun p' => if p' = p then va_up (R p) k v else R p'
theorem pw_tr_cat (b : pB) (v : Value) : (pw_tr b v).category = v.category := by cases v <;> rfl
theorem pw_wI_ne {I : pI} {p k p' : Nat} {v : Int32} (h : p' ≠ p) : pw_wI I p k v p' = I p' := by simp [pw_wI, h]
theorem pw_wI_eq {I : pI} {p k : Nat} {v : Int32} : pw_wI I p k v p = upd (I p) k v := by simp [pw_wI]
theorem pw_wR_ne {R : pR} {p k p' : Nat} {v : Option Nat} (h : p' ≠ p) : pw_wR R p k v p' = R p' := by simp [pw_wR, h]
theorem pw_wR_eq {R : pR} {p k : Nat} {v : Option Nat} : pw_wR R p k v p = va_up (R p) k v := by simp [pw_wR]
def pw_n (ci : Nat) : Nat := match vwCl[ci]? with
  | some q => q.2.2
  | none => 0
def pw_fld (b : Nat) (I : pI) (R : pR) (p ci k : Nat) : Value := if pw_isR ci k = true then va_rf ((R p k).map (b + ·)) else .int (I p k)
def pw_fs (b : Nat) (I : pI) (R : pR) (p ci : Nat) : List Value := (List.range (pw_n ci)).map (pw_fld b I R p ci)
def pw_cell (B : pB) (I : pI) (R : pR) (p : Nat) (q : Nat × Nat) : va_E :=
  if q.1 = 0 then .inr (q.2, pw_fs B.1 I R p q.2)
  else if q.1 < 10 then .inl (B.2.2 q.1, (q.2, .inl (I p)))
  else .inl (B.2.2 q.1, (q.2, .inr (.inr (.inr (.inr (fun k => (R p k).map (B.1 + ·)))))))
def pw_ws (B : pB) (I : pI) (R : pR) (sh : pS) : va_W := sh.mapIdx (fun p q => (B.1 + p, pw_cell B I R p q))
theorem pw_ws_at {B : pB} {I : pI} {R : pR} {sh : pS} {p : Nat} {q : Nat × Nat} (h : sh[p]? = some q) : (pw_ws B I R sh)[p]? = some (B.1 + p, pw_cell B I R p q) := by
  simp [pw_ws, List.getElem?_mapIdx, h]
theorem pw_ws_of {B : pB} {I : pI} {R : pR} {sh : pS} {p : Nat} {x : Nat × va_E} (h : (pw_ws B I R sh)[p]? = some x) : ∃ q, sh[p]? = some q ∧ x = (B.1 + p, pw_cell B I R p q) := by
  simp only [pw_ws, List.getElem?_mapIdx] at h
  cases hs : sh[p]? with
  | none => rw [hs] at h; cases h
  | some q => rw [hs] at h; exact ⟨q, rfl, (Option.some.inj h).symm⟩
theorem pw_ws_D (B : pB) (I : pI) (R : pR) (sh : pS) : va_D (fun q => B.1 ≤ q) (pw_ws B I R sh) := by
  refine ⟨fun i j p q hi hj hpq => ?_, fun k q hk => ?_⟩
  · obtain ⟨a, -, rfl⟩ := pw_ws_of hi
    obtain ⟨c, -, rfl⟩ := pw_ws_of hj
    exact Nat.add_left_cancel hpq
  · obtain ⟨a, -, rfl⟩ := pw_ws_of hk
    exact Nat.le_add_right _ _
/-- one cell written: the list is the written picture's -/
theorem pw_ws_set {B : pB} {I I' : pI} {R R' : pR} {sh : pS} {p : Nat} {q : Nat × Nat} (h : sh[p]? = some q) (hI : ∀ p', p' ≠ p → I' p' = I p') (hR : ∀ p', p' ≠ p → R' p' = R p') :
    (pw_ws B I R sh).set p (B.1 + p, pw_cell B I' R' p q) = pw_ws B I' R' sh := by
  have hl : p < sh.length := (List.getElem?_eq_some_iff.mp h).1
  have hl2 : p < (pw_ws B I R sh).length := by simp [pw_ws]; exact hl
  apply List.ext_getElem?
  intro j
  by_cases hj : j = p
  · subst hj
    rw [List.getElem?_set_self hl2, pw_ws_at h]
  · rw [List.getElem?_set_ne (Ne.symm hj)]
    simp only [pw_ws, List.getElem?_mapIdx]
    cases hs : sh[j]? with
    | none => rfl
    | some x =>
      have e1 := hI j hj
      have e2 := hR j hj
      have e3 : ∀ ci, pw_fld B.1 I' R' j ci = pw_fld B.1 I R j ci := fun ci => by funext k; simp [pw_fld, e1, e2]
      simp [pw_cell, pw_fs, e1, e2, e3]
/-- the locals: a list of places, each with its value where it has one -/
def pw_lv (b : pB) : Nat → List (Option Value) → List (Nat × Value)
  | _, [] => []
  | i, none :: t => pw_lv b (i + 1) t
  | i, some v :: t => (i, pw_tr b v) :: pw_lv b (i + 1) t
theorem pw_lv_mem {b : pB} : ∀ {L : List (Option Value)} {i : Nat} {q : Nat × Value}, q ∈ pw_lv b i L ↔ ∃ (j : Nat) (v : Value), L[j]? = some (some v) ∧ q = (i + j, pw_tr b v)
  | [], i, q => by simp [pw_lv]
  | none :: t, i, q => by
    rw [pw_lv, pw_lv_mem]
    constructor
    · rintro ⟨j, v, h1, h2⟩
      exact ⟨j + 1, v, by simpa using h1, by rw [h2]; congr 1; omega⟩
    · rintro ⟨j, v, h1, h2⟩
      cases j with
      | zero => simp at h1
      | succ j => exact ⟨j, v, by simpa using h1, by rw [h2]; congr 1; omega⟩
  | some w :: t, i, q => by
    rw [pw_lv, List.mem_cons, pw_lv_mem]
    constructor
    · rintro (h | ⟨j, v, h1, h2⟩)
      · exact ⟨0, w, rfl, h⟩
      · exact ⟨j + 1, v, by simpa using h1, by rw [h2]; congr 1; omega⟩
    · rintro ⟨j, v, h1, h2⟩
      cases j with
      | zero => simp at h1; subst h1; exact Or.inl h2
      | succ j => exact Or.inr ⟨j, v, by simpa using h1, by rw [h2]; congr 1; omega⟩
theorem pw_lv_get {b : pB} {nL : Nat} {ls : Array Slot} {L : List (Option Value)} (h : lv_has ls nL (pw_lv b 0 L)) {i : Nat} {v : Value} (hi : L[i]? = some (some v)) : ls[i]? = some (.val (pw_tr b v)) :=
  h.2.2 (i, pw_tr b v) (pw_lv_mem.mpr ⟨i, v, hi, by rw [Nat.zero_add]⟩)
/-- a place may be written unless a long's second half lies there -/
def pw_ok (L : List (Option Value)) (i : Nat) : Bool := match i with
  | 0 => true
  | j + 1 => match L[j]? with
    | some (some v) => v.category == 1
    | _ => true
theorem pw_lv_set {b : pB} {nL : Nat} {ls : Array Slot} {L : List (Option Value)} {i : Nat} {v w : Value} (hw : w = pw_tr b v) (ho : pw_ok L i = true) (h : lv_has ls nL ((i, w) :: (pw_lv b 0 L).filter (fun q => !(q.1 == i) && !(q.1 + 1 == i && q.2.category == 2)))) : lv_has ls nL (pw_lv b 0 (L.set i (some v))) := by
  subst hw
  refine ⟨h.1, h.2.1, fun q hq => h.2.2 q ?_⟩
  obtain ⟨j, x, h1, h2⟩ := pw_lv_mem.mp hq
  rw [Nat.zero_add] at h2
  subst h2
  by_cases hj : j = i
  · subst hj
    have hl : j < (L.set j (some v)).length := (List.getElem?_eq_some_iff.mp h1).1
    rw [List.length_set] at hl
    rw [List.getElem?_set_self hl] at h1
    cases h1
    exact List.mem_cons_self
  · rw [List.getElem?_set_ne (Ne.symm hj)] at h1
    refine List.mem_cons_of_mem _ (List.mem_filter.mpr ⟨pw_lv_mem.mpr ⟨j, x, h1, by rw [Nat.zero_add]⟩, ?_⟩)
    have a1 : (j == i) = false := by simpa using hj
    have a2 : (j + 1 == i && (pw_tr b x).category == 2) = false := by
      by_cases e : j + 1 = i
      · subst e
        simp only [pw_ok, h1] at ho
        rw [pw_tr_cat]
        simp only [beq_iff_eq] at ho
        rw [ho]
        simp
      · have : (j + 1 == i) = false := by simpa using e
        rw [this]; rfl
    simp [a1, a2]
/-- what is given of the JDK: the text of the other characters, and that strings are compact -/
def pw_tx : String := " GWTECDMNOX()+-*/%<>=!&|,;:_"
def pw_by : List Int32 := [32, 71, 87, 84, 69, 67, 68, 77, 78, 79, 88, 40, 41, 43, 45, 42, 47, 37, 60, 62, 61, 33, 38, 124, 44, 59, 58, 95]
def pw_jd (B : pB) (U : State) : Prop := vk_R "SpecRunner" 159 pw_tx (B.2.2 100) U ∧ vk_S 1 [28] [pw_by] (fun _ => B.2.2 100) (fun _ => B.2.2 101) (fun q => B.1 ≤ q) U U.heap ∧ va_Z "java/lang/String" "COMPACT_STRINGS" "Z" (.int 1) (fun q => B.1 ≤ q) U U.heap ∧ va_AO "SpecRunner$Outcome" U
theorem pw_jd_to {B : pB} {s U : State} (h : pw_jd B s) (hW : s.WarmedH U.vm) (hk : ∀ q : Nat, q < s.heap.size → ¬ B.1 ≤ q → U.heap[q]? = s.heap[q]?) : pw_jd B U := by
  obtain ⟨h1, h2, h3, h4⟩ := h
  exact ⟨vk_R.warm hW h1, (vk_S.moved hW.alike h2).kept hk, (va_Z.moved hW.alike h3).kept hk, va_AO.moved hW.alike h4⟩
theorem pw_jd_same {B : pB} {u U : State} (hv : U.vm = u.vm) (hh : U.heap = u.heap) (h : pw_jd B u) : pw_jd B U := by
  obtain ⟨h1, h2, h3, h4⟩ := h
  have hal : u.vm.Alike U.vm := by rw [hv]; exact Vm.Alike.refl _
  refine ⟨vk_R.same hv h1, ?_, ?_, va_AO.moved hal h4⟩
  · rw [hh]; exact vk_S.moved hal h2
  · rw [hh]; exact va_Z.moved hal h3
/-- what holds of a method's frame, whatever it does: the machine, its code, the tables' words, the numbers of the classes and of the arrays' classes, the room -/
def pw_G (y : pM) (d mc ms : Nat) (E : pE) (B : pB) : Prop := (E.1.tables.exec = Jvm.exec) ∧ (E.2.2.2.2.2.2.2.2.2.1.code = y.2.1) ∧ (E.2.2.2.2.2.2.2.2.2.1.maxLocals = y.2.2.1) ∧ (E.2.2.2.2.2.2.2.2.1.sig.returnType = y.2.2.2) ∧ (E.2.2.2.2.1.vm.findClass y.1.cls = some E.2.2.2.2.2.1.cls) ∧ (∀ w ∈ pw_GW, w.before E.2.2.2.2.2.2.1 E.2.2.2.2.1 = true) ∧ (E.2.2.2.2.2.2.2.2.1.locks = false) ∧ (y.1.name = "<init>" → E.2.2.2.2.2.2.2.2.1.name = y.1.name) ∧ (va_K B.2.1 vwCl (pw_tys B) E.2.2.2.2.1) ∧ (∀ w ∈ pw_NW, va_Nw w E.2.2.2.2.1) ∧ (B.1 ≤ E.2.2.2.2.1.heap.size) ∧ (d ≤ E.2.2.2.1.frames) ∧ (80 * d ≤ E.2.2.2.1.locals) ∧ (mc ≤ E.2.2.2.1.cells) ∧ (ms ≤ E.2.2.2.1.slots) ∧ (pw_jd B E.2.2.2.2.1)
theorem pw_G.exec {y : pM} {d mc ms : Nat} {E : pE} {B : pB} (g : pw_G y d mc ms E B) : E.1.tables.exec = Jvm.exec := g.1
theorem pw_G.bytes {y : pM} {d mc ms : Nat} {E : pE} {B : pB} (g : pw_G y d mc ms E B) : E.2.2.2.2.2.2.2.2.2.1.code = y.2.1 := g.2.1
theorem pw_G.maxl {y : pM} {d mc ms : Nat} {E : pE} {B : pB} (g : pw_G y d mc ms E B) : E.2.2.2.2.2.2.2.2.2.1.maxLocals = y.2.2.1 := g.2.2.1
theorem pw_G.ret {y : pM} {d mc ms : Nat} {E : pE} {B : pB} (g : pw_G y d mc ms E B) : E.2.2.2.2.2.2.2.2.1.sig.returnType = y.2.2.2 := g.2.2.2.1
theorem pw_G.own {y : pM} {d mc ms : Nat} {E : pE} {B : pB} (g : pw_G y d mc ms E B) : E.2.2.2.2.1.vm.findClass y.1.cls = some E.2.2.2.2.2.1.cls := g.2.2.2.2.1
theorem pw_G.words {y : pM} {d mc ms : Nat} {E : pE} {B : pB} (g : pw_G y d mc ms E B) : ∀ w ∈ pw_GW, w.before E.2.2.2.2.2.2.1 E.2.2.2.2.1 = true := g.2.2.2.2.2.1
theorem pw_G.lock {y : pM} {d mc ms : Nat} {E : pE} {B : pB} (g : pw_G y d mc ms E B) : E.2.2.2.2.2.2.2.2.1.locks = false := g.2.2.2.2.2.2.1
theorem pw_G.mname {y : pM} {d mc ms : Nat} {E : pE} {B : pB} (g : pw_G y d mc ms E B) : y.1.name = "<init>" → E.2.2.2.2.2.2.2.2.1.name = y.1.name := g.2.2.2.2.2.2.2.1
theorem pw_G.K {y : pM} {d mc ms : Nat} {E : pE} {B : pB} (g : pw_G y d mc ms E B) : va_K B.2.1 vwCl (pw_tys B) E.2.2.2.2.1 := g.2.2.2.2.2.2.2.2.1
theorem pw_G.nest {y : pM} {d mc ms : Nat} {E : pE} {B : pB} (g : pw_G y d mc ms E B) : ∀ w ∈ pw_NW, va_Nw w E.2.2.2.2.1 := g.2.2.2.2.2.2.2.2.2.1
theorem pw_G.low {y : pM} {d mc ms : Nat} {E : pE} {B : pB} (g : pw_G y d mc ms E B) : B.1 ≤ E.2.2.2.2.1.heap.size := g.2.2.2.2.2.2.2.2.2.2.1
theorem pw_G.frames {y : pM} {d mc ms : Nat} {E : pE} {B : pB} (g : pw_G y d mc ms E B) : d ≤ E.2.2.2.1.frames := g.2.2.2.2.2.2.2.2.2.2.2.1
theorem pw_G.locals {y : pM} {d mc ms : Nat} {E : pE} {B : pB} (g : pw_G y d mc ms E B) : 80 * d ≤ E.2.2.2.1.locals := g.2.2.2.2.2.2.2.2.2.2.2.2.1
theorem pw_G.cells {y : pM} {d mc ms : Nat} {E : pE} {B : pB} (g : pw_G y d mc ms E B) : mc ≤ E.2.2.2.1.cells := g.2.2.2.2.2.2.2.2.2.2.2.2.2.1
theorem pw_G.slots {y : pM} {d mc ms : Nat} {E : pE} {B : pB} (g : pw_G y d mc ms E B) : ms ≤ E.2.2.2.1.slots := g.2.2.2.2.2.2.2.2.2.2.2.2.2.2.1
theorem pw_G.jd {y : pM} {d mc ms : Nat} {E : pE} {B : pB} (g : pw_G y d mc ms E B) : pw_jd B E.2.2.2.2.1 := g.2.2.2.2.2.2.2.2.2.2.2.2.2.2.2
/-- the machine at pc with locals L, stack S and the picture I R sh, nc cells of ns slots yet to be made, comes to E's end -/
def PW (E : pE) (B : pB) (nL mc ms nc ns pc : Nat) (L : List (Option Value)) (S : List Value) (I : pI) (R : pR) (sh : pS) : Prop :=
  ∀ (H : Heap) (locs : List Loc) (ls : Array Slot) (cells slots : Nat), cells + nc = mc → slots + ns ≤ ms → va_P B.2.1 vwCl (pw_ws B I R sh) H → E.2.2.2.2.1.heap.size + cells = B.1 + sh.length → va_S (fun q => B.1 ≤ q) E.2.2.2.2.1.heap H locs → lv_has ls nL (pw_lv B 0 L) →
    W E.1 E.2.1 E.2.2.1 E.2.2.2.1 E.2.2.2.2.1 E.2.2.2.2.2.1 E.2.2.2.2.2.2.1 E.2.2.2.2.2.2.2.1 E.2.2.2.2.2.2.2.2.1 E.2.2.2.2.2.2.2.2.2.1 H locs cells slots E.2.2.2.2.2.2.2.2.2.2 (F0 E.2.2.2.2.2.1 pc ls (S.map (pw_tr B)))
section PWR
variable {y : pM} {d0 : Nat} {E : pE} {B : pB} {nL mc ms nc ns pc : Nat} {L : List (Option Value)} {S : List Value} {I : pI} {R : pR} {sh : pS}
theorem PW.iconst (g : pw_G y d0 mc ms E B) {n : Int} (v : Int32) (hv : Int32.ofInt n = v) (dg : decode y.2.1 pc = .ok (.iconst n, 1)) (k : PW E B nL mc ms nc ns (pc + 1) L (.int v :: S) I R sh) : PW E B nL mc ms nc ns pc L (S) I R sh :=
  fun H locs ls cells slots h1 h2 h3 h4 h5 h6 => lv_iconst g.1 g.2.1 dg hv (k H locs ls cells slots h1 h2 h3 h4 h5 h6)
theorem PW.bipush (g : pw_G y d0 mc ms E B) {n : Int} (v : Int32) (hv : (Int8.ofInt n).toInt32 = v) (dg : decode y.2.1 pc = .ok (.bipush n, 2)) (k : PW E B nL mc ms nc ns (pc + 2) L (.int v :: S) I R sh) : PW E B nL mc ms nc ns pc L (S) I R sh :=
  fun H locs ls cells slots h1 h2 h3 h4 h5 h6 => lv_bipush g.1 g.2.1 dg hv (k H locs ls cells slots h1 h2 h3 h4 h5 h6)
theorem PW.sipush (g : pw_G y d0 mc ms E B) {n : Int} (v : Int32) (hv : (Int16.ofInt n).toInt32 = v) (dg : decode y.2.1 pc = .ok (.sipush n, 3)) (k : PW E B nL mc ms nc ns (pc + 3) L (.int v :: S) I R sh) : PW E B nL mc ms nc ns pc L (S) I R sh :=
  fun H locs ls cells slots h1 h2 h3 h4 h5 h6 => lv_sipush g.1 g.2.1 dg hv (k H locs ls cells slots h1 h2 h3 h4 h5 h6)
theorem PW.aconst_null (g : pw_G y d0 mc ms E B)  (dg : decode y.2.1 pc = .ok (.aconst_null, 1)) (k : PW E B nL mc ms nc ns (pc + 1) L (.null :: S) I R sh) : PW E B nL mc ms nc ns pc L (S) I R sh :=
  fun H locs ls cells slots h1 h2 h3 h4 h5 h6 => lv_null g.1 g.2.1 dg (k H locs ls cells slots h1 h2 h3 h4 h5 h6)
theorem PW.ldc (g : pw_G y d0 mc ms E B) {n : Nat} (v : Int32) (hv : Cond.constant y.1.cls n v ∈ pw_GW) (dg : decode y.2.1 pc = .ok (.ldc n, 2)) (k : PW E B nL mc ms nc ns (pc + 2) L (.int v :: S) I R sh) : PW E B nL mc ms nc ns pc L (S) I R sh :=
  fun H locs ls cells slots h1 h2 h3 h4 h5 h6 => lv_ldc g.1 g.2.1 g.own (g.words _ hv) dg (k H locs ls cells slots h1 h2 h3 h4 h5 h6)
theorem PW.ldc2 (g : pw_G y d0 mc ms E B) {n : Nat} (v : Int64) (hv : Cond.constantLong y.1.cls n v ∈ pw_GW) (dg : decode y.2.1 pc = .ok (.ldc2_w n, 3)) (k : PW E B nL mc ms nc ns (pc + 3) L (.long v :: S) I R sh) : PW E B nL mc ms nc ns pc L (S) I R sh :=
  fun H locs ls cells slots h1 h2 h3 h4 h5 h6 => lv_ldc2 g.1 g.2.1 g.own (g.words _ hv) dg (k H locs ls cells slots h1 h2 h3 h4 h5 h6)
theorem PW.iload_n (g : pw_G y d0 mc ms E B) {n : Fin 4} {i : Nat} {x : Int32} (hi : (n : Nat) = i) (hl : L[i]? = some (some (.int x))) (dg : decode y.2.1 pc = .ok (.iload_n n, 1)) (k : PW E B nL mc ms nc ns (pc + 1) L (.int x :: S) I R sh) : PW E B nL mc ms nc ns pc L (S) I R sh :=
  fun H locs ls cells slots h1 h2 h3 h4 h5 h6 => lv_iload_n g.1 g.2.1 dg hi (pw_lv_get h6 hl) (k H locs ls cells slots h1 h2 h3 h4 h5 h6)
theorem PW.iload (g : pw_G y d0 mc ms E B) {i : Nat} {x : Int32} (hl : L[i]? = some (some (.int x))) (dg : decode y.2.1 pc = .ok (.iload i, 2)) (k : PW E B nL mc ms nc ns (pc + 2) L (.int x :: S) I R sh) : PW E B nL mc ms nc ns pc L (S) I R sh :=
  fun H locs ls cells slots h1 h2 h3 h4 h5 h6 => lv_iload g.1 g.2.1 dg (pw_lv_get h6 hl) (k H locs ls cells slots h1 h2 h3 h4 h5 h6)
theorem PW.lload_n (g : pw_G y d0 mc ms E B) {n : Fin 4} {i : Nat} {x : Int64} (hi : (n : Nat) = i) (hl : L[i]? = some (some (.long x))) (dg : decode y.2.1 pc = .ok (.lload_n n, 1)) (k : PW E B nL mc ms nc ns (pc + 1) L (.long x :: S) I R sh) : PW E B nL mc ms nc ns pc L (S) I R sh :=
  fun H locs ls cells slots h1 h2 h3 h4 h5 h6 => lv_lload_n g.1 g.2.1 dg hi (pw_lv_get h6 hl) (k H locs ls cells slots h1 h2 h3 h4 h5 h6)
theorem PW.lload (g : pw_G y d0 mc ms E B) {i : Nat} {x : Int64} (hl : L[i]? = some (some (.long x))) (dg : decode y.2.1 pc = .ok (.lload i, 2)) (k : PW E B nL mc ms nc ns (pc + 2) L (.long x :: S) I R sh) : PW E B nL mc ms nc ns pc L (S) I R sh :=
  fun H locs ls cells slots h1 h2 h3 h4 h5 h6 => lv_lload g.1 g.2.1 dg (pw_lv_get h6 hl) (k H locs ls cells slots h1 h2 h3 h4 h5 h6)
theorem PW.aload_n (g : pw_G y d0 mc ms E B) {n : Fin 4} {i : Nat} {x : Nat} (hi : (n : Nat) = i) (hl : L[i]? = some (some (.ref x))) (dg : decode y.2.1 pc = .ok (.aload_n n, 1)) (k : PW E B nL mc ms nc ns (pc + 1) L (.ref x :: S) I R sh) : PW E B nL mc ms nc ns pc L (S) I R sh :=
  fun H locs ls cells slots h1 h2 h3 h4 h5 h6 => lv_aload_n g.1 g.2.1 dg hi (pw_lv_get h6 hl) (k H locs ls cells slots h1 h2 h3 h4 h5 h6)
theorem PW.aload (g : pw_G y d0 mc ms E B) {i : Nat} {x : Nat} (hl : L[i]? = some (some (.ref x))) (dg : decode y.2.1 pc = .ok (.aload i, 2)) (k : PW E B nL mc ms nc ns (pc + 2) L (.ref x :: S) I R sh) : PW E B nL mc ms nc ns pc L (S) I R sh :=
  fun H locs ls cells slots h1 h2 h3 h4 h5 h6 => lv_aload g.1 g.2.1 dg (pw_lv_get h6 hl) (k H locs ls cells slots h1 h2 h3 h4 h5 h6)
theorem PW.aloadX_n (g : pw_G y d0 mc ms E B) {n : Fin 4} {i x : Nat} (hi : (n : Nat) = i) (hl : L[i]? = some (some (.retAddr x))) (dg : decode y.2.1 pc = .ok (.aload_n n, 1)) (k : PW E B nL mc ms nc ns (pc + 1) L (.retAddr x :: S) I R sh) : PW E B nL mc ms nc ns pc L (S) I R sh :=
  fun H locs ls cells slots h1 h2 h3 h4 h5 h6 => lv_aload_n g.1 g.2.1 dg hi (pw_lv_get h6 hl) (k H locs ls cells slots h1 h2 h3 h4 h5 h6)
theorem PW.aloadX (g : pw_G y d0 mc ms E B) {i x : Nat} (hl : L[i]? = some (some (.retAddr x))) (dg : decode y.2.1 pc = .ok (.aload i, 2)) (k : PW E B nL mc ms nc ns (pc + 2) L (.retAddr x :: S) I R sh) : PW E B nL mc ms nc ns pc L (S) I R sh :=
  fun H locs ls cells slots h1 h2 h3 h4 h5 h6 => lv_aload g.1 g.2.1 dg (pw_lv_get h6 hl) (k H locs ls cells slots h1 h2 h3 h4 h5 h6)
theorem PW.sld (g : pw_G y d0 mc ms E B) {Ls : Nat} {xs : Nat → Int32} {i : Int32} (hX : va_X (B.2.2 102) Ls xs E.2.2.2.2.1 E.2.2.2.2.1.heap) (hbl : B.2.2 102 < E.2.2.2.2.1.heap.size) (hbA : ¬ B.1 ≤ B.2.2 102) (hi : vp_in i Ls) (dg : decode y.2.1 pc = .ok (.iaload, 1)) (k : PW E B nL mc ms nc ns (pc + 1) L (.int (xs i.toNatClampNeg) :: S) I R sh) : PW E B nL mc ms nc ns pc L (.int i :: .retAddr 2 :: S) I R sh :=
  fun H locs ls cells slots h1 h2 h3 h4 h5 h6 => va_sld g.1 g.2.1 hX hbl hbA h5 hi dg (k H locs ls cells slots h1 h2 h3 h4 h5 h6)
theorem PW.slen (g : pw_G y d0 mc ms E B) {Ls : Nat} {xs : Nat → Int32} (hX : va_X (B.2.2 102) Ls xs E.2.2.2.2.1 E.2.2.2.2.1.heap) (hbl : B.2.2 102 < E.2.2.2.2.1.heap.size) (hbA : ¬ B.1 ≤ B.2.2 102) (dg : decode y.2.1 pc = .ok (.arraylength, 1)) (k : PW E B nL mc ms nc ns (pc + 1) L (.int (Int32.ofNat Ls) :: S) I R sh) : PW E B nL mc ms nc ns pc L (.retAddr 2 :: S) I R sh :=
  fun H locs ls cells slots h1 h2 h3 h4 h5 h6 => va_slen g.1 g.2.1 hX hbl hbA h5 dg (k H locs ls cells slots h1 h2 h3 h4 h5 h6)
theorem PW.istore_n (g : pw_G y d0 mc ms E B) {n : Fin 4} {i : Nat} (hi : (n : Nat) = i) {x : Int32} {L' : List (Option Value)} (hn : i < nL) (ho : pw_ok L i = true) (hL : L.set i (some (.int x)) = L') (dg : decode y.2.1 pc = .ok (.istore_n n, 1)) (k : PW E B nL mc ms nc ns (pc + 1) L' S I R sh) : PW E B nL mc ms nc ns pc L (.int x :: S) I R sh :=
  fun H locs ls cells slots h1 h2 h3 h4 h5 h6 => lv_istore_n g.1 g.2.1 dg hi h6 hn rfl (fun ls' h6 => k H locs ls' cells slots h1 h2 h3 h4 h5 (hL ▸ pw_lv_set (v := .int x) rfl ho h6))
theorem PW.istore (g : pw_G y d0 mc ms E B) {i : Nat} {x : Int32} {L' : List (Option Value)} (hn : i < nL) (ho : pw_ok L i = true) (hL : L.set i (some (.int x)) = L') (dg : decode y.2.1 pc = .ok (.istore i, 2)) (k : PW E B nL mc ms nc ns (pc + 2) L' S I R sh) : PW E B nL mc ms nc ns pc L (.int x :: S) I R sh :=
  fun H locs ls cells slots h1 h2 h3 h4 h5 h6 => lv_istore g.1 g.2.1 dg h6 hn rfl (fun ls' h6 => k H locs ls' cells slots h1 h2 h3 h4 h5 (hL ▸ pw_lv_set (v := .int x) rfl ho h6))
theorem PW.astore_n (g : pw_G y d0 mc ms E B) {n : Fin 4} {i : Nat} (hi : (n : Nat) = i) {x : Nat} {L' : List (Option Value)} (hn : i < nL) (ho : pw_ok L i = true) (hL : L.set i (some (.ref x)) = L') (dg : decode y.2.1 pc = .ok (.astore_n n, 1)) (k : PW E B nL mc ms nc ns (pc + 1) L' S I R sh) : PW E B nL mc ms nc ns pc L (.ref x :: S) I R sh :=
  fun H locs ls cells slots h1 h2 h3 h4 h5 h6 => lv_astore_n g.1 g.2.1 dg hi h6 hn rfl (fun ls' h6 => k H locs ls' cells slots h1 h2 h3 h4 h5 (hL ▸ pw_lv_set (v := .ref x) rfl ho h6))
theorem PW.astore (g : pw_G y d0 mc ms E B) {i : Nat} {x : Nat} {L' : List (Option Value)} (hn : i < nL) (ho : pw_ok L i = true) (hL : L.set i (some (.ref x)) = L') (dg : decode y.2.1 pc = .ok (.astore i, 2)) (k : PW E B nL mc ms nc ns (pc + 2) L' S I R sh) : PW E B nL mc ms nc ns pc L (.ref x :: S) I R sh :=
  fun H locs ls cells slots h1 h2 h3 h4 h5 h6 => lv_astore g.1 g.2.1 dg h6 hn rfl (fun ls' h6 => k H locs ls' cells slots h1 h2 h3 h4 h5 (hL ▸ pw_lv_set (v := .ref x) rfl ho h6))
theorem PW.iinc (g : pw_G y d0 mc ms E B) {i : Nat} {n : Int} {x v : Int32} {L' : List (Option Value)} (hl : L[i]? = some (some (.int x))) (hv : x + Int32.ofInt n = v) (hn : i < nL) (ho : pw_ok L i = true) (hL : L.set i (some (.int v)) = L') (dg : decode y.2.1 pc = .ok (.iinc i n, 3)) (k : PW E B nL mc ms nc ns (pc + 3) L' S I R sh) : PW E B nL mc ms nc ns pc L S I R sh :=
  fun H locs ls cells slots h1 h2 h3 h4 h5 h6 => by
    obtain ⟨kq, hk⟩ := List.getElem?_of_mem (pw_lv_mem (b := B) (i := 0).mpr ⟨i, .int x, hl, rfl⟩)
    rw [Nat.zero_add] at hk
    exact lv_iinc g.1 g.2.1 dg h6 hk hv hn rfl (fun ls' h6 => k H locs ls' cells slots h1 h2 h3 h4 h5 (hL ▸ pw_lv_set (v := .int v) rfl ho h6))
theorem PW.iadd (g : pw_G y d0 mc ms E B) {x z : Int32} (dg : decode y.2.1 pc = .ok (.iadd, 1)) (k : PW E B nL mc ms nc ns (pc + 1) L (.int (x + z) :: S) I R sh) : PW E B nL mc ms nc ns pc L (.int z :: .int x :: S) I R sh :=
  fun H locs ls cells slots h1 h2 h3 h4 h5 h6 => lv_iadd g.1 g.2.1 dg (k H locs ls cells slots h1 h2 h3 h4 h5 h6)
theorem PW.isub (g : pw_G y d0 mc ms E B) {x z : Int32} (dg : decode y.2.1 pc = .ok (.isub, 1)) (k : PW E B nL mc ms nc ns (pc + 1) L (.int (x - z) :: S) I R sh) : PW E B nL mc ms nc ns pc L (.int z :: .int x :: S) I R sh :=
  fun H locs ls cells slots h1 h2 h3 h4 h5 h6 => lv_isub g.1 g.2.1 dg (k H locs ls cells slots h1 h2 h3 h4 h5 h6)
theorem PW.imul (g : pw_G y d0 mc ms E B) {x z : Int32} (dg : decode y.2.1 pc = .ok (.imul, 1)) (k : PW E B nL mc ms nc ns (pc + 1) L (.int (x * z) :: S) I R sh) : PW E B nL mc ms nc ns pc L (.int z :: .int x :: S) I R sh :=
  fun H locs ls cells slots h1 h2 h3 h4 h5 h6 => lv_imul g.1 g.2.1 dg (k H locs ls cells slots h1 h2 h3 h4 h5 h6)
theorem PW.iand (g : pw_G y d0 mc ms E B) {x z : Int32} (dg : decode y.2.1 pc = .ok (.iand, 1)) (k : PW E B nL mc ms nc ns (pc + 1) L (.int (x &&& z) :: S) I R sh) : PW E B nL mc ms nc ns pc L (.int z :: .int x :: S) I R sh :=
  fun H locs ls cells slots h1 h2 h3 h4 h5 h6 => lv_iand g.1 g.2.1 dg (k H locs ls cells slots h1 h2 h3 h4 h5 h6)
theorem PW.ior (g : pw_G y d0 mc ms E B) {x z : Int32} (dg : decode y.2.1 pc = .ok (.ior, 1)) (k : PW E B nL mc ms nc ns (pc + 1) L (.int (x ||| z) :: S) I R sh) : PW E B nL mc ms nc ns pc L (.int z :: .int x :: S) I R sh :=
  fun H locs ls cells slots h1 h2 h3 h4 h5 h6 => lv_ior g.1 g.2.1 dg (k H locs ls cells slots h1 h2 h3 h4 h5 h6)
theorem PW.ixor (g : pw_G y d0 mc ms E B) {x z : Int32} (dg : decode y.2.1 pc = .ok (.ixor, 1)) (k : PW E B nL mc ms nc ns (pc + 1) L (.int (x ^^^ z) :: S) I R sh) : PW E B nL mc ms nc ns pc L (.int z :: .int x :: S) I R sh :=
  fun H locs ls cells slots h1 h2 h3 h4 h5 h6 => lv_ixor g.1 g.2.1 dg (k H locs ls cells slots h1 h2 h3 h4 h5 h6)
theorem PW.idiv (g : pw_G y d0 mc ms E B) {x z : Int32} (hz : ¬ z = 0) (dg : decode y.2.1 pc = .ok (.idiv, 1)) (k : PW E B nL mc ms nc ns (pc + 1) L (.int (x / z) :: S) I R sh) : PW E B nL mc ms nc ns pc L (.int z :: .int x :: S) I R sh :=
  fun H locs ls cells slots h1 h2 h3 h4 h5 h6 => lv_idiv g.1 g.2.1 dg hz (k H locs ls cells slots h1 h2 h3 h4 h5 h6)
theorem PW.irem (g : pw_G y d0 mc ms E B) {x z : Int32} (hz : ¬ z = 0) (dg : decode y.2.1 pc = .ok (.irem, 1)) (k : PW E B nL mc ms nc ns (pc + 1) L (.int (x - x / z * z) :: S) I R sh) : PW E B nL mc ms nc ns pc L (.int z :: .int x :: S) I R sh :=
  fun H locs ls cells slots h1 h2 h3 h4 h5 h6 => lv_irem g.1 g.2.1 dg hz (k H locs ls cells slots h1 h2 h3 h4 h5 h6)
theorem PW.ineg (g : pw_G y d0 mc ms E B) {x : Int32} (dg : decode y.2.1 pc = .ok (.ineg, 1)) (k : PW E B nL mc ms nc ns (pc + 1) L (.int (-x) :: S) I R sh) : PW E B nL mc ms nc ns pc L (.int x :: S) I R sh :=
  fun H locs ls cells slots h1 h2 h3 h4 h5 h6 => lv_ineg g.1 g.2.1 dg (k H locs ls cells slots h1 h2 h3 h4 h5 h6)
theorem PW.ladd (g : pw_G y d0 mc ms E B) {x z : Int64} (dg : decode y.2.1 pc = .ok (.ladd, 1)) (k : PW E B nL mc ms nc ns (pc + 1) L (.long (x + z) :: S) I R sh) : PW E B nL mc ms nc ns pc L (.long z :: .long x :: S) I R sh :=
  fun H locs ls cells slots h1 h2 h3 h4 h5 h6 => lv_ladd g.1 g.2.1 dg (k H locs ls cells slots h1 h2 h3 h4 h5 h6)
theorem PW.lsub (g : pw_G y d0 mc ms E B) {x z : Int64} (dg : decode y.2.1 pc = .ok (.lsub, 1)) (k : PW E B nL mc ms nc ns (pc + 1) L (.long (x - z) :: S) I R sh) : PW E B nL mc ms nc ns pc L (.long z :: .long x :: S) I R sh :=
  fun H locs ls cells slots h1 h2 h3 h4 h5 h6 => lv_lsub g.1 g.2.1 dg (k H locs ls cells slots h1 h2 h3 h4 h5 h6)
theorem PW.lmul (g : pw_G y d0 mc ms E B) {x z : Int64} (dg : decode y.2.1 pc = .ok (.lmul, 1)) (k : PW E B nL mc ms nc ns (pc + 1) L (.long (x * z) :: S) I R sh) : PW E B nL mc ms nc ns pc L (.long z :: .long x :: S) I R sh :=
  fun H locs ls cells slots h1 h2 h3 h4 h5 h6 => lv_lmul g.1 g.2.1 dg (k H locs ls cells slots h1 h2 h3 h4 h5 h6)
theorem PW.land (g : pw_G y d0 mc ms E B) {x z : Int64} (dg : decode y.2.1 pc = .ok (.land, 1)) (k : PW E B nL mc ms nc ns (pc + 1) L (.long (x &&& z) :: S) I R sh) : PW E B nL mc ms nc ns pc L (.long z :: .long x :: S) I R sh :=
  fun H locs ls cells slots h1 h2 h3 h4 h5 h6 => lv_land g.1 g.2.1 dg (k H locs ls cells slots h1 h2 h3 h4 h5 h6)
theorem PW.lor (g : pw_G y d0 mc ms E B) {x z : Int64} (dg : decode y.2.1 pc = .ok (.lor, 1)) (k : PW E B nL mc ms nc ns (pc + 1) L (.long (x ||| z) :: S) I R sh) : PW E B nL mc ms nc ns pc L (.long z :: .long x :: S) I R sh :=
  fun H locs ls cells slots h1 h2 h3 h4 h5 h6 => lv_lor g.1 g.2.1 dg (k H locs ls cells slots h1 h2 h3 h4 h5 h6)
theorem PW.i2c (g : pw_G y d0 mc ms E B) {x v : Int32} (hv : (x.toUInt32 % 65536).toInt32 = v) (dg : decode y.2.1 pc = .ok (.i2c, 1)) (k : PW E B nL mc ms nc ns (pc + 1) L (.int v :: S) I R sh) : PW E B nL mc ms nc ns pc L (.int x :: S) I R sh :=
  fun H locs ls cells slots h1 h2 h3 h4 h5 h6 => lv_i2c g.1 g.2.1 dg hv (k H locs ls cells slots h1 h2 h3 h4 h5 h6)
theorem PW.i2l (g : pw_G y d0 mc ms E B) {x : Int32} {v : Int64} (hv : x.toInt64 = v) (dg : decode y.2.1 pc = .ok (.i2l, 1)) (k : PW E B nL mc ms nc ns (pc + 1) L (.long v :: S) I R sh) : PW E B nL mc ms nc ns pc L (.int x :: S) I R sh :=
  fun H locs ls cells slots h1 h2 h3 h4 h5 h6 => lv_i2l g.1 g.2.1 dg hv (k H locs ls cells slots h1 h2 h3 h4 h5 h6)
theorem PW.l2i (g : pw_G y d0 mc ms E B) {x : Int64} {v : Int32} (hv : x.toInt32 = v) (dg : decode y.2.1 pc = .ok (.l2i, 1)) (k : PW E B nL mc ms nc ns (pc + 1) L (.int v :: S) I R sh) : PW E B nL mc ms nc ns pc L (.long x :: S) I R sh :=
  fun H locs ls cells slots h1 h2 h3 h4 h5 h6 => lv_l2i g.1 g.2.1 dg hv (k H locs ls cells slots h1 h2 h3 h4 h5 h6)
theorem PW.lushr (g : pw_G y d0 mc ms E B) {x v : Int64} {z : Int32} (hv : (x.toUInt64 >>> (z.toInt64.toUInt64 &&& Int64.toUInt64 63)).toInt64 = v) (dg : decode y.2.1 pc = .ok (.lushr, 1)) (k : PW E B nL mc ms nc ns (pc + 1) L (.long v :: S) I R sh) : PW E B nL mc ms nc ns pc L (.int z :: .long x :: S) I R sh :=
  fun H locs ls cells slots h1 h2 h3 h4 h5 h6 => lv_lushr g.1 g.2.1 dg hv (k H locs ls cells slots h1 h2 h3 h4 h5 h6)
theorem PW.lshl (g : pw_G y d0 mc ms E B) {x v : Int64} {z : Int32} (hv : x <<< (z.toInt64 &&& 63) = v) (dg : decode y.2.1 pc = .ok (.lshl, 1)) (k : PW E B nL mc ms nc ns (pc + 1) L (.long v :: S) I R sh) : PW E B nL mc ms nc ns pc L (.int z :: .long x :: S) I R sh :=
  fun H locs ls cells slots h1 h2 h3 h4 h5 h6 => lv_lshl g.1 g.2.1 dg hv (k H locs ls cells slots h1 h2 h3 h4 h5 h6)
theorem PW.ishl (g : pw_G y d0 mc ms E B) {x z : Int32} (dg : decode y.2.1 pc = .ok (.ishl, 1)) (k : PW E B nL mc ms nc ns (pc + 1) L (.int (x <<< (z &&& 31)) :: S) I R sh) : PW E B nL mc ms nc ns pc L (.int z :: .int x :: S) I R sh :=
  fun H locs ls cells slots h1 h2 h3 h4 h5 h6 => lv_ishl g.1 g.2.1 dg (k H locs ls cells slots h1 h2 h3 h4 h5 h6)
theorem PW.ishr (g : pw_G y d0 mc ms E B) {x z : Int32} (dg : decode y.2.1 pc = .ok (.ishr, 1)) (k : PW E B nL mc ms nc ns (pc + 1) L (.int (x >>> (z &&& 31)) :: S) I R sh) : PW E B nL mc ms nc ns pc L (.int z :: .int x :: S) I R sh :=
  fun H locs ls cells slots h1 h2 h3 h4 h5 h6 => lv_ishr g.1 g.2.1 dg (k H locs ls cells slots h1 h2 h3 h4 h5 h6)
theorem PW.dup (g : pw_G y d0 mc ms E B) {v : Value} (hv : v.category = 1) (dg : decode y.2.1 pc = .ok (.dup, 1)) (k : PW E B nL mc ms nc ns (pc + 1) L (v :: v :: S) I R sh) : PW E B nL mc ms nc ns pc L (v :: S) I R sh :=
  fun H locs ls cells slots h1 h2 h3 h4 h5 h6 => lv_dup g.1 g.2.1 dg ((pw_tr_cat _ _).trans hv) (k H locs ls cells slots h1 h2 h3 h4 h5 h6)
theorem PW.pop (g : pw_G y d0 mc ms E B) {v : Value} (hv : v.category = 1) (dg : decode y.2.1 pc = .ok (.pop, 1)) (k : PW E B nL mc ms nc ns (pc + 1) L (S) I R sh) : PW E B nL mc ms nc ns pc L (v :: S) I R sh :=
  fun H locs ls cells slots h1 h2 h3 h4 h5 h6 => lv_pop g.1 g.2.1 dg ((pw_tr_cat _ _).trans hv) (k H locs ls cells slots h1 h2 h3 h4 h5 h6)
theorem PW.dup_x1 (g : pw_G y d0 mc ms E B) {v w : Value} (hv : v.category = 1) (hw : w.category = 1) (dg : decode y.2.1 pc = .ok (.dup_x1, 1)) (k : PW E B nL mc ms nc ns (pc + 1) L (v :: w :: v :: S) I R sh) : PW E B nL mc ms nc ns pc L (v :: w :: S) I R sh :=
  fun H locs ls cells slots h1 h2 h3 h4 h5 h6 => lv_dup_x1 g.1 g.2.1 dg ((pw_tr_cat _ _).trans hv) ((pw_tr_cat _ _).trans hw) (k H locs ls cells slots h1 h2 h3 h4 h5 h6)
theorem PW.dup_x2 (g : pw_G y d0 mc ms E B) {v w u : Value} (hv : v.category = 1) (hw : w.category = 1) (hu : u.category = 1) (dg : decode y.2.1 pc = .ok (.dup_x2, 1)) (k : PW E B nL mc ms nc ns (pc + 1) L (v :: w :: u :: v :: S) I R sh) : PW E B nL mc ms nc ns pc L (v :: w :: u :: S) I R sh :=
  fun H locs ls cells slots h1 h2 h3 h4 h5 h6 => lv_dup_x2 g.1 g.2.1 dg ((pw_tr_cat _ _).trans hv) ((pw_tr_cat _ _).trans hw) ((pw_tr_cat _ _).trans hu) (k H locs ls cells slots h1 h2 h3 h4 h5 h6)
theorem PW.dup2 (g : pw_G y d0 mc ms E B) {v w : Value} (hv : v.category = 1) (hw : w.category = 1) (dg : decode y.2.1 pc = .ok (.dup2, 1)) (k : PW E B nL mc ms nc ns (pc + 1) L (v :: w :: v :: w :: S) I R sh) : PW E B nL mc ms nc ns pc L (v :: w :: S) I R sh :=
  fun H locs ls cells slots h1 h2 h3 h4 h5 h6 => lv_dup2_11 g.1 g.2.1 dg ((pw_tr_cat _ _).trans hv) ((pw_tr_cat _ _).trans hw) (k H locs ls cells slots h1 h2 h3 h4 h5 h6)
theorem PW.if_eq (g : pw_G y d0 mc ms E B) {x : Int32} {off : Int} (tgt : Nat) (ht : (pc : Int) + off = (tgt : Int)) (dg : decode y.2.1 pc = .ok (.ifCond .eq off, 3)) (kt : x = 0 → PW E B nL mc ms nc ns tgt L S I R sh) (kf : ¬ x = 0 → PW E B nL mc ms nc ns (pc + 3) L S I R sh) : PW E B nL mc ms nc ns pc L (.int x :: S) I R sh :=
  fun H locs ls cells slots h1 h2 h3 h4 h5 h6 => lv_if_eq g.1 g.2.1 dg ht (fun c => kt c H locs ls cells slots h1 h2 h3 h4 h5 h6) (fun c => kf c H locs ls cells slots h1 h2 h3 h4 h5 h6)
theorem PW.icmp_eq (g : pw_G y d0 mc ms E B) {x z : Int32} {off : Int} (tgt : Nat) (ht : (pc : Int) + off = (tgt : Int)) (dg : decode y.2.1 pc = .ok (.if_icmp .eq off, 3)) (kt : x = z → PW E B nL mc ms nc ns tgt L S I R sh) (kf : ¬ x = z → PW E B nL mc ms nc ns (pc + 3) L S I R sh) : PW E B nL mc ms nc ns pc L (.int z :: .int x :: S) I R sh :=
  fun H locs ls cells slots h1 h2 h3 h4 h5 h6 => lv_icmp_eq g.1 g.2.1 dg ht (fun c => kt c H locs ls cells slots h1 h2 h3 h4 h5 h6) (fun c => kf c H locs ls cells slots h1 h2 h3 h4 h5 h6)
theorem PW.if_ne (g : pw_G y d0 mc ms E B) {x : Int32} {off : Int} (tgt : Nat) (ht : (pc : Int) + off = (tgt : Int)) (dg : decode y.2.1 pc = .ok (.ifCond .ne off, 3)) (kt : ¬ x = 0 → PW E B nL mc ms nc ns tgt L S I R sh) (kf : x = 0 → PW E B nL mc ms nc ns (pc + 3) L S I R sh) : PW E B nL mc ms nc ns pc L (.int x :: S) I R sh :=
  fun H locs ls cells slots h1 h2 h3 h4 h5 h6 => lv_if_ne g.1 g.2.1 dg ht (fun c => kt c H locs ls cells slots h1 h2 h3 h4 h5 h6) (fun c => kf c H locs ls cells slots h1 h2 h3 h4 h5 h6)
theorem PW.icmp_ne (g : pw_G y d0 mc ms E B) {x z : Int32} {off : Int} (tgt : Nat) (ht : (pc : Int) + off = (tgt : Int)) (dg : decode y.2.1 pc = .ok (.if_icmp .ne off, 3)) (kt : ¬ x = z → PW E B nL mc ms nc ns tgt L S I R sh) (kf : x = z → PW E B nL mc ms nc ns (pc + 3) L S I R sh) : PW E B nL mc ms nc ns pc L (.int z :: .int x :: S) I R sh :=
  fun H locs ls cells slots h1 h2 h3 h4 h5 h6 => lv_icmp_ne g.1 g.2.1 dg ht (fun c => kt c H locs ls cells slots h1 h2 h3 h4 h5 h6) (fun c => kf c H locs ls cells slots h1 h2 h3 h4 h5 h6)
theorem PW.if_lt (g : pw_G y d0 mc ms E B) {x : Int32} {off : Int} (tgt : Nat) (ht : (pc : Int) + off = (tgt : Int)) (dg : decode y.2.1 pc = .ok (.ifCond .lt off, 3)) (kt : x < 0 → PW E B nL mc ms nc ns tgt L S I R sh) (kf : ¬ x < 0 → PW E B nL mc ms nc ns (pc + 3) L S I R sh) : PW E B nL mc ms nc ns pc L (.int x :: S) I R sh :=
  fun H locs ls cells slots h1 h2 h3 h4 h5 h6 => lv_if_lt g.1 g.2.1 dg ht (fun c => kt c H locs ls cells slots h1 h2 h3 h4 h5 h6) (fun c => kf c H locs ls cells slots h1 h2 h3 h4 h5 h6)
theorem PW.icmp_lt (g : pw_G y d0 mc ms E B) {x z : Int32} {off : Int} (tgt : Nat) (ht : (pc : Int) + off = (tgt : Int)) (dg : decode y.2.1 pc = .ok (.if_icmp .lt off, 3)) (kt : x < z → PW E B nL mc ms nc ns tgt L S I R sh) (kf : ¬ x < z → PW E B nL mc ms nc ns (pc + 3) L S I R sh) : PW E B nL mc ms nc ns pc L (.int z :: .int x :: S) I R sh :=
  fun H locs ls cells slots h1 h2 h3 h4 h5 h6 => lv_icmp_lt g.1 g.2.1 dg ht (fun c => kt c H locs ls cells slots h1 h2 h3 h4 h5 h6) (fun c => kf c H locs ls cells slots h1 h2 h3 h4 h5 h6)
theorem PW.if_ge (g : pw_G y d0 mc ms E B) {x : Int32} {off : Int} (tgt : Nat) (ht : (pc : Int) + off = (tgt : Int)) (dg : decode y.2.1 pc = .ok (.ifCond .ge off, 3)) (kt : 0 ≤ x → PW E B nL mc ms nc ns tgt L S I R sh) (kf : ¬ 0 ≤ x → PW E B nL mc ms nc ns (pc + 3) L S I R sh) : PW E B nL mc ms nc ns pc L (.int x :: S) I R sh :=
  fun H locs ls cells slots h1 h2 h3 h4 h5 h6 => lv_if_ge g.1 g.2.1 dg ht (fun c => kt c H locs ls cells slots h1 h2 h3 h4 h5 h6) (fun c => kf c H locs ls cells slots h1 h2 h3 h4 h5 h6)
theorem PW.icmp_ge (g : pw_G y d0 mc ms E B) {x z : Int32} {off : Int} (tgt : Nat) (ht : (pc : Int) + off = (tgt : Int)) (dg : decode y.2.1 pc = .ok (.if_icmp .ge off, 3)) (kt : z ≤ x → PW E B nL mc ms nc ns tgt L S I R sh) (kf : ¬ z ≤ x → PW E B nL mc ms nc ns (pc + 3) L S I R sh) : PW E B nL mc ms nc ns pc L (.int z :: .int x :: S) I R sh :=
  fun H locs ls cells slots h1 h2 h3 h4 h5 h6 => lv_icmp_ge g.1 g.2.1 dg ht (fun c => kt c H locs ls cells slots h1 h2 h3 h4 h5 h6) (fun c => kf c H locs ls cells slots h1 h2 h3 h4 h5 h6)
theorem PW.if_gt (g : pw_G y d0 mc ms E B) {x : Int32} {off : Int} (tgt : Nat) (ht : (pc : Int) + off = (tgt : Int)) (dg : decode y.2.1 pc = .ok (.ifCond .gt off, 3)) (kt : 0 < x → PW E B nL mc ms nc ns tgt L S I R sh) (kf : ¬ 0 < x → PW E B nL mc ms nc ns (pc + 3) L S I R sh) : PW E B nL mc ms nc ns pc L (.int x :: S) I R sh :=
  fun H locs ls cells slots h1 h2 h3 h4 h5 h6 => lv_if_gt g.1 g.2.1 dg ht (fun c => kt c H locs ls cells slots h1 h2 h3 h4 h5 h6) (fun c => kf c H locs ls cells slots h1 h2 h3 h4 h5 h6)
theorem PW.icmp_gt (g : pw_G y d0 mc ms E B) {x z : Int32} {off : Int} (tgt : Nat) (ht : (pc : Int) + off = (tgt : Int)) (dg : decode y.2.1 pc = .ok (.if_icmp .gt off, 3)) (kt : z < x → PW E B nL mc ms nc ns tgt L S I R sh) (kf : ¬ z < x → PW E B nL mc ms nc ns (pc + 3) L S I R sh) : PW E B nL mc ms nc ns pc L (.int z :: .int x :: S) I R sh :=
  fun H locs ls cells slots h1 h2 h3 h4 h5 h6 => lv_icmp_gt g.1 g.2.1 dg ht (fun c => kt c H locs ls cells slots h1 h2 h3 h4 h5 h6) (fun c => kf c H locs ls cells slots h1 h2 h3 h4 h5 h6)
theorem PW.if_le (g : pw_G y d0 mc ms E B) {x : Int32} {off : Int} (tgt : Nat) (ht : (pc : Int) + off = (tgt : Int)) (dg : decode y.2.1 pc = .ok (.ifCond .le off, 3)) (kt : x ≤ 0 → PW E B nL mc ms nc ns tgt L S I R sh) (kf : ¬ x ≤ 0 → PW E B nL mc ms nc ns (pc + 3) L S I R sh) : PW E B nL mc ms nc ns pc L (.int x :: S) I R sh :=
  fun H locs ls cells slots h1 h2 h3 h4 h5 h6 => lv_if_le g.1 g.2.1 dg ht (fun c => kt c H locs ls cells slots h1 h2 h3 h4 h5 h6) (fun c => kf c H locs ls cells slots h1 h2 h3 h4 h5 h6)
theorem PW.icmp_le (g : pw_G y d0 mc ms E B) {x z : Int32} {off : Int} (tgt : Nat) (ht : (pc : Int) + off = (tgt : Int)) (dg : decode y.2.1 pc = .ok (.if_icmp .le off, 3)) (kt : x ≤ z → PW E B nL mc ms nc ns tgt L S I R sh) (kf : ¬ x ≤ z → PW E B nL mc ms nc ns (pc + 3) L S I R sh) : PW E B nL mc ms nc ns pc L (.int z :: .int x :: S) I R sh :=
  fun H locs ls cells slots h1 h2 h3 h4 h5 h6 => lv_icmp_le g.1 g.2.1 dg ht (fun c => kt c H locs ls cells slots h1 h2 h3 h4 h5 h6) (fun c => kf c H locs ls cells slots h1 h2 h3 h4 h5 h6)
theorem PW.goto (g : pw_G y d0 mc ms E B) {off : Int} (tgt : Nat) (ht : (pc : Int) + off = (tgt : Int)) (dg : decode y.2.1 pc = .ok (.goto off, 3)) (k : PW E B nL mc ms nc ns tgt L S I R sh) : PW E B nL mc ms nc ns pc L S I R sh :=
  fun H locs ls cells slots h1 h2 h3 h4 h5 h6 => lv_goto g.1 g.2.1 dg ht (k H locs ls cells slots h1 h2 h3 h4 h5 h6)
theorem PW.ifnull (g : pw_G y d0 mc ms E B) {off : Int} {x : Nat} (dg : decode y.2.1 pc = .ok (.ifnull off, 3)) (k : PW E B nL mc ms nc ns (pc + 3) L S I R sh) : PW E B nL mc ms nc ns pc L (.ref x :: S) I R sh :=
  fun H locs ls cells slots h1 h2 h3 h4 h5 h6 => lv_ifnull g.1 g.2.1 dg (k H locs ls cells slots h1 h2 h3 h4 h5 h6)
theorem PW.ifnullN (g : pw_G y d0 mc ms E B) {off : Int} (tgt : Nat) (ht : (pc : Int) + off = (tgt : Int)) (dg : decode y.2.1 pc = .ok (.ifnull off, 3)) (k : PW E B nL mc ms nc ns tgt L S I R sh) : PW E B nL mc ms nc ns pc L (.null :: S) I R sh :=
  fun H locs ls cells slots h1 h2 h3 h4 h5 h6 => lv_ifnullN g.1 g.2.1 dg ht (k H locs ls cells slots h1 h2 h3 h4 h5 h6)
theorem PW.lookup (g : pw_G y d0 mc ms E B) {dflt off : Int} {ps : Array (Int × Int)} {len : Nat} {x : Int32} (tgt : Nat) (hp : (ps.toList.zip (ps.toList.drop 1)).all (fun (a, next) => a.1 < next.1) = true) (ho : Op.lookupswitch.offset ps.toList dflt x.toInt = off) (ht : (pc : Int) + off = (tgt : Int)) (dg : decode y.2.1 pc = .ok (.lookupswitch dflt ps, len)) (k : PW E B nL mc ms nc ns tgt L S I R sh) : PW E B nL mc ms nc ns pc L (.int x :: S) I R sh :=
  fun H locs ls cells slots h1 h2 h3 h4 h5 h6 => lv_lookup g.1 g.2.1 dg hp ho ht (k H locs ls cells slots h1 h2 h3 h4 h5 h6)
theorem PW.tableOut (g : pw_G y d0 mc ms E B) {dflt lo hi : Int} {offs : Array Int} {len : Nat} {x : Int32} (tgt : Nat) (h : x.toInt < lo ∨ hi < x.toInt) (ht : (pc : Int) + dflt = (tgt : Int)) (dg : decode y.2.1 pc = .ok (.tableswitch dflt lo hi offs, len)) (k : PW E B nL mc ms nc ns tgt L S I R sh) : PW E B nL mc ms nc ns pc L (.int x :: S) I R sh :=
  fun H locs ls cells slots h1 h2 h3 h4 h5 h6 => lv_tableOut g.1 g.2.1 dg h ht (k H locs ls cells slots h1 h2 h3 h4 h5 h6)
theorem PW.tableIn (g : pw_G y d0 mc ms E B) {dflt lo hi off : Int} {offs : Array Int} {len : Nat} {x : Int32} (tgt : Nat) (a1 : ¬ x.toInt < lo) (a2 : ¬ hi < x.toInt) (ho : offs[(x.toInt - lo).toNat]? = some off) (ht : (pc : Int) + off = (tgt : Int)) (dg : decode y.2.1 pc = .ok (.tableswitch dflt lo hi offs, len)) (k : PW E B nL mc ms nc ns tgt L S I R sh) : PW E B nL mc ms nc ns pc L (.int x :: S) I R sh :=
  fun H locs ls cells slots h1 h2 h3 h4 h5 h6 => lv_tableIn g.1 g.2.1 dg a1 a2 ho ht (k H locs ls cells slots h1 h2 h3 h4 h5 h6)
end PWR
section PWH
variable {y : pM} {d0 : Nat} {E : pE} {B : pB} {nL mc ms nc ns pc : Nat} {L : List (Option Value)} {S : List Value} {I : pI} {R : pR} {sh : pS}
theorem pw_n_of {ci N : Nat} {C : String} {T : u_T} {ty : Nat → FieldType} (hc : pw_ck ci C T N ty) : pw_n ci = N := by
  unfold pw_n
  rw [hc.1]
theorem pw_fs_at {b p ci k : Nat} (hk : k < pw_n ci) : (pw_fs b I R p ci)[k]? = some (pw_fld b I R p ci k) := by
  simp [pw_fs, hk]
theorem pw_fs_len {b p ci : Nat} : (pw_fs b I R p ci).length = pw_n ci := by simp [pw_fs]
theorem pw_fs_setI {b p ci k : Nat} {v : Int32} (hr : pw_isR ci k = false) : (pw_fs b I R p ci).set k (.int v) = pw_fs b (pw_wI I p k v) R p ci := by
  apply List.ext_getElem?
  intro j
  by_cases hj : j < pw_n ci
  · by_cases e : k = j
    · subst e
      rw [List.getElem?_set_self (by rw [pw_fs_len]; exact hj), pw_fs_at hj]
      simp [pw_fld, hr, pw_wI_eq, upd]
    · rw [List.getElem?_set_ne e, pw_fs_at hj, pw_fs_at hj]
      simp [pw_fld, pw_wI_eq, upd, Ne.symm e]
  · rw [List.getElem?_eq_none (by rw [List.length_set, pw_fs_len]; omega), List.getElem?_eq_none (by rw [pw_fs_len]; omega)]
theorem pw_fs_setR {b p ci k : Nat} {v : Option Nat} (hr : pw_isR ci k = true) : (pw_fs b I R p ci).set k (va_rf (v.map (b + ·))) = pw_fs b I (pw_wR R p k v) p ci := by
  apply List.ext_getElem?
  intro j
  by_cases hj : j < pw_n ci
  · by_cases e : k = j
    · subst e
      rw [List.getElem?_set_self (by rw [pw_fs_len]; exact hj), pw_fs_at hj]
      simp [pw_fld, hr, pw_wR_eq, va_up]
    · rw [List.getElem?_set_ne e, pw_fs_at hj, pw_fs_at hj]
      simp [pw_fld, pw_wR_eq, va_up, Ne.symm e]
  · rw [List.getElem?_eq_none (by rw [List.length_set, pw_fs_len]; omega), List.getElem?_eq_none (by rw [pw_fs_len]; omega)]
theorem pw_cell_o {p ci : Nat} : pw_cell B I R p (0, ci) = .inr (ci, pw_fs B.1 I R p ci) := rfl
theorem pw_at_o {p ci : Nat} (hs : sh[p]? = some (0, ci)) : (pw_ws B I R sh)[p]? = some (B.1 + p, .inr (ci, pw_fs B.1 I R p ci)) := pw_ws_at hs
theorem pw_at_i {p t n : Nat} (h0 : 0 < t) (h1 : t < 10) (hs : sh[p]? = some (t, n)) : (pw_ws B I R sh)[p]? = some (B.1 + p, .inl (B.2.2 t, n, .inl (I p))) := by
  rw [pw_ws_at hs]
  unfold pw_cell
  rw [if_neg (Nat.ne_of_gt h0), if_pos h1]
theorem pw_at_r {p t n : Nat} (h1 : 10 ≤ t) (hs : sh[p]? = some (t, n)) : (pw_ws B I R sh)[p]? = some (B.1 + p, .inl (B.2.2 t, n, .inr (.inr (.inr (.inr (fun k => (R p k).map (B.1 + ·))))))) := by
  rw [pw_ws_at hs]
  unfold pw_cell
  rw [if_neg (show ¬ t = 0 by omega), if_neg (show ¬ t < 10 by omega)]
/-- the heap is no larger than what was made -/
theorem pw_sz {p : Program} {l : Launch} {e : Env} {Ro : Room} {s : State} {m : MethodId} {args : Array Value} {below : List Frame} {meth : Method} {c : Code} {H : Heap} {locs : List Loc} {cells slots : Nat} {Q : State → Prop} {g : JFrame}
    (k : H.size ≤ s.heap.size + cells → W p l e Ro s m args below meth c H locs cells slots Q g) : W p l e Ro s m args below meth c H locs cells slots Q g := by
  intro T hT X
  have h := X.same.2.2.1
  have e1 : (T.setVm s.vm).heap = H := hT
  rw [e1] at h
  exact k h T hT X
end PWH
section PWI
variable {y : pM} {d0 : Nat} {E : pE} {B : pB} {nL mc ms nc ns pc : Nat} {L : List (Option Value)} {S : List Value} {I : pI} {R : pR} {sh : pS}
theorem pw_same {s : State} {C : String} {T : u_T} {k : Nat} (h : (T k).1 = C) (x : ClassId × Class × Nat × Field) (hx : s.fieldFound? (T k).1 (T k).2.1 (T k).2.2.1 = some x) : s.fieldFound? C (T k).2.1 (T k).2.2.1 = some x := by rw [h] at hx; exact hx
theorem PW.getI (g : pw_G y d0 mc ms E B) {p ci k idx : Nat} {ty : FieldType} {fin : Bool} (hf : pw_fi y.1.cls idx ci k false ty fin) (hs : sh[p]? = some (0, ci))  (dg : decode y.2.1 pc = .ok (.getfield idx, 3)) (kk : PW E B nL mc ms nc ns (pc + 3) L (.int (I p k) :: S) I R sh) : PW E B nL mc ms nc ns pc L (.ref p :: S) I R sh := by
  obtain ⟨C, T, N, ty0, hc, hk, hl, hr, -, -⟩ := hf
  intro H locs ls cells slots h1 h2 h3 h4 h5 h6
  have hv : (pw_fs B.1 I R p ci)[k]? = some (pw_tr B (.int (I p k))) := by
    rw [pw_fs_at (by rw [pw_n_of hc]; exact hk)]
    simp [pw_fld, hr, pw_tr]
  rcases hl with hl | ⟨host, hl⟩
  · exact va_get g.exec g.bytes g.words hc.2.1 g.own g.K h3 p (pw_at_o hs) hc.1 k hk (g.words _ hl) (pw_same (hc.2.2.2.2 k hk)) hv dg (kk H locs ls cells slots h1 h2 h3 h4 h5 h6)
  · exact va_getN g.exec g.bytes g.words hc.2.1 g.own g.K h3 p (pw_at_o hs) hc.1 k hk (va_Nw.use rfl (g.nest _ hl)) (pw_same (hc.2.2.2.2 k hk)) hv dg (kk H locs ls cells slots h1 h2 h3 h4 h5 h6)
theorem PW.getR (g : pw_G y d0 mc ms E B) {p ci k idx : Nat} {ty : FieldType} {fin : Bool} (hf : pw_fi y.1.cls idx ci k true ty fin) (hs : sh[p]? = some (0, ci)) {q : Nat} (hq : R p k = some q) (dg : decode y.2.1 pc = .ok (.getfield idx, 3)) (kk : PW E B nL mc ms nc ns (pc + 3) L (.ref q :: S) I R sh) : PW E B nL mc ms nc ns pc L (.ref p :: S) I R sh := by
  obtain ⟨C, T, N, ty0, hc, hk, hl, hr, -, -⟩ := hf
  intro H locs ls cells slots h1 h2 h3 h4 h5 h6
  have hv : (pw_fs B.1 I R p ci)[k]? = some (pw_tr B (.ref q)) := by
    rw [pw_fs_at (by rw [pw_n_of hc]; exact hk)]
    simp [pw_fld, hr, pw_tr, hq, va_rf]
  rcases hl with hl | ⟨host, hl⟩
  · exact va_get g.exec g.bytes g.words hc.2.1 g.own g.K h3 p (pw_at_o hs) hc.1 k hk (g.words _ hl) (pw_same (hc.2.2.2.2 k hk)) hv dg (kk H locs ls cells slots h1 h2 h3 h4 h5 h6)
  · exact va_getN g.exec g.bytes g.words hc.2.1 g.own g.K h3 p (pw_at_o hs) hc.1 k hk (va_Nw.use rfl (g.nest _ hl)) (pw_same (hc.2.2.2.2 k hk)) hv dg (kk H locs ls cells slots h1 h2 h3 h4 h5 h6)
theorem PW.getN (g : pw_G y d0 mc ms E B) {p ci k idx : Nat} {ty : FieldType} {fin : Bool} (hf : pw_fi y.1.cls idx ci k true ty fin) (hs : sh[p]? = some (0, ci)) (hq : R p k = none) (dg : decode y.2.1 pc = .ok (.getfield idx, 3)) (kk : PW E B nL mc ms nc ns (pc + 3) L (.null :: S) I R sh) : PW E B nL mc ms nc ns pc L (.ref p :: S) I R sh := by
  obtain ⟨C, T, N, ty0, hc, hk, hl, hr, -, -⟩ := hf
  intro H locs ls cells slots h1 h2 h3 h4 h5 h6
  have hv : (pw_fs B.1 I R p ci)[k]? = some (pw_tr B (.null)) := by
    rw [pw_fs_at (by rw [pw_n_of hc]; exact hk)]
    simp [pw_fld, hr, pw_tr, hq, va_rf]
  rcases hl with hl | ⟨host, hl⟩
  · exact va_get g.exec g.bytes g.words hc.2.1 g.own g.K h3 p (pw_at_o hs) hc.1 k hk (g.words _ hl) (pw_same (hc.2.2.2.2 k hk)) hv dg (kk H locs ls cells slots h1 h2 h3 h4 h5 h6)
  · exact va_getN g.exec g.bytes g.words hc.2.1 g.own g.K h3 p (pw_at_o hs) hc.1 k hk (va_Nw.use rfl (g.nest _ hl)) (pw_same (hc.2.2.2.2 k hk)) hv dg (kk H locs ls cells slots h1 h2 h3 h4 h5 h6)
theorem pw_fs_setQ {B : pB} {p ci k q : Nat} (hr : pw_isR ci k = true) : (pw_fs B.1 I R p ci).set k (pw_tr B (.ref q)) = pw_fs B.1 I (pw_wR R p k (some q)) p ci := pw_fs_setR (v := some q) hr
theorem pw_fs_setN {B : pB} {p ci k : Nat} (hr : pw_isR ci k = true) : (pw_fs B.1 I R p ci).set k (pw_tr B .null) = pw_fs B.1 I (pw_wR R p k none) p ci := pw_fs_setR (v := none) hr
theorem PW.putI (g : pw_G y d0 mc ms E B) {p ci k idx : Nat} {ty : FieldType} {v : Int32} (hf : pw_fi y.1.cls idx ci k false ty false) (hs : sh[p]? = some (0, ci)) (hn : narrow ty (pw_tr B (.int v)) = pw_tr B (.int v)) (hft : fits ty (pw_tr B (.int v)) = true) (dg : decode y.2.1 pc = .ok (.putfield idx, 3)) (kk : PW E B nL mc ms nc ns (pc + 3) L S (pw_wI I p k v) (R) sh) : PW E B nL mc ms nc ns pc L (.int v :: .ref p :: S) I R sh := by
  obtain ⟨C, T, N, ty0, hc, hk, hl, hr, hty, hfin⟩ := hf
  intro H locs ls cells slots h1 h2 h3 h4 h5 h6
  have hlen : k < (pw_fs B.1 I R p ci).length := by rw [pw_fs_len, pw_n_of hc]; exact hk
  have hd : parseFieldDescriptor (T k).2.2.1 = some ty := by rw [hc.2.2.1 k hk, hty]
  have hgo : ∀ (H1 : Heap) (locs1 : List Loc), va_P B.2.1 vwCl ((pw_ws B I R sh).set p (B.1 + p, .inr (ci, (pw_fs B.1 I R p ci).set k (pw_tr B (.int v))))) H1 → va_S (fun q => B.1 ≤ q) E.2.2.2.2.1.heap H1 locs1 → W E.1 E.2.1 E.2.2.1 E.2.2.2.1 E.2.2.2.2.1 E.2.2.2.2.2.1 E.2.2.2.2.2.2.1 E.2.2.2.2.2.2.2.1 E.2.2.2.2.2.2.2.2.1 E.2.2.2.2.2.2.2.2.2.1 H1 locs1 cells slots E.2.2.2.2.2.2.2.2.2.2 (F0 E.2.2.2.2.2.1 (pc + 3) ls (S.map (pw_tr B))) := by
    intro H1 locs1 a1 a3
    have e1 : (pw_fs B.1 I R p ci).set k (pw_tr B (.int v)) = pw_fs B.1 (pw_wI I p k v) (R) p ci := pw_fs_setI hr
    have e2 := pw_ws_set (B := B) (I := I) (I' := pw_wI I p k v) (R := R) (R' := R) hs (fun p' h => pw_wI_ne h) (fun p' h => rfl)
    rw [pw_cell_o] at e2
    rw [e1, e2] at a1
    exact kk H1 locs1 ls cells slots h1 h2 a1 h4 a3 h6
  rcases hl with hl | ⟨host, hl⟩
  · exact va_put g.exec g.bytes g.words hc.2.1 ty0 hc.2.2.1 hc.2.2.2.1 g.own g.K h3 (pw_ws_D B I R sh) h5 p (pw_at_o hs) hc.1 k hk (g.words _ hl) (pw_same (hc.2.2.2.2 k hk)) hfin hd hn hft hlen dg (fun H1 locs1 a1 _ a3 => hgo H1 locs1 a1 a3)
  · exact va_putN g.exec g.bytes g.words hc.2.1 ty0 hc.2.2.1 hc.2.2.2.1 g.own g.K h3 (pw_ws_D B I R sh) h5 p (pw_at_o hs) hc.1 k hk (va_Nw.use rfl (g.nest _ hl)) (pw_same (hc.2.2.2.2 k hk)) hfin hd hn hft hlen dg (fun H1 locs1 a1 _ a3 => hgo H1 locs1 a1 a3)
theorem PW.putR (g : pw_G y d0 mc ms E B) {p ci k idx : Nat} {ty : FieldType} {q : Nat} (hf : pw_fi y.1.cls idx ci k true ty false) (hs : sh[p]? = some (0, ci)) (hn : narrow ty (pw_tr B (.ref q)) = pw_tr B (.ref q)) (hft : fits ty (pw_tr B (.ref q)) = true) (dg : decode y.2.1 pc = .ok (.putfield idx, 3)) (kk : PW E B nL mc ms nc ns (pc + 3) L S (I) (pw_wR R p k (some q)) sh) : PW E B nL mc ms nc ns pc L (.ref q :: .ref p :: S) I R sh := by
  obtain ⟨C, T, N, ty0, hc, hk, hl, hr, hty, hfin⟩ := hf
  intro H locs ls cells slots h1 h2 h3 h4 h5 h6
  have hlen : k < (pw_fs B.1 I R p ci).length := by rw [pw_fs_len, pw_n_of hc]; exact hk
  have hd : parseFieldDescriptor (T k).2.2.1 = some ty := by rw [hc.2.2.1 k hk, hty]
  have hgo : ∀ (H1 : Heap) (locs1 : List Loc), va_P B.2.1 vwCl ((pw_ws B I R sh).set p (B.1 + p, .inr (ci, (pw_fs B.1 I R p ci).set k (pw_tr B (.ref q))))) H1 → va_S (fun q => B.1 ≤ q) E.2.2.2.2.1.heap H1 locs1 → W E.1 E.2.1 E.2.2.1 E.2.2.2.1 E.2.2.2.2.1 E.2.2.2.2.2.1 E.2.2.2.2.2.2.1 E.2.2.2.2.2.2.2.1 E.2.2.2.2.2.2.2.2.1 E.2.2.2.2.2.2.2.2.2.1 H1 locs1 cells slots E.2.2.2.2.2.2.2.2.2.2 (F0 E.2.2.2.2.2.1 (pc + 3) ls (S.map (pw_tr B))) := by
    intro H1 locs1 a1 a3
    have e1 : (pw_fs B.1 I R p ci).set k (pw_tr B (.ref q)) = pw_fs B.1 (I) (pw_wR R p k (some q)) p ci := pw_fs_setQ hr
    have e2 := pw_ws_set (B := B) (I := I) (I' := I) (R := R) (R' := pw_wR R p k (some q)) hs (fun p' h => rfl) (fun p' h => pw_wR_ne h)
    rw [pw_cell_o] at e2
    rw [e1, e2] at a1
    exact kk H1 locs1 ls cells slots h1 h2 a1 h4 a3 h6
  rcases hl with hl | ⟨host, hl⟩
  · exact va_put g.exec g.bytes g.words hc.2.1 ty0 hc.2.2.1 hc.2.2.2.1 g.own g.K h3 (pw_ws_D B I R sh) h5 p (pw_at_o hs) hc.1 k hk (g.words _ hl) (pw_same (hc.2.2.2.2 k hk)) hfin hd hn hft hlen dg (fun H1 locs1 a1 _ a3 => hgo H1 locs1 a1 a3)
  · exact va_putN g.exec g.bytes g.words hc.2.1 ty0 hc.2.2.1 hc.2.2.2.1 g.own g.K h3 (pw_ws_D B I R sh) h5 p (pw_at_o hs) hc.1 k hk (va_Nw.use rfl (g.nest _ hl)) (pw_same (hc.2.2.2.2 k hk)) hfin hd hn hft hlen dg (fun H1 locs1 a1 _ a3 => hgo H1 locs1 a1 a3)
theorem PW.putFI (g : pw_G y d0 mc ms E B) {p ci k idx : Nat} {ty : FieldType} {v : Int32} (hf : pw_fi y.1.cls idx ci k false ty true) (hi : y.1.name = "<init>") (hlF : ∀ C T N ty0, pw_ck ci C T N ty0 → Cond.fieldLink y.1.cls idx C (T k).2.1 (T k).2.2.1 ∈ pw_GW) (hown : ∀ C T N ty0, pw_ck ci C T N ty0 → C = y.1.cls) (hs : sh[p]? = some (0, ci)) (hn : narrow ty (pw_tr B (.int v)) = pw_tr B (.int v)) (hft : fits ty (pw_tr B (.int v)) = true) (dg : decode y.2.1 pc = .ok (.putfield idx, 3)) (kk : PW E B nL mc ms nc ns (pc + 3) L S (pw_wI I p k v) (R) sh) : PW E B nL mc ms nc ns pc L (.int v :: .ref p :: S) I R sh := by
  obtain ⟨C, T, N, ty0, hc, hk, hl, hr, hty, hfin⟩ := hf
  intro H locs ls cells slots h1 h2 h3 h4 h5 h6
  have hlen : k < (pw_fs B.1 I R p ci).length := by rw [pw_fs_len, pw_n_of hc]; exact hk
  have hd : parseFieldDescriptor (T k).2.2.1 = some ty := by rw [hc.2.2.1 k hk, hty]
  have hgo : ∀ (H1 : Heap) (locs1 : List Loc), va_P B.2.1 vwCl ((pw_ws B I R sh).set p (B.1 + p, .inr (ci, (pw_fs B.1 I R p ci).set k (pw_tr B (.int v))))) H1 → va_S (fun q => B.1 ≤ q) E.2.2.2.2.1.heap H1 locs1 → W E.1 E.2.1 E.2.2.1 E.2.2.2.1 E.2.2.2.2.1 E.2.2.2.2.2.1 E.2.2.2.2.2.2.1 E.2.2.2.2.2.2.2.1 E.2.2.2.2.2.2.2.2.1 E.2.2.2.2.2.2.2.2.2.1 H1 locs1 cells slots E.2.2.2.2.2.2.2.2.2.2 (F0 E.2.2.2.2.2.1 (pc + 3) ls (S.map (pw_tr B))) := by
    intro H1 locs1 a1 a3
    have e1 : (pw_fs B.1 I R p ci).set k (pw_tr B (.int v)) = pw_fs B.1 (pw_wI I p k v) (R) p ci := pw_fs_setI hr
    have e2 := pw_ws_set (B := B) (I := I) (I' := pw_wI I p k v) (R := R) (R' := R) hs (fun p' h => pw_wI_ne h) (fun p' h => rfl)
    rw [pw_cell_o] at e2
    rw [e1, e2] at a1
    exact kk H1 locs1 ls cells slots h1 h2 a1 h4 a3 h6
  exact va_putF g.exec g.bytes g.words hc.2.1 ty0 hc.2.2.1 hc.2.2.2.1 g.own g.K h3 (pw_ws_D B I R sh) h5 p (pw_at_o hs) hc.1 k hk (g.words _ (hlF C T N ty0 hc)) (pw_same (hc.2.2.2.2 k hk)) hfin ((g.mname hi).trans hi) ((hc.2.2.2.2 k hk).trans (hown C T N ty0 hc)) hd hn hft hlen dg (fun H1 locs1 a1 _ a3 => hgo H1 locs1 a1 a3)
theorem PW.putFR (g : pw_G y d0 mc ms E B) {p ci k idx : Nat} {ty : FieldType} {q : Nat} (hf : pw_fi y.1.cls idx ci k true ty true) (hi : y.1.name = "<init>") (hlF : ∀ C T N ty0, pw_ck ci C T N ty0 → Cond.fieldLink y.1.cls idx C (T k).2.1 (T k).2.2.1 ∈ pw_GW) (hown : ∀ C T N ty0, pw_ck ci C T N ty0 → C = y.1.cls) (hs : sh[p]? = some (0, ci)) (hn : narrow ty (pw_tr B (.ref q)) = pw_tr B (.ref q)) (hft : fits ty (pw_tr B (.ref q)) = true) (dg : decode y.2.1 pc = .ok (.putfield idx, 3)) (kk : PW E B nL mc ms nc ns (pc + 3) L S (I) (pw_wR R p k (some q)) sh) : PW E B nL mc ms nc ns pc L (.ref q :: .ref p :: S) I R sh := by
  obtain ⟨C, T, N, ty0, hc, hk, hl, hr, hty, hfin⟩ := hf
  intro H locs ls cells slots h1 h2 h3 h4 h5 h6
  have hlen : k < (pw_fs B.1 I R p ci).length := by rw [pw_fs_len, pw_n_of hc]; exact hk
  have hd : parseFieldDescriptor (T k).2.2.1 = some ty := by rw [hc.2.2.1 k hk, hty]
  have hgo : ∀ (H1 : Heap) (locs1 : List Loc), va_P B.2.1 vwCl ((pw_ws B I R sh).set p (B.1 + p, .inr (ci, (pw_fs B.1 I R p ci).set k (pw_tr B (.ref q))))) H1 → va_S (fun q => B.1 ≤ q) E.2.2.2.2.1.heap H1 locs1 → W E.1 E.2.1 E.2.2.1 E.2.2.2.1 E.2.2.2.2.1 E.2.2.2.2.2.1 E.2.2.2.2.2.2.1 E.2.2.2.2.2.2.2.1 E.2.2.2.2.2.2.2.2.1 E.2.2.2.2.2.2.2.2.2.1 H1 locs1 cells slots E.2.2.2.2.2.2.2.2.2.2 (F0 E.2.2.2.2.2.1 (pc + 3) ls (S.map (pw_tr B))) := by
    intro H1 locs1 a1 a3
    have e1 : (pw_fs B.1 I R p ci).set k (pw_tr B (.ref q)) = pw_fs B.1 (I) (pw_wR R p k (some q)) p ci := pw_fs_setQ hr
    have e2 := pw_ws_set (B := B) (I := I) (I' := I) (R := R) (R' := pw_wR R p k (some q)) hs (fun p' h => rfl) (fun p' h => pw_wR_ne h)
    rw [pw_cell_o] at e2
    rw [e1, e2] at a1
    exact kk H1 locs1 ls cells slots h1 h2 a1 h4 a3 h6
  exact va_putF g.exec g.bytes g.words hc.2.1 ty0 hc.2.2.1 hc.2.2.2.1 g.own g.K h3 (pw_ws_D B I R sh) h5 p (pw_at_o hs) hc.1 k hk (g.words _ (hlF C T N ty0 hc)) (pw_same (hc.2.2.2.2 k hk)) hfin ((g.mname hi).trans hi) ((hc.2.2.2.2 k hk).trans (hown C T N ty0 hc)) hd hn hft hlen dg (fun H1 locs1 a1 _ a3 => hgo H1 locs1 a1 a3)
theorem PW.iald (g : pw_G y d0 mc ms E B) {p n : Nat} {i : Int32} (hs : sh[p]? = some (1, n)) (hi : vp_in i n) (dg : decode y.2.1 pc = .ok (.iaload, 1)) (kk : PW E B nL mc ms nc ns (pc + 1) L (.int (I p i.toNatClampNeg) :: S) I R sh) : PW E B nL mc ms nc ns pc L (.int i :: .ref p :: S) I R sh :=
  fun H locs ls cells slots h1 h2 h3 h4 h5 h6 => va_iald g.exec g.bytes g.K h3 p 0 (pw_at_i (by decide) (by decide) hs) rfl hi dg (kk H locs ls cells slots h1 h2 h3 h4 h5 h6)
theorem PW.cald (g : pw_G y d0 mc ms E B) {p n : Nat} {i : Int32} (hs : sh[p]? = some (2, n)) (hi : vp_in i n) (dg : decode y.2.1 pc = .ok (.caload, 1)) (kk : PW E B nL mc ms nc ns (pc + 1) L (.int (I p i.toNatClampNeg) :: S) I R sh) : PW E B nL mc ms nc ns pc L (.int i :: .ref p :: S) I R sh :=
  fun H locs ls cells slots h1 h2 h3 h4 h5 h6 => va_cald g.exec g.bytes g.K h3 p 1 (pw_at_i (by decide) (by decide) hs) rfl hi dg (kk H locs ls cells slots h1 h2 h3 h4 h5 h6)
theorem PW.zald (g : pw_G y d0 mc ms E B) {p n : Nat} {i : Int32} (hs : sh[p]? = some (3, n)) (hi : vp_in i n) (dg : decode y.2.1 pc = .ok (.baload, 1)) (kk : PW E B nL mc ms nc ns (pc + 1) L (.int (I p i.toNatClampNeg) :: S) I R sh) : PW E B nL mc ms nc ns pc L (.int i :: .ref p :: S) I R sh :=
  fun H locs ls cells slots h1 h2 h3 h4 h5 h6 => va_zald g.exec g.bytes g.K h3 p 2 (pw_at_i (by decide) (by decide) hs) rfl hi dg (kk H locs ls cells slots h1 h2 h3 h4 h5 h6)
theorem PW.iast (g : pw_G y d0 mc ms E B) {p n : Nat} {i v : Int32} (hs : sh[p]? = some (1, n)) (hi : vp_in i n) (dg : decode y.2.1 pc = .ok (.iastore, 1)) (kk : PW E B nL mc ms nc ns (pc + 1) L S (pw_wI I p i.toNatClampNeg (v)) R sh) : PW E B nL mc ms nc ns pc L (.int v :: .int i :: .ref p :: S) I R sh :=
  fun H locs ls cells slots h1 h2 h3 h4 h5 h6 => va_iast g.exec g.bytes g.K h3 (pw_ws_D B I R sh) h5 p 0 (pw_at_i (by decide) (by decide) hs) rfl hi dg (fun H1 locs1 a1 _ a3 => kk H1 locs1 ls cells slots h1 h2 (by
    have e2 := pw_ws_set (B := B) (I := I) (I' := pw_wI I p i.toNatClampNeg (v)) (R := R) (R' := R) hs (fun p' h => pw_wI_ne h) (fun p' h => rfl)
    have e3 : pw_cell B (pw_wI I p i.toNatClampNeg (v)) R p (1, n) = .inl (B.2.2 1, n, .inl (upd (I p) i.toNatClampNeg (v))) := by
      unfold pw_cell
      rw [if_neg (show ¬ (1 : Nat) = 0 by decide), if_pos (show (1 : Nat) < 10 by decide)]
      rw [pw_wI_eq]
    rw [e3] at e2
    rw [e2] at a1
    exact a1) h4 a3 h6)
theorem PW.cast (g : pw_G y d0 mc ms E B) {p n : Nat} {i v : Int32} (hs : sh[p]? = some (2, n)) (hi : vp_in i n) (dg : decode y.2.1 pc = .ok (.castore, 1)) (kk : PW E B nL mc ms nc ns (pc + 1) L S (pw_wI I p i.toNatClampNeg (vp_nar .char v)) R sh) : PW E B nL mc ms nc ns pc L (.int v :: .int i :: .ref p :: S) I R sh :=
  fun H locs ls cells slots h1 h2 h3 h4 h5 h6 => va_cast g.exec g.bytes g.K h3 (pw_ws_D B I R sh) h5 p 1 (pw_at_i (by decide) (by decide) hs) rfl hi dg (fun H1 locs1 a1 _ a3 => kk H1 locs1 ls cells slots h1 h2 (by
    have e2 := pw_ws_set (B := B) (I := I) (I' := pw_wI I p i.toNatClampNeg (vp_nar .char v)) (R := R) (R' := R) hs (fun p' h => pw_wI_ne h) (fun p' h => rfl)
    have e3 : pw_cell B (pw_wI I p i.toNatClampNeg (vp_nar .char v)) R p (2, n) = .inl (B.2.2 2, n, .inl (upd (I p) i.toNatClampNeg (vp_nar .char v))) := by
      unfold pw_cell
      rw [if_neg (show ¬ (2 : Nat) = 0 by decide), if_pos (show (2 : Nat) < 10 by decide)]
      rw [pw_wI_eq]
    rw [e3] at e2
    rw [e2] at a1
    exact a1) h4 a3 h6)
theorem PW.zast (g : pw_G y d0 mc ms E B) {p n : Nat} {i v : Int32} (hs : sh[p]? = some (3, n)) (hi : vp_in i n) (dg : decode y.2.1 pc = .ok (.bastore, 1)) (kk : PW E B nL mc ms nc ns (pc + 1) L S (pw_wI I p i.toNatClampNeg (vp_nar .boolean v)) R sh) : PW E B nL mc ms nc ns pc L (.int v :: .int i :: .ref p :: S) I R sh :=
  fun H locs ls cells slots h1 h2 h3 h4 h5 h6 => va_zast g.exec g.bytes g.K h3 (pw_ws_D B I R sh) h5 p 2 (pw_at_i (by decide) (by decide) hs) rfl hi dg (fun H1 locs1 a1 _ a3 => kk H1 locs1 ls cells slots h1 h2 (by
    have e2 := pw_ws_set (B := B) (I := I) (I' := pw_wI I p i.toNatClampNeg (vp_nar .boolean v)) (R := R) (R' := R) hs (fun p' h => pw_wI_ne h) (fun p' h => rfl)
    have e3 : pw_cell B (pw_wI I p i.toNatClampNeg (vp_nar .boolean v)) R p (3, n) = .inl (B.2.2 3, n, .inl (upd (I p) i.toNatClampNeg (vp_nar .boolean v))) := by
      unfold pw_cell
      rw [if_neg (show ¬ (3 : Nat) = 0 by decide), if_pos (show (3 : Nat) < 10 by decide)]
      rw [pw_wI_eq]
    rw [e3] at e2
    rw [e2] at a1
    exact a1) h4 a3 h6)
theorem PW.alen (g : pw_G y d0 mc ms E B) {p t n : Nat} {v : Int32} (ht0 : 0 < t) (ht : t < 4) (hs : sh[p]? = some (t, n)) (hv : Int32.ofNat n = v) (dg : decode y.2.1 pc = .ok (.arraylength, 1)) (kk : PW E B nL mc ms nc ns (pc + 1) L (.int v :: S) I R sh) : PW E B nL mc ms nc ns pc L (.ref p :: S) I R sh := by
  intro H locs ls cells slots h1 h2 h3 h4 h5 h6
  have hat := pw_at_i (B := B) (I := I) (R := R) ht0 (by omega) hs
  have hty : ∃ ty, (pw_tys B)[t - 1]? = some (B.2.2 t, ty) := by
    match t, ht0, ht with
    | 1, _, _ => exact ⟨_, rfl⟩
    | 2, _, _ => exact ⟨_, rfl⟩
    | 3, _, _ => exact ⟨_, rfl⟩
  obtain ⟨ty, hty⟩ := hty
  exact va_alen g.exec g.bytes g.K h3 p (t - 1) hat hty hv dg (kk H locs ls cells slots h1 h2 h3 h4 h5 h6)
end PWI
section PWC
variable {y y2 : pM} {d0 d2 : Nat} {E : pE} {B : pB} {nL mc ms nc ns mc2 ms2 pc : Nat} {L : List (Option Value)} {S : List Value} {I : pI} {R : pR} {sh : pS}
/-- the picture holds in a state -/
def pw_rl (B : pB) (I : pI) (R : pR) (sh : pS) (U : State) : Prop := U.heap.size = B.1 + sh.length ∧ va_P B.2.1 vwCl (pw_ws B I R sh) U.heap ∧ va_K B.2.1 vwCl (pw_tys B) U ∧ (∀ w ∈ pw_NW, va_Nw w U) ∧ pw_jd B U
abbrev pQ : Type := Option Value → pI → pR → pS → Prop
def pw_Qc (B : pB) (sz mc : Nat) (Q : pQ) : Array Value → State → Outcome → State → Prop := fun _ st o t => ∃ r I R sh, Q r I R sh ∧ o = .returned (r.map (pw_tr B)) ∧ sh.length = sz + mc ∧ pw_rl B I R sh t ∧ va_F (fun q => B.1 ≤ q) st t
def pw_rm (d mc ms : Nat) : Room := { frames := d, cells := mc, slots := ms, locals := 80 * d }
def pw_wd (y : pM) : List Cond := .code y.1 y.2.1 y.2.2.1 y.2.2.2 :: pw_GW
/-- A METHOD's CONTRACT: from the picture I R sh with these arguments it returns, and what it answers and the picture behind it are as Q says; it makes mc cells -/
def Ctr (d mc ms : Nat) (y : pM) (as : List Value) (I : pI) (R : pR) (sh : pS) (Q : pQ) : Prop :=
  ∀ (l : Launch) (B : pB), Met l y.1 (pw_wd y) (pw_rm d mc ms) (va_Pc (as.map (pw_tr B)) (pw_rl B I R sh)) (pw_Qc B sh.length mc Q) mc ms (fun q => B.1 ≤ q)
/-- the end that a contract's frame comes to -/
def pw_F (Q : pQ) (sz mc ms : Nat) (E : pE) (B : pB) : Prop := E.2.2.2.2.2.2.2.2.2.2 = MQ E.2.2.2.2.2.2.2.1 (pw_Qc B sz mc Q) E.2.2.2.2.2.2.1 E.2.2.2.2.1 mc ms (fun q => B.1 ≤ q) ∧ E.2.2.2.2.1.heap.size = B.1 + sz
/-- the locals at a method's entry -/
def pw_in : List Value → List (Option Value)
  | [] => []
  | .long v :: t => some (.long v) :: none :: pw_in t
  | v :: t => some v :: pw_in t
theorem pw_in_args (b : pB) : ∀ (as : List Value) (i : Nat), (∀ v ∈ as, ∀ x, v ≠ .double x) → pw_lv b i (pw_in as) = lv_args i (as.map (pw_tr b))
  | [], i, _ => rfl
  | .long v :: t, i, h => by
    have ih := pw_in_args b t (i + 2) (fun v hv => h v (List.mem_cons_of_mem _ hv))
    simp only [pw_in, pw_lv, List.map_cons, lv_args, pw_tr, Value.category]
    rw [ih]; rfl
  | .int v :: t, i, h => by
    have ih := pw_in_args b t (i + 1) (fun v hv => h v (List.mem_cons_of_mem _ hv))
    simp only [pw_in, pw_lv, List.map_cons, lv_args, pw_tr, Value.category]
    rw [ih]; rfl
  | .ref v :: t, i, h => by
    have ih := pw_in_args b t (i + 1) (fun v hv => h v (List.mem_cons_of_mem _ hv))
    simp only [pw_in, pw_lv, List.map_cons, lv_args, pw_tr, Value.category]
    rw [ih]; rfl
  | .null :: t, i, h => by
    have ih := pw_in_args b t (i + 1) (fun v hv => h v (List.mem_cons_of_mem _ hv))
    simp only [pw_in, pw_lv, List.map_cons, lv_args, pw_tr, Value.category]
    rw [ih]; rfl
  | .float v :: t, i, h => by
    have ih := pw_in_args b t (i + 1) (fun v hv => h v (List.mem_cons_of_mem _ hv))
    simp only [pw_in, pw_lv, List.map_cons, lv_args, pw_tr, Value.category]
    rw [ih]; rfl
  | .retAddr v :: t, i, h => by
    have ih := pw_in_args b t (i + 1) (fun v hv => h v (List.mem_cons_of_mem _ hv))
    simp only [pw_in, pw_lv, List.map_cons, lv_args, pw_tr, Value.category]
    rw [ih]; rfl
  | .double v :: t, i, h => absurd rfl (h _ List.mem_cons_self v)
theorem pw_lv_app (b : pB) : ∀ (L : List (Option Value)) (i n : Nat), pw_lv b i (L ++ List.replicate n none) = pw_lv b i L
  | [], i, n => by
    induction n generalizing i with
    | zero => rfl
    | succ n ih => rw [List.replicate_succ]; exact ih (i + 1)
  | none :: t, i, n => by
    show pw_lv b (i + 1) (t ++ List.replicate n none) = pw_lv b (i + 1) t
    exact pw_lv_app b t (i + 1) n
  | some v :: t, i, n => by
    show (i, pw_tr b v) :: pw_lv b (i + 1) (t ++ List.replicate n none) = (i, pw_tr b v) :: pw_lv b (i + 1) t
    rw [pw_lv_app b t (i + 1) n]
theorem pw_sl_len (b : pB) : ∀ as : List Value, (lg_sl (as.map (pw_tr b))).length = (lg_sl as).length
  | [] => rfl
  | v :: t => by
    have ih := pw_sl_len b t
    unfold lg_sl at ih ⊢
    simp only [List.map_cons, List.flatMap_cons, List.length_append, pw_tr_cat]
    rw [ih]
    split <;> rfl
theorem Ctr.of {as : List Value} {Q : pQ} (L0 : List (Option Value)) (hy : plainName y.1.cls = true) (hL : pw_in as ++ List.replicate (y.2.2.1 - (pw_in as).length) none = L0) (hn : (lg_sl as).length ≤ y.2.2.1) (has : ∀ v ∈ as, ∀ x, v ≠ .double x)
    (body : ∀ (E : pE) (B : pB), pw_G y d0 mc ms E B → pw_F Q sh.length mc ms E B → PW E B y.2.2.1 mc ms mc ms 0 L0 [] I R sh) : Ctr d0 mc ms y as I R sh Q := by
  intro l B
  refine Met.ofW (cc := y.2.1) (maxL := y.2.2.1) (ret := y.2.2.2) hy rfl ?_
  intro p e s m args below meth c s₁ Bd hml hv
  obtain ⟨rfl, hsz, hP, hK, hN, hJ⟩ := hv
  have hts := atoms_spec (ws := pw_wd y) Bd.pre
  have hown : s.vm.findClass y.1.cls = some m.cls := findClass_of_methodNamed Bd.named
  have hnm : meth.name = y.1.name := (name_of_methodNamed Bd.named Bd.method).1
  have hE := body (p, l, e, (headSpec (pw_wd y) (pw_rm d0 mc ms)).room, s, m, (as.map (pw_tr B)).toArray, below, meth, c, MQ below (pw_Qc B sh.length mc Q) (as.map (pw_tr B)).toArray s mc ms (fun q => B.1 ≤ q)) B
    ⟨Bd.exec, Bd.bytes, hml, Bd.returns, hown, fun w hw => hts w (List.mem_cons_of_mem _ hw), Bd.notSynchronized, fun _ => hnm, hK, hN, by rw [hsz]; exact Nat.le_add_right _ _, Nat.le_refl _, Nat.le_refl _, Nat.le_refl _, Nat.le_refl _, hJ⟩ ⟨rfl, hsz⟩
  have hl := lv_entry (as.map (pw_tr B)) (n := y.2.2.1) (by rw [pw_sl_len]; exact hn)
  rw [lg_entry_eq]
  refine hE s.heap [] _ 0 0 (by omega) (by omega) hP (by rw [Nat.add_zero]; exact hsz) va_S.rf ?_
  rw [← hL, pw_lv_app, pw_in_args _ _ _ has]
  exact hl
/-- returns -/
theorem pw_end {Q : pQ} {sz : Nat} {r : Option Value} {H : Heap} {locs : List Loc} {cells : Nat} (g : pw_G y d0 mc ms E B) (hF : pw_F Q sz mc ms E B) (hq : Q r I R sh) (h1 : cells + 0 = mc) (h3 : va_P B.2.1 vwCl (pw_ws B I R sh) H) (h4 : E.2.2.2.2.1.heap.size + cells = B.1 + sh.length) (h5 : va_S (fun q => B.1 ≤ q) E.2.2.2.2.1.heap H locs) (hz : H.size ≤ E.2.2.2.2.1.heap.size + cells) :
    ∀ t : State, t.heap = H → E.2.2.2.2.1.WarmedH t.vm → pw_Qc B sz mc Q E.2.2.2.2.2.2.1 E.2.2.2.2.1 (.returned (r.map (pw_tr B))) t := by
  intro t ht hW
  have hlow : B.1 + sh.length ≤ H.size := by
    cases hn : sh.length with
    | zero =>
      have := g.low
      have := h5.1
      omega
    | succ n =>
      have hlt : n < sh.length := by omega
      have := (h3 n _ (pw_ws_at (List.getElem?_eq_getElem hlt))).lt
      simp only at this
      omega
  refine ⟨r, I, R, sh, hq, rfl, ?_, ⟨?_, ?_, va_K.moved hW.alike g.K, fun w hw => ?_, pw_jd_to g.jd hW (fun q h1 h2 => by rw [ht]; exact h5.2.1 q h1 h2)⟩, h5.F ht⟩
  · have := hF.2
    omega
  · rw [ht]; omega
  · rw [ht]; exact h3
  · exact pw_NW_warm hW w hw (g.nest w hw)
theorem PW.iret {Q : pQ} {sz : Nat} {v : Int32} (g : pw_G y d0 mc ms E B) (hF : pw_F Q sz mc ms E B) (hr : y.2.2.2 = some .int) (dg : decode y.2.1 pc = .ok (.ireturn, 1)) (hq : Q (some (.int v)) I R sh) : PW E B nL mc ms 0 ns pc L [.int v] I R sh := by
  intro H locs ls cells slots h1 h2 h3 h4 h5 h6
  refine pw_sz (fun hz => ?_)
  refine W.widen (k := mc) (n := ms) (by omega) (by omega) ?_
  rw [hF.1]
  exact W.iret g.exec g.bytes (g.ret.trans hr) (pw_end g hF hq h1 h3 h4 h5 hz) h5.2.2 dg g.lock
theorem PW.zret {Q : pQ} {sz : Nat} {v : Int32} {ty : FieldType} (g : pw_G y d0 mc ms E B) (hF : pw_F Q sz mc ms E B) (hr : y.2.2.2 = some ty) (hn : narrow ty (.int v) = .int v) (dg : decode y.2.1 pc = .ok (.ireturn, 1)) (hq : Q (some (.int v)) I R sh) : PW E B nL mc ms 0 ns pc L [.int v] I R sh := by
  intro H locs ls cells slots h1 h2 h3 h4 h5 h6
  refine pw_sz (fun hz => ?_)
  refine W.widen (k := mc) (n := ms) (by omega) (by omega) ?_
  rw [hF.1]
  exact W.zret g.exec g.bytes (g.ret.trans hr) hn (pw_end g hF hq h1 h3 h4 h5 hz) h5.2.2 dg g.lock
theorem PW.vret {Q : pQ} {sz : Nat} (g : pw_G y d0 mc ms E B) (hF : pw_F Q sz mc ms E B) (hr : y.2.2.2 = none) (dg : decode y.2.1 pc = .ok (.return_, 1)) (hq : Q none I R sh) : PW E B nL mc ms 0 ns pc L [] I R sh := by
  intro H locs ls cells slots h1 h2 h3 h4 h5 h6
  refine pw_sz (fun hz => ?_)
  refine W.widen (k := mc) (n := ms) (by omega) (by omega) ?_
  rw [hF.1]
  exact W.vret g.exec g.bytes (g.ret.trans hr) (pw_end g hF hq h1 h3 h4 h5 hz) h5.2.2 dg g.lock
/-- behind a call -/
theorem pw_run {p : Program} {l : Launch} {e : Env} {Ro : Room} {s : State} {m : MethodId} {args : Array Value} {below : List Frame} {meth : Method} {c : Code} {H : Heap} {locs : List Loc} {cells slots : Nat} {Q : State → Prop} {ls : Array Slot} {st0 rest : List Value} {Qa : State → Outcome → State → Prop} {free : Addr → Prop}
    (hr : va_Run p l e Ro s m args below meth c H locs cells slots mc2 ms2 (F0 m pc ls st0) rest Qa free)
    (kk : ∀ (v : Option Value) (st₀ t : State) (L : List Loc), st₀.heap = H → s.WarmedH t.vm → Qa st₀ (.returned v) t → (∀ q ∈ L, free q.base) → W p l e Ro s m args below meth c t.heap (locs ++ L) (cells + mc2) (slots + ms2) Q (F0 m (pc + 3) ls (v.toList ++ rest))) : W p l e Ro s m args below meth c H locs cells slots Q (F0 m pc ls st0) := by
  intro T hT X
  obtain ⟨v, st₀, t, T', L, h0, X', hL, e1, e2, hq, st⟩ := hr T hT X
  obtain ⟨t2, a1, b1⟩ := kk v st₀ t L h0 (by rw [← e2]; exact X'.warmed) hq hL T' e1 X'
  exact ⟨t2, st t2 a1, b1⟩
/-- the picture behind a call, and how the caller goes on -/
theorem pw_back {Q : pQ} {as : List Value} {H : Heap} {locs : List Loc} {ls : Array Slot} {cells slots : Nat} {st0 : List Value}
    (hr : va_Run E.1 E.2.1 E.2.2.1 E.2.2.2.1 E.2.2.2.2.1 E.2.2.2.2.2.1 E.2.2.2.2.2.2.1 E.2.2.2.2.2.2.2.1 E.2.2.2.2.2.2.2.2.1 E.2.2.2.2.2.2.2.2.2.1 H locs cells slots mc2 ms2 (F0 E.2.2.2.2.2.1 pc ls st0) (S.map (pw_tr B)) (pw_Qc B sh.length mc2 Q (as.map (pw_tr B)).toArray) (fun q => B.1 ≤ q))
    (kk : ∀ r I' R' sh', Q r I' R' sh' → PW E B nL mc ms nc ns (pc + 3) L (r.toList ++ S) I' R' sh') (h1 : cells + (mc2 + nc) = mc) (h2 : slots + (ms2 + ns) ≤ ms) (h4 : E.2.2.2.2.1.heap.size + cells = B.1 + sh.length) (h5 : va_S (fun q => B.1 ≤ q) E.2.2.2.2.1.heap H locs) (h6 : lv_has ls nL (pw_lv B 0 L)) :
    W E.1 E.2.1 E.2.2.1 E.2.2.2.1 E.2.2.2.2.1 E.2.2.2.2.2.1 E.2.2.2.2.2.2.1 E.2.2.2.2.2.2.2.1 E.2.2.2.2.2.2.2.2.1 E.2.2.2.2.2.2.2.2.2.1 H locs cells slots E.2.2.2.2.2.2.2.2.2.2 (F0 E.2.2.2.2.2.1 pc ls st0) := by
  refine pw_run hr (fun v st₀ t L2 h0 hW hq hL => ?_)
  obtain ⟨r, I', R', sh', hQ, ho, hlen, ⟨hsz, hP, hK, hN, hJ⟩, hz, hkeep⟩ := hq
  have hv : v = r.map (pw_tr B) := by cases ho; rfl
  subst hv
  have e1 : (r.map (pw_tr B)).toList ++ S.map (pw_tr B) = (r.toList ++ S).map (pw_tr B) := by cases r <;> simp
  rw [e1]
  refine kk r I' R' sh' hQ t.heap _ ls _ _ (by omega) (by omega) hP (by omega) ⟨?_, ?_, ?_⟩ h6
  · have := h5.1; rw [h0] at hz; omega
  · intro q hq1 hq2
    have : q < H.size := Nat.lt_of_lt_of_le hq1 h5.1
    rw [hkeep q (by rw [h0]; exact this) hq2, h0]
    exact h5.2.1 q hq1 hq2
  · intro q hq
    rcases List.mem_append.mp hq with h | h
    · exact h5.2.2 q h
    · exact hL q h
theorem pw_blind {as : List Value} : FrameBlind (va_Pc (as.map (pw_tr B)) (pw_rl B I R sh)) := by
  intro a U gg mk h
  obtain ⟨h0, h1, h2, h3, h4, h5⟩ := h
  exact ⟨h0, h1, h2, va_K.moved (u := U) (U := U.calling gg mk a) (Vm.Alike.refl U.vm) h3, fun w hw => va_Nw.same (u := U) (U := U.calling gg mk a) (pw_NW_tab w hw) rfl (h4 w hw), pw_jd_same (u := U) (U := U.calling gg mk a) rfl rfl h5⟩
theorem pw_pre {as : List Value} {H : Heap} {locs : List Loc} {cells : Nat} (g : pw_G y d0 mc ms E B) (h3 : va_P B.2.1 vwCl (pw_ws B I R sh) H) (h4 : E.2.2.2.2.1.heap.size + cells = B.1 + sh.length) (h5 : va_S (fun q => B.1 ≤ q) E.2.2.2.2.1.heap H locs) (hz : H.size ≤ E.2.2.2.2.1.heap.size + cells) :
    ∀ U : State, U.heap = H → E.2.2.2.2.1.WarmedH U.vm → va_Pc (as.map (pw_tr B)) (pw_rl B I R sh) (as.map (pw_tr B)).toArray U := by
  intro U hU hW
  have hlow : B.1 + sh.length ≤ H.size := by
    cases hn : sh.length with
    | zero =>
      have := g.low
      have := h5.1
      omega
    | succ n =>
      have hlt : n < sh.length := by omega
      have := (h3 n _ (pw_ws_at (List.getElem?_eq_getElem hlt))).lt
      simp only at this
      omega
  exact ⟨rfl, by rw [hU]; omega, by rw [hU]; exact h3, va_K.moved hW.alike g.K, fun w hw => pw_NW_warm hW w hw (g.nest w hw), pw_jd_to g.jd hW (fun q h1 h2 => by rw [hU]; exact h5.2.1 q h1 h2)⟩
end PWC
section PWD
variable {y y2 : pM} {d0 d2 : Nat} {E : pE} {B : pB} {nL mc ms nc ns mc2 ms2 pc : Nat} {L : List (Option Value)} {S : List Value} {I : pI} {R : pR} {sh : pS}
theorem pw_good {y2 : pM} (h : Cond.code y2.1 y2.2.1 y2.2.2.1 y2.2.2.2 ∈ pw_GW) : GoodIn pw_GW (pw_wd y2) := by
  intro w hw
  rcases List.mem_cons.mp hw with rfl | hw
  · exact ⟨h, pw_GW_good _ h⟩
  · exact ⟨hw, pw_GW_good _ hw⟩
theorem PW.callS {Q : pQ} {idx : Nat} (as : List Value) (S : List Value) {S0 : List Value} (g : pw_G y d0 mc ms E B) (hM : Ctr d2 mc2 ms2 y2 as I R sh Q) (hw : pw_cl y.1.cls idx 0 y2 as.length) (hd : d2 + 1 ≤ d0) (hm : y2.2.2.1 ≤ 60) (hnl : y.2.2.1 = nL) (hst : S0 = as.reverse ++ S) (hcat : (S.map fun v => v.category).sum ≤ 8) (dg : decode y.2.1 pc = .ok (.invokestatic idx, 3))
    (kk : ∀ r I' R' sh', Q r I' R' sh' → PW E B nL mc ms nc ns (pc + 3) L (r.toList ++ S) I' R' sh') : PW E B nL mc ms (mc2 + nc) (ms2 + ns) pc L S0 I R sh := by
  obtain ⟨hlk, hini, hcd, hdn, hkd⟩ := hw
  subst hst
  intro H locs ls cells slots h1 h2 h3 h4 h5 h6
  refine pw_sz (fun hz => ?_)
  have hfr := g.frames
  have hlo := g.locals
  have hce := g.cells
  have hsl := g.slots
  have hRm : (pw_rm d2 mc2 ms2).frames + 1 ≤ E.2.2.2.1.frames ∧ 8 + (y2.2.2.1 + 11) + (pw_rm d2 mc2 ms2).locals ≤ E.2.2.2.1.locals := by
    show d2 + 1 ≤ _ ∧ 8 + (y2.2.2.1 + 11) + 80 * d2 ≤ _
    omega
  have hcat2 : ((S.map (pw_tr B)).map fun v => v.category).sum ≤ 8 := by
    rw [List.map_map]
    have : ((fun v : Value => v.category) ∘ pw_tr B) = fun v => v.category := by funext v; exact pw_tr_cat _ v
    rw [this]; exact hcat
  rcases hlk with hl | ⟨host, hl⟩
  · exact pw_back (as := as) (va_runS (As := (as.map (pw_tr B))) (rest := S.map (pw_tr B)) (bytes := y2.2.1) (maxL := y2.2.2.1) (ret := y2.2.2.2) ⟨g.exec, g.bytes, g.maxl, g.own, g.words⟩ (hM E.2.1 B) ⟨callB_of as.length g.words (pw_good hcd) rfl rfl rfl (g.words _ hini) (g.words _ hl) hdn hRm, g.words _ hkd⟩ ⟨pw_blind, pw_pre g h3 h4 h5 hz⟩ rfl (by simp) (h6.1.trans hnl.symm) (by simp [List.map_reverse]) (lv_room hcat2) dg ⟨by omega, by omega⟩) kk (by omega) (by omega) h4 h5 h6
  · exact pw_back (as := as) (va_runSN (As := (as.map (pw_tr B))) (rest := S.map (pw_tr B)) (bytes := y2.2.1) (maxL := y2.2.2.1) (ret := y2.2.2.2) ⟨g.exec, g.bytes, g.maxl, g.own, g.words⟩ (hM E.2.1 B) ⟨va_cnB as.length g.words (pw_good hcd) rfl rfl rfl (g.nest _ hl) (g.words _ hini) hdn hRm, g.words _ hkd, trivial⟩ ⟨pw_blind, pw_pre g h3 h4 h5 hz⟩ rfl (by simp) (h6.1.trans hnl.symm) (by simp [List.map_reverse]) (lv_room hcat2) dg ⟨by omega, by omega⟩) kk (by omega) (by omega) h4 h5 h6
theorem PW.callV {Q : pQ} {idx : Nat} {b : Nat} (as : List Value) (S : List Value) {S0 : List Value} (g : pw_G y d0 mc ms E B) (hM : Ctr d2 mc2 ms2 y2 (.ref b :: as) I R sh Q) (hw : pw_cl y.1.cls idx 1 y2 as.length) {ci : Nat} {N : Nat} {T : u_T} {ty : Nat → FieldType} (hb : sh[b]? = some (0, ci)) (hck : pw_ck ci y2.1.cls T N ty) (hd : d2 + 1 ≤ d0) (hm : y2.2.2.1 ≤ 60) (hnl : y.2.2.1 = nL) (hst : S0 = as.reverse ++ .ref b :: S) (hcat : (S.map fun v => v.category).sum ≤ 8) (dg : decode y.2.1 pc = .ok (.invokevirtual idx, 3))
    (kk : ∀ r I' R' sh', Q r I' R' sh' → PW E B nL mc ms nc ns (pc + 3) L (r.toList ++ S) I' R' sh') : PW E B nL mc ms (mc2 + nc) (ms2 + ns) pc L S0 I R sh := by
  obtain ⟨hlk, hini, hcd, hdn, hkd⟩ := hw
  subst hst
  intro H locs ls cells slots h1 h2 h3 h4 h5 h6
  refine pw_sz (fun hz => ?_)
  have hfr := g.frames
  have hlo := g.locals
  have hce := g.cells
  have hsl := g.slots
  have hRm : (pw_rm d2 mc2 ms2).frames + 1 ≤ E.2.2.2.1.frames ∧ 8 + (y2.2.2.1 + 11) + (pw_rm d2 mc2 ms2).locals ≤ E.2.2.2.1.locals := by
    show d2 + 1 ≤ _ ∧ 8 + (y2.2.2.1 + 11) + 80 * d2 ≤ _
    omega
  have hcat2 : ((S.map (pw_tr B)).map fun v => v.category).sum ≤ 8 := by
    rw [List.map_map]
    have : ((fun v : Value => v.category) ∘ pw_tr B) = fun v => v.category := by funext v; exact pw_tr_cat _ v
    rw [this]; exact hcat
  rcases hlk with hl | ⟨host, hl⟩
  · exact pw_back (as := (.ref b :: as)) (va_runV (b := B.1 + b) (As := (as.map (pw_tr B))) (rest := S.map (pw_tr B)) (bytes := y2.2.1) (maxL := y2.2.2.1) (ret := y2.2.2.2) ⟨g.exec, g.bytes, g.maxl, g.own, g.words⟩ (hM E.2.1 B) ⟨callB_of as.length g.words (pw_good hcd) rfl rfl rfl (g.words _ hini) (g.words _ hl) hdn hRm, g.words _ hkd.1, g.words _ hkd.2⟩ ⟨pw_blind, va_recv g.K h3 hck.1 (pw_at_o hb), pw_pre g h3 h4 h5 hz⟩ rfl (by simp) (h6.1.trans hnl.symm) (by simp [List.map_reverse, pw_tr]) (lv_room hcat2) dg ⟨by omega, by omega⟩) kk (by omega) (by omega) h4 h5 h6
  · exact pw_back (as := (.ref b :: as)) (va_runVN (b := B.1 + b) (As := (as.map (pw_tr B))) (rest := S.map (pw_tr B)) (bytes := y2.2.1) (maxL := y2.2.2.1) (ret := y2.2.2.2) ⟨g.exec, g.bytes, g.maxl, g.own, g.words⟩ (hM E.2.1 B) ⟨va_cnB as.length g.words (pw_good hcd) rfl rfl rfl (g.nest _ hl) (g.words _ hini) hdn hRm, g.words _ hkd.1, g.words _ hkd.2⟩ ⟨pw_blind, va_recv g.K h3 hck.1 (pw_at_o hb), pw_pre g h3 h4 h5 hz⟩ rfl (by simp) (h6.1.trans hnl.symm) (by simp [List.map_reverse, pw_tr]) (lv_room hcat2) dg ⟨by omega, by omega⟩) kk (by omega) (by omega) h4 h5 h6
theorem PW.callI {Q : pQ} {idx : Nat} {b : Nat} (as : List Value) (S : List Value) {S0 : List Value} (g : pw_G y d0 mc ms E B) (hM : Ctr d2 mc2 ms2 y2 (.ref b :: as) I R sh Q) (hw : pw_cl y.1.cls idx 2 y2 as.length) (hd : d2 + 1 ≤ d0) (hm : y2.2.2.1 ≤ 60) (hnl : y.2.2.1 = nL) (hst : S0 = as.reverse ++ .ref b :: S) (hcat : (S.map fun v => v.category).sum ≤ 8) (dg : decode y.2.1 pc = .ok (.invokespecial idx, 3))
    (kk : ∀ r I' R' sh', Q r I' R' sh' → PW E B nL mc ms nc ns (pc + 3) L (r.toList ++ S) I' R' sh') : PW E B nL mc ms (mc2 + nc) (ms2 + ns) pc L S0 I R sh := by
  obtain ⟨hlk, hini, hcd, hdn, hkd⟩ := hw
  subst hst
  intro H locs ls cells slots h1 h2 h3 h4 h5 h6
  refine pw_sz (fun hz => ?_)
  have hfr := g.frames
  have hlo := g.locals
  have hce := g.cells
  have hsl := g.slots
  have hRm : (pw_rm d2 mc2 ms2).frames + 1 ≤ E.2.2.2.1.frames ∧ 8 + (y2.2.2.1 + 11) + (pw_rm d2 mc2 ms2).locals ≤ E.2.2.2.1.locals := by
    show d2 + 1 ≤ _ ∧ 8 + (y2.2.2.1 + 11) + 80 * d2 ≤ _
    omega
  have hcat2 : ((S.map (pw_tr B)).map fun v => v.category).sum ≤ 8 := by
    rw [List.map_map]
    have : ((fun v : Value => v.category) ∘ pw_tr B) = fun v => v.category := by funext v; exact pw_tr_cat _ v
    rw [this]; exact hcat
  have hwd : pw_wd y2 = Cond.code y2.1 y2.2.1 y2.2.2.1 none :: pw_GW := by unfold pw_wd; rw [hkd.2.2]
  rcases hlk with hl | ⟨host, hl⟩
  · exact pw_back (as := (.ref b :: as)) (va_runI (b := B.1 + b) (As := (as.map (pw_tr B))) (rest := S.map (pw_tr B)) (bytes := y2.2.1) (maxL := y2.2.2.1) ⟨g.exec, g.bytes, g.maxl, g.own, g.words⟩ (hM E.2.1 B) ⟨callB_of as.length g.words (pw_good hcd) hwd rfl rfl (g.words _ hini) (g.words _ hl) hdn hRm, hkd.2.1, g.words _ hkd.1⟩ ⟨pw_blind, pw_pre g h3 h4 h5 hz⟩ rfl (by simp) (h6.1.trans hnl.symm) (by simp [List.map_reverse, pw_tr]) (lv_room hcat2) dg ⟨by omega, by omega⟩) kk (by omega) (by omega) h4 h5 h6
  · exact pw_back (as := (.ref b :: as)) (va_runIN (b := B.1 + b) (As := (as.map (pw_tr B))) (rest := S.map (pw_tr B)) (bytes := y2.2.1) (maxL := y2.2.2.1) ⟨g.exec, g.bytes, g.maxl, g.own, g.words⟩ (hM E.2.1 B) ⟨va_cnB as.length g.words (pw_good hcd) hwd rfl rfl (g.nest _ hl) (g.words _ hini) hdn hRm, hkd.2.1, g.words _ hkd.1⟩ ⟨pw_blind, pw_pre g h3 h4 h5 hz⟩ rfl (by simp) (h6.1.trans hnl.symm) (by simp [List.map_reverse, pw_tr]) (lv_room hcat2) dg ⟨by omega, by omega⟩) kk (by omega) (by omega) h4 h5 h6
end PWD
