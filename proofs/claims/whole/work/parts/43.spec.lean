/-! THE TOKENS AS FUNCTIONS, AND THE GRAMMAR OF EXPRESSIONS -/
def xt_at (ts : List (Nat × Nat × Nat × Nat)) (L i : Nat) : Nat × Nat × Nat × Nat := ts[i]?.getD (256, 0, L, L)
def xt_kd (ts : List (Nat × Nat × Nat × Nat)) (L i : Nat) : Nat := (xt_at ts L i).1
def xt_nm (ts : List (Nat × Nat × Nat × Nat)) (L i : Nat) : Nat := (xt_at ts L i).2.1
def xt_pl (ts : List (Nat × Nat × Nat × Nat)) (L i : Nat) : Nat := (xt_at ts L i).2.2.1
def xt_en (ts : List (Nat × Nat × Nat × Nat)) (L i : Nat) : Nat := (xt_at ts L i).2.2.2
def xt_gd (t : Nat × Nat × Nat × Nat) : Prop := (33 ≤ t.1 ∧ t.1 < 127 ∧ t.2.1 = 0) ∨ t.1 = 257 ∨ (t.1 = 258 ∧ t.2.1 < 10000) ∨ (t.1 = 259 ∧ t.2.1 < 26) ∨ (260 ≤ t.1 ∧ t.1 ≤ 266 ∧ t.2.1 = 0 ∧ t.2.2.1 + 2 ≤ t.2.2.2)
def xt_W (L : Nat) : Nat → List (Nat × Nat × Nat × Nat) → Prop
  | p, [] => p ≤ L
  | p, t :: ts => p ≤ t.2.2.1 ∧ xt_gd t ∧ t.2.2.1 < t.2.2.2 ∧ xt_W L t.2.2.2 ts
def xt_WF (ts : List (Nat × Nat × Nat × Nat)) (L : Nat) : Prop := L ≤ 120 ∧ ts.length ≤ L ∧ ∀ i, i < ts.length → xt_gd (xt_at ts L i) ∧ xt_pl ts L i < xt_en ts L i ∧ xt_en ts L i ≤ xt_pl ts L (i + 1) ∧ i ≤ xt_pl ts L i ∧ xt_en ts L i ≤ L
theorem xt_W_mono {L p p' : Nat} {ts : List (Nat × Nat × Nat × Nat)} (h : xt_W L p ts) (hp : p' ≤ p) : xt_W L p' ts := by
  cases ts with
  | nil => exact Nat.le_trans hp h
  | cons t ts => exact ⟨Nat.le_trans hp h.1, h.2⟩
theorem xt_one_gd {x : Nat → Nat} {L p : Nat} (ok : xt_Ok x L) (hp : p < L) {t : Nat × Nat × Nat × Nat} (h : (xt_one x L p).1 = some t) : t.2.2.1 = p ∧ t.2.2.2 = (xt_one x L p).2 ∧ xt_gd t := by
  have hx := ok.2 p hp
  unfold xt_one at h ⊢
  split at h
  · cases h
  · split at h
    · rename_i h1 h2
      cases h
      rw [if_neg h1, if_pos h2]
      refine ⟨rfl, rfl, ?_⟩
      by_cases h4 : 4 < xt_de x L (L - p) p - p
      · rw [if_pos h4]; exact Or.inr (Or.inl rfl)
      · rw [if_neg h4]
        refine Or.inr (Or.inr (Or.inl ⟨rfl, ?_⟩))
        have hle := xt_de_le x L (L - p) p (by omega)
        have b := xt_dv_lt (x := x) (p := p) (xt_de x L (L - p) p - p) (fun j a c => by
          have := xt_de_dig x L (L - p) p j a (by omega)
          rwa [show xt_ch x L j = x j by simp [xt_ch, show j < L by omega]] at this)
        have b2 : 10 ^ (xt_de x L (L - p) p - p) ≤ 10 ^ 4 := Nat.pow_le_pow_right (by decide) (by omega)
        exact Nat.lt_of_lt_of_le b b2
    · split at h
      · rename_i h1 h2 h3
        cases h
        rw [if_neg h1, if_neg h2, if_pos h3]
        refine ⟨rfl, rfl, Or.inr (Or.inr (Or.inr (Or.inr ⟨?_, ?_, rfl, Nat.le_refl _⟩)))⟩
        · show 260 ≤ xt_pr _ _
          revert h3; unfold xt_pr
          repeat' split
          all_goals simp
        · have := (xt_pr_lt (x p) (xt_ch x L (p + 1))).1
          show xt_pr _ _ ≤ 266
          omega
      · split at h
        · rename_i h1 h2 h3 h4
          cases h
          rw [if_neg h1, if_neg h2, if_neg h3, if_pos h4]
          refine ⟨rfl, rfl, Or.inr (Or.inr (Or.inr (Or.inl ⟨rfl, ?_⟩)))⟩
          show x p - 97 < 26
          omega
        · rename_i h1 h2 h3 h4
          cases h
          rw [if_neg h1, if_neg h2, if_neg h3, if_neg h4]
          refine ⟨rfl, rfl, ?_⟩
          by_cases h38 : x p = 38
          · rw [if_pos h38]; exact Or.inr (Or.inl rfl)
          · rw [if_neg h38]
            refine Or.inl ⟨?_, hx.2, rfl⟩
            show 33 ≤ x p
            omega
theorem xt_tk_W {x : Nat → Nat} {L : Nat} (ok : xt_Ok x L) : ∀ n p, p ≤ L → xt_W L p (xt_tk x L n p) := by
  intro n; induction n with
  | zero => intro p h; exact h
  | succ n ih =>
    intro p h
    unfold xt_tk
    split
    · exact h
    · have hE := xt_one_end (x := x) (L := L) (p := p) (by omega)
      have := ih _ hE.2
      cases ho : (xt_one x L p).1 with
      | none => exact xt_W_mono this (by omega)
      | some t =>
        have hg := xt_one_gd ok (by omega) ho
        refine ⟨by rw [hg.1]; exact Nat.le_refl _, hg.2.2, by rw [hg.1, hg.2.1]; omega, ?_⟩
        rw [hg.2.1]; exact this
theorem xt_W_ix {L : Nat} : ∀ (ts : List (Nat × Nat × Nat × Nat)) p, xt_W L p ts → ∀ i, i < ts.length → xt_gd (xt_at ts L i) ∧ xt_pl ts L i < xt_en ts L i ∧ xt_en ts L i ≤ xt_pl ts L (i + 1) ∧ p + i ≤ xt_pl ts L i ∧ xt_en ts L i ≤ L := by
  intro ts; induction ts with
  | nil => intro p _ i hi; exact absurd hi (Nat.not_lt_zero _)
  | cons t ts ih =>
    intro p h i hi
    cases i with
    | zero =>
      have e1 : t.2.2.2 ≤ xt_pl (t :: ts) L 1 ∧ t.2.2.2 ≤ L := by
        have h4 := h.2.2.2
        cases ts with
        | nil => exact ⟨h4, h4⟩
        | cons u us =>
          refine ⟨h4.1, ?_⟩
          have := ih _ h4 0 (by simp)
          have h5 : xt_en (u :: us) L 0 = u.2.2.2 := rfl
          have h6 := this.2.2.2.2
          have h7 := h4.2.2.1
          have h8 := h4.1
          rw [h5] at h6
          omega
      exact ⟨h.2.1, h.2.2.1, e1.1, h.1, e1.2⟩
    | succ i =>
      have := ih _ h.2.2.2 i (by simpa using hi)
      have h3 := h.2.2.1
      have h1 := h.1
      refine ⟨this.1, this.2.1, this.2.2.1, ?_, this.2.2.2.2⟩
      have h5 := this.2.2.2.1
      show p + (i + 1) ≤ xt_pl ts L i
      omega
theorem xt_tk_WF {x : Nat → Nat} {L : Nat} (ok : xt_Ok x L) : xt_WF (xt_tk x L 120 0) L := by
  have h := xt_tk_len (x := x) (L := L) 120 0 (Nat.zero_le _)
  refine ⟨ok.1, by omega, fun i hi => ?_⟩
  have := xt_W_ix _ _ (xt_tk_W ok 120 0 (Nat.zero_le _)) i hi
  refine ⟨this.1, this.2.1, this.2.2.1, ?_, this.2.2.2.2⟩
  have := this.2.2.2.1; omega
theorem xt_at_ge {ts : List (Nat × Nat × Nat × Nat)} {L i : Nat} (h : ts.length ≤ i) : xt_at ts L i = (256, 0, L, L) := by
  unfold xt_at; rw [List.getElem?_eq_none h]; rfl
theorem xt_at_lt {ts : List (Nat × Nat × Nat × Nat)} {L i : Nat} (h : i < ts.length) : ts[i]? = some (xt_at ts L i) := by
  unfold xt_at; rw [List.getElem?_eq_getElem h]; rfl
theorem xt_kd_lt {ts : List (Nat × Nat × Nat × Nat)} {L i : Nat} (w : xt_WF ts L) (h : xt_kd ts L i ≠ 256) : i < ts.length := by
  by_cases hi : i < ts.length
  · exact hi
  · exfalso; apply h; unfold xt_kd; rw [xt_at_ge (by omega)]
theorem xt_kd_b {ts : List (Nat × Nat × Nat × Nat)} {L i : Nat} (w : xt_WF ts L) : xt_kd ts L i < 267 := by
  by_cases hi : i < ts.length
  · have := (w.2.2 i hi).1
    unfold xt_kd; unfold xt_gd at this; omega
  · unfold xt_kd; rw [xt_at_ge (by omega)]; show 256 < 267; decide
theorem xt_nm_b {ts : List (Nat × Nat × Nat × Nat)} {L i : Nat} (w : xt_WF ts L) (h : xt_kd ts L i ≠ 257) : xt_nm ts L i < 10000 := by
  by_cases hi : i < ts.length
  · have := (w.2.2 i hi).1
    unfold xt_kd at h; unfold xt_nm; unfold xt_gd at this; omega
  · unfold xt_nm; rw [xt_at_ge (by omega)]; show 0 < 10000; decide
theorem xt_pl_b {ts : List (Nat × Nat × Nat × Nat)} {L i : Nat} (w : xt_WF ts L) : xt_pl ts L i ≤ L := by
  by_cases hi : i < ts.length
  · have := w.2.2 i hi; omega
  · unfold xt_pl; rw [xt_at_ge (by omega)]; exact Nat.le_refl _
theorem xt_pl_s {ts : List (Nat × Nat × Nat × Nat)} {L i : Nat} (w : xt_WF ts L) (h : xt_kd ts L i ≠ 256) : xt_pl ts L i + 1 ≤ xt_pl ts L (i + 1) := by
  have := w.2.2 i (xt_kd_lt w h); omega
theorem xt_pl_s2 {ts : List (Nat × Nat × Nat × Nat)} {L i : Nat} (w : xt_WF ts L) (h : 260 ≤ xt_kd ts L i) : xt_pl ts L i + 2 ≤ xt_pl ts L (i + 1) := by
  have := w.2.2 i (xt_kd_lt w (by omega))
  have h1 := this.1
  unfold xt_kd at h; unfold xt_gd at h1
  have h3 := this.2.2.1
  unfold xt_pl xt_en at h3
  unfold xt_pl
  omega
theorem xt_pl_mono {ts : List (Nat × Nat × Nat × Nat)} {L : Nat} (w : xt_WF ts L) : ∀ i j, i ≤ j → xt_pl ts L i ≤ xt_pl ts L j := by
  intro i j h
  induction h with
  | refl => exact Nat.le_refl _
  | step h ih =>
    rename_i m
    by_cases hm : m < ts.length
    · have := w.2.2 m hm
      show _ ≤ xt_pl ts L (m + 1)
      omega
    · have e : xt_pl ts L (m + 1) = L := by unfold xt_pl; rw [xt_at_ge (by omega)]
      show _ ≤ xt_pl ts L (m + 1)
      rw [e]; exact xt_pl_b w
abbrev xp_I : Type := Nat × Nat × Nat × Nat
abbrev xp_S : Type := Nat → Int32
abbrev xp_V : Type := xp_S × List (Nat × Int32) × (Nat × Nat ⊕ Int32)
abbrev xp_A : Type := xp_S → Nat → Int32 → xp_S × Option Int32
abbrev xp_D : Type := xp_A → (Nat → Int32) → (Nat → Int32) → xp_S → xp_V
abbrev xp_X : Type := List xp_I × List xp_I × xp_D × List (Nat × Nat) × List (Nat × xp_D)
def xp_tr (b : Prop) [Decidable b] : Int32 := if b then 1 else 0
def xp_op (o : Nat) (a b : Int32) : Option Int32 :=
  if o = 43 then some (a + b) else if o = 45 then some (a - b) else if o = 42 then some (a * b)
  else if o = 47 then (if b = 0 then none else some (a / b)) else if o = 37 then (if b = 0 then none else some (a - a / b * b))
  else if o = 60 then some (xp_tr (a < b)) else if o = 62 then some (xp_tr (b < a)) else if o = 262 then some (xp_tr (a ≤ b))
  else if o = 263 then some (xp_tr (b ≤ a)) else if o = 260 then some (xp_tr (a = b)) else some (xp_tr (¬ a = b))
def xp_num (n p : Nat) : xp_X := ([(0, n, 1, p)], [(1, n, 0, p)], fun _ _ _ s => (s, [], .inr (nI n)), [], [])
def xp_var (v p : Nat) : xp_X := ([(1, v, 1, p)], [(2, v, 0, p)], fun _ V _ s => (s, [(p, V v)], .inr (V v)), [(p, v)], [])
def xp_un1 (f : Int32 → Int32) (d : xp_D) (p : Nat) : xp_D := fun A V O s => match d A V O s with
  | (s', D, .inr v) => (s', D ++ [(p, f v)], .inr (f v))
  | (s', D, .inl e) => (s', D, .inl e)
def xp_neg (x : xp_X) (p : Nat) : xp_X := (x.1 ++ [(2, 0, 1, p)], x.2.1 ++ [(203, 0, 0, p)], xp_un1 (fun v => -v) x.2.2.1 p, x.2.2.2.1, x.2.2.2.2)
def xp_not (x : xp_X) (p : Nat) : xp_X := (x.1 ++ [(3, 0, 1, p)], x.2.1 ++ [(204, 0, 0, p)], xp_un1 (fun v => xp_tr (v = 0)) x.2.2.1 p, x.2.2.2.1, x.2.2.2.2)
def xp_call1 (m : Nat) (d : xp_D) (p : Nat) : xp_D := fun A V O s => match d A V O s with
  | (s', D, .inr v) => (match A s' m v with
    | (s2, some w) => (s2, D ++ [(p, w)], .inr w)
    | (s2, none) => (s2, D, .inl (2, p)))
  | (s', D, .inl e) => (s', D, .inl e)
def xp_call (m : Nat) (x : xp_X) (p : Nat) : xp_X := (x.1 ++ [(4, m, 1, p)], x.2.1 ++ [(201, m, 0, p)], xp_call1 m x.2.2.1 p, x.2.2.2.1, x.2.2.2.2)
def xp_old (x : xp_X) (p : Nat) : xp_X := ((5, 0, x.1.length + 1, p) :: x.1, (202, 0, x.2.1.length + 1, p) :: x.2.1 ++ [(206, 0, 0, p)], fun _ _ O s => (s, [(p, O p)], .inr (O p)), x.2.2.2.1, [(p, x.2.2.1)])
def xp_bin1 (o : Nat) (d e : xp_D) (p : Nat) : xp_D := fun A V O s => match d A V O s with
  | (s', D, .inr a) => (match e A V O s' with
    | (s2, E, .inr b) => (match xp_op o a b with
      | some w => (s2, D ++ E ++ [(p, w)], .inr w)
      | none => (s2, D ++ E, .inl (3, p)))
    | (s2, E, .inl f) => (s2, D ++ E, .inl f))
  | (s', D, .inl f) => (s', D, .inl f)
def xp_bin (o : Nat) (x y : xp_X) (p : Nat) : xp_X := (x.1 ++ y.1 ++ [(7, o, 1, p)], x.2.1 ++ y.2.1 ++ [(xt_ka o, 0, 0, p)], xp_bin1 o x.2.2.1 y.2.2.1 p, x.2.2.2.1 ++ y.2.2.2.1, x.2.2.2.2 ++ y.2.2.2.2)
def xp_dec (o : Nat) (a : Int32) : Bool := decide (o = 265) == decide (a ≠ 0)
def xp_lg1 (o : Nat) (d e : xp_D) (p : Nat) : xp_D := fun A V O s => match d A V O s with
  | (s', D, .inr a) => if xp_dec o a then (s', D ++ [(p, xp_tr (a ≠ 0))], .inr (xp_tr (a ≠ 0)))
    else (match e A V O s' with
    | (s2, E, .inr b) => (s2, D ++ E ++ [(p, xp_tr (b ≠ 0))], .inr (xp_tr (b ≠ 0)))
    | (s2, E, .inl f) => (s2, D ++ E, .inl f))
  | (s', D, .inl f) => (s', D, .inl f)
def xp_lg (o : Nat) (x y : xp_X) (p : Nat) : xp_X := (x.1 ++ (6, o, y.1.length + 2, p) :: y.1 ++ [(7, o, 1, p)], x.2.1 ++ (205, 0, y.2.1.length + 1, p) :: y.2.1 ++ [(xt_ka o, 0, 0, p)], xp_lg1 o x.2.2.1 y.2.2.1 p, x.2.2.2.1 ++ y.2.2.2.1, x.2.2.2.2 ++ y.2.2.2.2)
def xp_lev (k : Nat) : Nat := if k = 265 then 0 else if k = 264 then 1 else if k = 260 ∨ k = 261 ∨ k = 262 ∨ k = 263 ∨ k = 60 ∨ k = 62 then 2 else if k = 43 ∨ k = 45 then 3 else if k = 42 ∨ k = 47 ∨ k = 37 then 4 else 9
def xp_L (kd pl : Nat → Nat) (f : Nat → Nat ⊕ (Nat × xp_X)) (lv : Nat) : Nat → Nat → xp_X → Nat ⊕ (Nat × xp_X)
  | 0, q, x => .inr (q, x)
  | m + 1, q, x => if xp_lev (kd q) = lv then (match f (q + 1) with
      | .inl e => .inl e
      | .inr (q', y) => if lv = 2 then (if xp_lev (kd q') = 2 then .inl q' else .inr (q', xp_bin (kd q) x y (pl q)))
        else xp_L kd pl f lv m q' (if lv < 2 then xp_lg (kd q) x y (pl q) else xp_bin (kd q) x y (pl q)))
    else .inr (q, x)
def xp_P (kd nm pl : Nat → Nat) : Nat → Nat → Nat → Nat → Bool → Nat → Nat ⊕ (Nat × xp_X)
  | 0, _, _, _, _, p => .inl p
  | n + 1, k, lv, dp, ok, p =>
    if k = 0 then (if 4 < lv then xp_P kd nm pl n 1 0 dp ok p
      else (match xp_P kd nm pl n 0 (lv + 1) dp ok p with
        | .inl f => .inl f
        | .inr (q, x) => xp_L kd pl (fun q => xp_P kd nm pl n 0 (lv + 1) dp ok q) lv 121 q x))
    else if k = 1 then (if kd p = 45 ∨ kd p = 33 then (if 4 ≤ dp then .inl p
        else (match xp_P kd nm pl n 1 0 (dp + 1) ok (p + 1) with
          | .inl f => .inl f
          | .inr (q, x) => .inr (q, if kd p = 45 then xp_neg x (pl p) else xp_not x (pl p))))
      else xp_P kd nm pl n 2 0 dp ok p)
    else if k = 2 then (if kd p = 258 then .inr (p + 1, xp_num (nm p) (pl p))
      else if kd p = 259 then .inr (p + 1, xp_var (nm p) (pl p))
      else if kd p = 77 ∨ kd p = 78 then (match xp_P kd nm pl n 3 0 dp ok (p + 1) with
        | .inl f => .inl f
        | .inr (q, x) => .inr (q, xp_call (if kd p = 78 then 1 else 0) x (pl p)))
      else if kd p = 79 ∧ ok = true then (match xp_P kd nm pl n 3 0 dp false (p + 1) with
        | .inl f => .inl f
        | .inr (q, x) => .inr (q, xp_old x (pl p)))
      else xp_P kd nm pl n 3 0 dp ok p)
    else (if kd p ≠ 40 ∨ 4 ≤ dp then .inl p
      else (match xp_P kd nm pl n 0 0 (dp + 1) ok (p + 1) with
        | .inl f => .inl f
        | .inr (q, x) => if kd q = 41 then .inr (q + 1, x) else .inl q))
