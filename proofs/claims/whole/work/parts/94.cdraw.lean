/-! THE CLASS DRAWS -/
theorem xd_ch {n : Nat} (h : n < 65536) : vp_nar .char (nI n) = nI n := by unfold vp_nar; rw [xa_ch h]
def xd_find (D : List (Nat × Int32)) (p : Nat) : Option Int32 := (D.find? (fun e => e.1 == p)).map (fun e => e.2)
theorem xd_find_c (e : Nat × Int32) (D : List (Nat × Int32)) (p : Nat) : xd_find (e :: D) p = if e.1 = p then some e.2 else xd_find D p := by
  unfold xd_find
  by_cases h : e.1 = p
  · rw [List.find?_cons_of_pos (by simp [h]), if_pos h]; rfl
  · rw [List.find?_cons_of_neg (by simp [h]), if_neg h]
theorem xd_find_n {D : List (Nat × Int32)} {p : Nat} (h : ∀ e, e ∈ D → e.1 ≠ p) : xd_find D p = none := by
  unfold xd_find
  rw [List.find?_eq_none.mpr (fun e he => by simp [h e he])]; rfl
theorem xd_w1 : ∀ (D : List (Nat × Int32)) (g : Nat → Int32) (p : Nat), xv_w1 g D p = if (xd_find D p).isSome then 1 else g p := by
  intro D; induction D with
  | nil => intro g p; rfl
  | cons e D ih =>
    intro g p
    show xv_w1 (xv_u g e.1 1) D p = _
    rw [ih, xd_find_c]
    cases hf : xd_find D p with
    | some v => by_cases h : e.1 = p <;> simp [h]
    | none =>
      unfold xv_u
      by_cases h : e.1 = p
      · simp [h]
      · simp [h, show ¬ p = e.1 from fun e' => h e'.symm]
theorem xd_w2n : ∀ (D : List (Nat × Int32)) (g : Nat → Int32) (p : Nat), (∀ e, e ∈ D → e.1 ≠ p) → xv_w2 g D p = g p := by
  intro D; induction D with
  | nil => intro g p _; rfl
  | cons e D ih =>
    intro g p h
    show xv_w2 (xv_u g e.1 e.2) D p = _
    rw [ih _ _ (fun e he => h e (by simp [he]))]
    unfold xv_u; rw [if_neg (fun e' => h e (by simp) e'.symm)]
theorem xd_w2 : ∀ (D : List (Nat × Int32)) (g : Nat → Int32) (p : Nat) (v : Int32), xf_dis D → xd_find D p = some v → xv_w2 g D p = v := by
  intro D; induction D with
  | nil => intro g p v _ h; cases h
  | cons e D ih =>
    intro g p v hd h
    obtain ⟨h1, h2⟩ := List.pairwise_cons.mp hd
    show xv_w2 (xv_u g e.1 e.2) D p = _
    rw [xd_find_c] at h
    by_cases he : e.1 = p
    · rw [if_pos he] at h
      rw [xd_w2n _ _ _ (fun a ha => by have := h1 a ha; omega)]
      unfold xv_u; rw [if_pos he.symm]; exact Option.some.inj h
    · rw [if_neg he] at h
      exact ih _ _ _ h2 h
/-- the values in their order: m columns from c on -/
def xd_lf (fi : Nat) (D : List (Nat × Int32)) : Nat → Nat → List (Nat × Int32)
  | 0, _ => []
  | m + 1, c => (match xd_find D (fi + c) with
    | some v => [(c, v)]
    | none => []) ++ xd_lf fi D m (c + 1)
theorem xd_lf_b (fi : Nat) (D : List (Nat × Int32)) : ∀ m c, (xd_lf fi D m c).length ≤ m ∧ ∀ e, e ∈ xd_lf fi D m c → c ≤ e.1 ∧ e.1 < c + m := by
  intro m; induction m with
  | zero => intro c; exact ⟨Nat.le_refl _, fun e he => by cases he⟩
  | succ m ih =>
    intro c
    have i := ih (c + 1)
    show ((match xd_find D (fi + c) with
    | some v => [(c, v)]
    | none => []) ++ xd_lf fi D m (c + 1)).length ≤ m + 1 ∧ ∀ e, e ∈ (match xd_find D (fi + c) with
    | some v => [(c, v)]
    | none => []) ++ xd_lf fi D m (c + 1) → _
    cases xd_find D (fi + c) with
    | none =>
      refine ⟨by simp; omega, fun e he => ?_⟩
      have := i.2 e (by simpa using he); omega
    | some v =>
      refine ⟨by simp; omega, fun e he => ?_⟩
      rcases List.mem_cons.mp (show e ∈ (c, v) :: xd_lf fi D m (c + 1) from he) with h | h
      · rw [h]; show c ≤ c ∧ c < _; omega
      · have := i.2 e h; omega
/-- a drawing's list of values -/
def xd_LM (I : pI) (t : Nat) (ls : List (Nat × Int32)) : Prop := I t 5 = nI ls.length ∧ ∀ i e, ls[i]? = some e → I (t + 2) i = nI e.1 ∧ I (t + 3) i = e.2
def xd_oc (t : Nat) : Prop := t = 9 ∨ t = 17 ∨ t = 25 ∨ t = 33 ∨ t = 41 ∨ t = 49
def xd_S (t p k : Nat) : Bool := (p == t && (k == 4 || k == 5 || k == 6)) || p == t + 1 || p == t + 2 || p == t + 3 || p == t + 4
theorem xd_S_o {t : Nat} {I I' : pI} (h : xa_fr (xd_S t) I I') (p k : Nat) (hp : ¬ (p = t ∧ (k = 4 ∨ k = 5 ∨ k = 6)) ∧ p ≠ t + 1 ∧ p ≠ t + 2 ∧ p ≠ t + 3 ∧ p ≠ t + 4) : I' p k = I p k := h p k (by
  simp only [xd_S, Bool.or_eq_false_iff, Bool.and_eq_false_iff, beq_eq_false_iff_ne]; omega)
theorem xd_writeL {R : pR} {t a fi la : Nat} {tx : Nat → Nat} {K Q : pI → pR → Prop} (ht : xd_oc t) (ha : a = 55 ∨ a = 82) (hla : la ≤ 120) (htx : ∀ i, i < la → tx i < 65536) : ∀ m c I, c + m = la → fi ≤ c → (∀ i, i < la → I a i = nI (tx i)) → I t 4 = nI (c - fi) → (∀ i, i < c - fi → I (t + 1) i = nI (tx (fi + i))) → (∀ I', I' t 4 = nI (la - fi) → (∀ i, i < la - fi → I' (t + 1) i = nI (tx (fi + i))) → I' t 5 = I t 5 → I' t 6 = I t 6 → xa_fr (xd_S t) I I' → K I' R) → l_dr_write_16 t a (nI la) K Q (m + 1) (nI c) I R := by
  unfold xd_oc at ht
  intro m; induction m with
  | zero =>
    intro c I hc hf hx h4 h1 hK
    unfold l_dr_write_16
    refine xa_t ((nI_leI (by omega) (by omega)).mpr (by omega)) (hK I (by rw [h4]; congr 1; omega) (fun i hi => h1 i (by omega)) rfl rfl (xa_fr_r _ _))
  | succ m ih =>
    intro c I hc hf hx h4 h1 hK
    unfold l_dr_write_16
    rw [h4]
    refine xa_f (fun hh => by have := (nI_leI (by omega) (by omega)).mp hh; omega) (xa_f (fun hh => by have := (xa_lle 120 (by omega) (by omega)).mp hh; omega) (xa_f (fun hh => by have := (xa_lle 120 (by omega) (by omega)).mp hh; omega) ⟨vp_in_nI (by omega) (by omega), vp_in_nI (by omega) (by omega), ?_⟩))
    rw [nI_clamp (by omega), nI_clamp (by omega), hx c (by omega), xd_ch (htx c (by omega))]
    refine xa_a (xa_a ?_)
    rw [nI_1, show pw_wI I (t + 1) (c - fi) (nI (tx c)) t 4 = nI (c - fi) by rw [xa_p (by omega)]; exact h4, nI_1]
    refine ih (c + 1) _ (by omega) (by omega) (fun i hi => by rw [xa_p (by omega), xa_p (by omega)]; exact hx i hi) (by rw [xa_w, if_pos ⟨rfl, rfl⟩]; congr 1; omega) (fun i hi => ?_) (fun I' e4 e1 e5 e6 f' => hK I' e4 e1 (by rw [e5, xa_w, if_neg (by omega), xa_p (by omega)]) (by rw [e6, xa_w, if_neg (by omega), xa_p (by omega)]) (xa_fr_t (xa_fr_w (xa_fr_w (xa_fr_r _ _) (by simp [xd_S])) (by simp [xd_S])) f'))
    rw [xa_p (by omega), xa_w]
    by_cases h : i = c - fi
    · rw [if_pos ⟨rfl, h⟩, show fi + i = c by omega]
    · rw [if_neg (fun e => h e.2)]; exact h1 i (by omega)
theorem xd_write {I : pI} {R : pR} {t a fi la : Nat} {tx : Nat → Nat} {Q : pI → pR → Prop} (ht : xd_oc t) (ha : a = 55 ∨ a = 82) (hf : fi ≤ la) (hla : la ≤ 120) (htx : ∀ i, i < la → tx i < 65536) (hx : ∀ i, i < la → I a i = nI (tx i)) (hQ : ∀ I', I' t 4 = nI (la - fi) → (∀ i, i < la - fi → I' (t + 1) i = nI (tx (fi + i))) → I' t 5 = 0 → I' t 6 = 1 → xa_fr (xd_S t) I I' → Q I' R) : w_dr_write t a (nI fi) (nI la) I R Q := by
  have ht' := ht
  unfold xd_oc at ht'
  unfold w_dr_write w_dr_erase
  refine xa_a (xa_a (xa_a (xa_a ?_)))
  have e0 : (if (0 : Int32) < nI fi then nI fi else 0) = nI fi := by
    by_cases h : (0 : Int32) < nI fi
    · rw [if_pos h]
    · rw [if_neg h]
      have : ¬ 0 < fi := fun h' => h ((xa_llt 0 (by omega) (by omega)).mpr h')
      rw [show fi = 0 by omega]; rfl
  rw [e0]
  refine ⟨la - fi + 1, xd_writeL (tx := tx) ht ha hla htx (la - fi) fi _ (by omega) (by omega) (fun i hi => ?_) ?_ (fun i hi => by omega) (fun I' e4 e1 e5 e6 f' => hQ I' e4 e1 ?_ ?_ ?_)⟩
  · rw [xa_p (by omega), xa_p (by omega), xa_p (by omega), xa_p (by omega)]; exact hx i hi
  · rw [xa_w, if_neg (by omega), xa_w, if_neg (by omega), xa_w, if_neg (by omega), xa_w, if_pos ⟨rfl, rfl⟩, Nat.sub_self]; rfl
  · rw [e5, xa_w, if_neg (by omega), xa_w, if_neg (by omega), xa_w, if_pos ⟨rfl, rfl⟩]
  · rw [e6, xa_w, if_pos ⟨rfl, rfl⟩]
  · exact xa_fr_t (xa_fr_w (xa_fr_w (xa_fr_w (xa_fr_w (xa_fr_r _ _) (by simp [xd_S])) (by simp [xd_S])) (by simp [xd_S])) (by simp [xd_S])) f'
theorem xd_addL {R : pR} {t fi w : Nat} {D : List (Nat × Int32)} {K Q : pI → pR → Prop} (ht : xd_oc t) (hw : fi + w ≤ 120) : ∀ m c ls I, c + m = w → ls.length ≤ c → I t 4 = nI w → (∀ p, p < 120 → I 117 p = if (xd_find D p).isSome then 1 else 0) → (∀ p v, p < 120 → xd_find D p = some v → I 118 p = v) → xd_LM I t ls → (∀ I', xd_LM I' t (ls ++ xd_lf fi D m c) → I' t 4 = I t 4 → I' t 6 = I t 6 → I' (t + 1) = I (t + 1) → xa_fr (xd_S t) I I' → K I' R) → l_dr_addValues_3 t 117 120 118 120 (nI fi) K Q (m + 1) (nI c) I R := by
  have ht' := ht
  unfold xd_oc at ht'
  intro m; induction m with
  | zero =>
    intro c ls I hc hl h4 h7 h8 lm hK
    unfold l_dr_addValues_3
    rw [h4]
    refine xa_t ((nI_leI (by omega) (by omega)).mpr (by omega)) (hK I ?_ rfl rfl rfl (xa_fr_r _ _))
    show xd_LM I t (ls ++ []); rw [List.append_nil]; exact lm
  | succ m ih =>
    intro c ls I hc hl h4 h7 h8 lm hK
    unfold l_dr_addValues_3
    rw [h4]
    refine xa_f (fun hh => by have := (nI_leI (by omega) (by omega)).mp hh; omega) ?_
    rw [nI_add, xq_pick (by omega) (by omega), h7 _ (by omega), nI_1]
    have elf : xd_lf fi D (m + 1) c = (match xd_find D (fi + c) with
      | some v => [(c, v)]
      | none => []) ++ xd_lf fi D m (c + 1) := rfl
    cases hfd : xd_find D (fi + c) with
    | none =>
      rw [hfd] at elf
      refine xa_t rfl (ih (c + 1) ls I (by omega) (by omega) h4 h7 h8 lm (fun I' lm' => hK I' ?_))
      rw [elf]; exact lm'
    | some v =>
      rw [hfd] at elf
      refine xa_f (by simp) ?_
      rw [lm.1]
      refine xa_f (fun hh => by have := (xa_lle 120 (by omega) (by omega)).mp hh; omega) ⟨vp_in_nI (by omega) (by omega), ?_⟩
      rw [nI_clamp (by omega)]
      refine xa_a ?_
      rw [xq_pick (by omega) (by omega), show pw_wI I (t + 2) ls.length (nI c) 118 (fi + c) = v by rw [xa_p (by omega)]; exact h8 _ v (by omega) hfd, show pw_wI I (t + 2) ls.length (nI c) t 5 = nI ls.length by rw [xa_p (by omega)]; exact lm.1, nI_clamp (by omega)]
      refine ⟨vp_in_nI (by omega) (by omega), xa_a (xa_a ?_)⟩
      rw [show pw_wI (pw_wI I (t + 2) ls.length (nI c)) (t + 3) ls.length v t 5 = nI ls.length by rw [xa_p (by omega), xa_p (by omega)]; exact lm.1, nI_1]
      have g : ∀ p k, p ≠ t → p ≠ t + 2 → p ≠ t + 3 → pw_wI (pw_wI (pw_wI I (t + 2) ls.length (nI c)) (t + 3) ls.length v) t 5 (nI (ls.length + 1)) p k = I p k := fun p k a b c => by rw [xa_p a, xa_p c, xa_p b]
      have g4 : ∀ k, k ≠ 5 → pw_wI (pw_wI (pw_wI I (t + 2) ls.length (nI c)) (t + 3) ls.length v) t 5 (nI (ls.length + 1)) t k = I t k := fun k hk => by rw [xa_w, if_neg (by omega), xa_p (by omega), xa_p (by omega)]
      have fr : xa_fr (xd_S t) I (pw_wI (pw_wI (pw_wI I (t + 2) ls.length (nI c)) (t + 3) ls.length v) t 5 (nI (ls.length + 1))) := xa_fr_w (xa_fr_w (xa_fr_w (xa_fr_r _ _) (by simp [xd_S])) (by simp [xd_S])) (by simp [xd_S])
      have lm2 : xd_LM (pw_wI (pw_wI (pw_wI I (t + 2) ls.length (nI c)) (t + 3) ls.length v) t 5 (nI (ls.length + 1))) t (ls ++ [(c, v)]) := by
        refine ⟨by rw [xa_w, if_pos ⟨rfl, rfl⟩, List.length_append]; rfl, fun i e hi => ?_⟩
        rcases xa_app hi with ⟨h, hl'⟩ | ⟨h, he⟩
        · have := lm.2 i e h
          rw [xa_p (by omega), xa_p (by omega), xa_w, if_neg (by omega), xa_p (by omega), xa_w, if_neg (by omega), xa_p (by omega)]; exact this
        · rw [xa_p (by omega), xa_p (by omega), xa_w, if_pos ⟨rfl, h⟩, xa_p (by omega), xa_w, if_pos ⟨rfl, h⟩, he]; exact ⟨rfl, rfl⟩
      generalize pw_wI (pw_wI (pw_wI I (t + 2) ls.length (nI c)) (t + 3) ls.length v) t 5 (nI (ls.length + 1)) = I2 at *
      refine ih (c + 1) (ls ++ [(c, v)]) I2 (by omega) (by simp; omega) (by rw [g4 4 (by omega)]; exact h4) (fun p hp => by rw [g _ _ (by omega) (by omega) (by omega)]; exact h7 p hp) (fun p v hp hv => by rw [g _ _ (by omega) (by omega) (by omega)]; exact h8 p v hp hv) lm2 (fun I' lm' e4 e6 e1 f' => hK I' ?_ (by rw [e4, g4 4 (by omega)]) (by rw [e6, g4 6 (by omega)]) (by rw [e1]; exact funext (fun k => g _ _ (by omega) (by omega) (by omega))) (xa_fr_t fr f'))
      rw [elf]
      rw [List.append_assoc] at lm'; exact lm'
