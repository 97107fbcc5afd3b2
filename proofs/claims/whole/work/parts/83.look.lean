/-! THE REFERENCE LOOKS FOR WHAT IS WRONG -/
theorem xl_and : ∀ u : Fin 26, (nI u.1 &&& 31) = nI u.1 := by decide
theorem xl_sm : ∀ u : Fin 26, ((nI u.1).toBitVec.smod 32).toNat = u.1 := by decide
theorem xl_bit {x : Int32} {v : Nat} (hv : v < 26) : ((x >>> (nI v &&& 31)) &&& 1 = 1) ↔ x.toBitVec.getLsbD v = true := by
  rw [xl_and ⟨v, hv⟩, ← Int32.toBitVec_inj, Int32.toBitVec_and, Int32.toBitVec_shiftRight]
  have e := xl_sm ⟨v, hv⟩
  simp only at e
  unfold BitVec.sshiftRight'
  rw [e]
  have e1 : (1 : Int32).toBitVec = 1#32 := rfl
  rw [e1]
  constructor
  · intro h
    have := congrArg (fun b => b.getLsbD 0) h
    rw [BitVec.getLsbD_and, BitVec.getLsbD_one, BitVec.getLsbD_sshiftRight] at this
    simpa [show v < 32 by omega] using this
  · intro h
    apply BitVec.eq_of_getLsbD_eq
    intro i hi
    rw [BitVec.getLsbD_and, BitVec.getLsbD_one, BitVec.getLsbD_sshiftRight]
    by_cases h0 : i = 0
    · subst h0; simp [show v < 32 by omega, h]
    · simp [h0]
theorem xl_or {x : Int32} {u v : Nat} (hu : u < 26) (hv : v < 26) : (x ||| ((1 : Int32) <<< (nI u &&& 31))).toBitVec.getLsbD v = (x.toBitVec.getLsbD v || decide (u = v)) := by
  rw [xl_and ⟨u, hu⟩, Int32.toBitVec_or, Int32.toBitVec_shiftLeft]
  have e := xl_sm ⟨u, hu⟩
  simp only at e
  have e1 : (1 : Int32).toBitVec = 1#32 := rfl
  rw [BitVec.getLsbD_or, BitVec.shiftLeft_eq', e, e1, BitVec.getLsbD_shiftLeft, BitVec.getLsbD_one]
  by_cases h : u = v
  · subst h; simp; omega
  · simp [h]; omega
def xl_d (h : List (Nat × Nat)) (v c : Nat) : Bool := (h.take c).any (fun e => e.1 == v)
def xl_as (ev : List (Nat × Nat × Nat × Int32)) (v : Nat) : Bool := ev.any (fun e => e.1 == 2 && e.2.2.1 == v)
theorem xl_d_s {h : List (Nat × Nat)} {v j : Nat} {e : Nat × Nat} (hj : h[j]? = some e) : xl_d h v (j + 1) = (xl_d h v j || decide (e.1 = v)) := by
  unfold xl_d
  rw [List.take_add_one, hj, List.any_append]
  simp
  rfl
theorem xl_d_c {h : List (Nat × Nat)} {v c : Nat} (hc : h.length ≤ c) : xl_d h v c = xl_d h v h.length := by
  unfold xl_d
  rw [List.take_of_length_le hc, List.take_of_length_le (Nat.le_refl _)]
theorem xl_isDataL {I : pI} {R : pR} {v c : Nat} {h : List (Nat × Nat)} {K : Int32 → pI → pR → Prop} {Q : Int32 → pI → pR → Prop} (hn : I 121 54 = nI h.length) (hh : ∀ (i : Nat) (e : Nat × Nat), h[i]? = some e → I 157 i = nI e.1 ∧ e.1 < 1000) (hl : h.length ≤ 60) (hv : v < 26) (hc : c < 1000) (hK : K (if xl_d h v c then 1 else 0) I R) : ∀ m j, j + m = h.length → j ≤ c → l_md_isData_5 (nI v) (nI c) K Q (m + 1) (if xl_d h v j then 1 else 0) (nI j) I R := by
  intro m; induction m with
  | zero =>
    intro j hj hjc
    unfold l_md_isData_5
    rw [hn]
    refine xa_t ((nI_leI (by omega) (by omega)).mpr (by omega)) ?_
    rw [show j = h.length by omega, ← xl_d_c (c := c) (by omega)]; exact hK
  | succ m ih =>
    intro j hj hjc
    have hg : h[j]? = some h[j] := List.getElem?_eq_getElem (by omega)
    generalize h[j] = e at hg
    have he := hh j e hg
    unfold l_md_isData_5
    rw [hn]
    refine xa_f (fun hh => by have := (nI_leI (by omega) (by omega)).mp hh; omega) ?_
    by_cases hcj : c ≤ j
    · refine xa_t ((nI_leI (by omega) (by omega)).mpr hcj) ?_
      rw [show j = c by omega]; exact hK
    · refine xa_f (fun hh => by have := (nI_leI (by omega) (by omega)).mp hh; omega) ?_
      have ih' := ih (j + 1) (by omega) (by omega)
      rw [xl_d_s hg] at ih'
      rw [nI_1]
      cases hd : xl_d h v j with
      | true =>
        rw [hd] at ih'
        exact xa_f' (by simp) (by simpa using ih')
      | false =>
        rw [hd] at ih'
        refine xa_t' (by simp) ⟨vp_in_nI (by omega) (by omega), ?_⟩
        rw [nI_clamp (by omega), he.1]
        by_cases hev : e.1 = v
        · refine xa_t' (by rw [hev]) ?_
          simpa [hev] using ih'
        · refine xa_f' (fun hh => hev ((nI_eq (by omega) (by omega)).mp hh)) ?_
          simpa [hev] using ih'
theorem xl_isData {I : pI} {R : pR} {v c : Nat} {h : List (Nat × Nat)} {Q : Int32 → pI → pR → Prop} (hn : I 121 54 = nI h.length) (hh : ∀ (i : Nat) (e : Nat × Nat), h[i]? = some e → I 157 i = nI e.1 ∧ e.1 < 1000) (hl : h.length ≤ 60) (hv : v < 26) (hc : c < 1000) (hQ : Q (if xl_d h v c then 1 else 0) I R) : w_md_isData (nI v) (nI c) I R Q := by
  unfold w_md_isData
  refine ⟨h.length + 1, ?_⟩
  have := xl_isDataL (K := fun y1 I1 R1 => ((y1 = 0 ∨ y1 = 1) ∧ Q y1 I1 R1)) (Q := Q) (R := R) hn hh hl hv hc ⟨by split <;> simp, hQ⟩ h.length 0 (by omega) (by omega)
  exact this
/-- what an event finds -/
def xl_f1 (h : List (Nat × Nat)) (pr : List (Nat × Nat × Nat × Int32)) (e : Nat × Nat × Nat × Int32) : List (Nat × Nat) :=
  if (e.1 = 0 ∧ ¬ (xl_as pr e.2.2.1 || xl_d h e.2.2.1 h.length) = true) ∨ (e.1 = 1 ∧ ¬ xl_d h e.2.2.1 e.2.2.2.toNatClampNeg = true) then [(2, e.2.1)] else []
def xl_f2 (h : List (Nat × Nat)) (e : Nat × Nat × Nat × Int32) : List (Nat × Nat) :=
  if (e.1 = 2 ∧ xl_d h e.2.2.1 h.length = true) ∨ (e.1 = 3 ∧ xl_d h e.2.2.1 e.2.2.2.toNatClampNeg = true) then [(3, e.2.1)] else []
def xl_f3 (e : Nat × Nat × Nat × Int32) : List (Nat × Nat) := if e.1 = 3 ∧ e.2.2.2 = 4 then [(4, e.2.1)] else []
def xl_fs (h : List (Nat × Nat)) : List (Nat × Nat × Nat × Int32) → List (Nat × Nat × Nat × Int32) → List (Nat × Nat)
  | _, [] => []
  | pr, e :: es => xl_f1 h pr e ++ xl_f2 h e ++ xl_f3 e ++ xl_fs h (pr ++ [e]) es
def xl_W (e : Nat × Nat × Nat × Int32) : Prop := e.1 < 4 ∧ e.2.1 < 1000 ∧ e.2.2.1 < 26 ∧ (e.1 = 1 ∨ e.1 = 3 → ∃ c, c < 1000 ∧ e.2.2.2 = nI c)
def xl_S (p k : Nat) : Bool := p == 121 && (k == 55 || k == 56)
theorem xl_as_1 (pr : List (Nat × Nat × Nat × Int32)) (e : Nat × Nat × Nat × Int32) (v : Nat) : xl_as (pr ++ [e]) v = (xl_as pr v || (decide (e.1 = 2) && decide (e.2.2.1 = v))) := by
  unfold xl_as; rw [List.any_append]; simp; rfl
theorem xl_look {R : pR} {h : List (Nat × Nat)} {K Q : pI → pR → Prop} (hl : h.length ≤ 60) : ∀ (es pr : List (Nat × Nat × Nat × Int32)) (x : Int32) (er : Option (Nat × Nat)) (I : pI), (pr ++ es).length ≤ 170 → (∀ e, e ∈ pr ++ es → xl_W e) → xr_EV I (pr ++ es) → I 121 54 = nI h.length → (∀ (i : Nat) (e : Nat × Nat), h[i]? = some e → I 157 i = nI e.1 ∧ e.1 < 1000) → (∀ v, v < 26 → x.toBitVec.getLsbD v = xl_as pr v) → xk_ER I er → (∀ I', xk_ER I' (xq_fo er (xl_fs h pr es)) → xa_fr xl_S I I' → K I' R) → l_md_look_4 K Q (es.length + 1) x (nI pr.length) I R := by
  intro es; induction es with
  | nil =>
    intro pr x er I hlen hW ev hn hh hx he hK
    unfold l_md_look_4
    rw [ev.1]
    rw [List.append_nil] at *
    exact xa_t ((nI_leI (by omega) (by omega)).mpr (Nat.le_refl _)) (hK I he (xa_fr_r _ _))
  | cons e es ih =>
    intro pr x er I hlen hW ev hn hh hx he hK
    have hlen' : pr.length + (es.length + 1) ≤ 170 := by simpa using hlen
    have hg : (pr ++ e :: es)[pr.length]? = some e := by simp
    have he4 := ev.2 _ _ hg
    have w := hW e (by simp)
    obtain ⟨w1, w2, w3, w4⟩ := w
    have hin : vp_in (nI pr.length) 170 := vp_in_nI (by omega) (by omega)
    -- the rest
    have fin : ∀ I1 er1, xa_fr xl_S I I1 → xk_ER I1 er1 → er1 = xq_fo er (xl_f1 h pr e ++ xl_f2 h e ++ xl_f3 e) → j_md_look_184 (fun y1 y2 I1 R1 => l_md_look_4 K Q (es.length + 1) y1 y2 I1 R1) Q x (nI pr.length) (nI e.2.2.1) I1 R := by
      intro I1 er1 f1 he1 hee
      have g : ∀ p k, ¬ (p = 121 ∧ (k = 55 ∨ k = 56)) → I1 p k = I p k := fun p k hp => f1 p k (by
        simp only [xl_S, Bool.and_eq_false_iff, Bool.or_eq_false_iff, beq_eq_false_iff_ne]; omega)
      have go : ∀ x', (∀ v, v < 26 → x'.toBitVec.getLsbD v = xl_as (pr ++ [e]) v) → l_md_look_4 K Q (es.length + 1) x' (nI pr.length + 1) I1 R := by
        intro x' hx'
        rw [nI_1]
        have := ih (pr ++ [e]) x' er1 I1 (by simpa using hlen) (by simpa using hW) (by
          rw [List.append_assoc, List.singleton_append]
          exact ⟨by rw [g _ _ (by omega)]; exact ev.1, fun i e' hi => by rw [g _ _ (by omega), g _ _ (by omega), g _ _ (by omega), g _ _ (by omega)]; exact ev.2 i e' hi⟩) (by rw [g _ _ (by omega)]; exact hn) (fun i e' hi => by rw [g _ _ (by omega)]; exact hh i e' hi) hx' he1 (fun I' he' f' => hK I' (by
            show xk_ER I' (xq_fo er (xl_f1 h pr e ++ xl_f2 h e ++ xl_f3 e ++ xl_fs h (pr ++ [e]) es))
            rw [xq_fo_app, ← hee]; exact he') (xa_fr_t f1 f'))
        rw [List.length_append, List.length_singleton] at this
        exact this
      unfold j_md_look_184
      rw [nI_clamp (by omega), g 153 _ (by omega), he4.1]
      refine ⟨hin, ?_⟩
      by_cases h2 : e.1 = 2
      · refine xa_t' (xa_e 2 h2) (go _ (fun v hv => ?_))
        rw [xl_or w3 hv, hx v hv, xl_as_1]; simp [h2]
      · refine xa_f' (xa_ne 2 (by omega)) (go _ (fun v hv => ?_))
        rw [hx v hv, xl_as_1]; simp [h2]
    have s153 : ∀ I1 er1, xa_fr xl_S I I1 → xk_ER I1 er1 → er1 = xq_fo er (xl_f1 h pr e ++ xl_f2 h e) → j_md_look_153 (fun y1 y2 I1 R1 => l_md_look_4 K Q (es.length + 1) y1 y2 I1 R1) Q x (nI pr.length) (nI e.2.2.1) I1 R := by
      intro I1 er1 f1 he1 hee
      have g : ∀ p k, ¬ (p = 121 ∧ (k = 55 ∨ k = 56)) → I1 p k = I p k := fun p k hp => f1 p k (by
        simp only [xl_S, Bool.and_eq_false_iff, Bool.or_eq_false_iff, beq_eq_false_iff_ne]; omega)
      unfold j_md_look_153
      rw [nI_clamp (by omega), g 153 _ (by omega), he4.1, g 156 _ (by omega), he4.2.2.2, g 154 _ (by omega), he4.2.1]
      refine ⟨hin, ?_⟩
      by_cases h3 : e.1 = 3
      · refine xa_t' (xa_e 3 h3) ⟨hin, ?_⟩
        by_cases h4 : e.2.2.2 = 4
        · refine xa_t' h4 ⟨hin, ?_⟩
          refine xk_found he1 (c := 4) (by decide) w2 (fun I2 he2 f2 => fin I2 _ (xa_fr_t f1 (fun p k hp => f2 p k ?_)) he2 ?_)
          · simp only [xl_S, Bool.and_eq_false_iff, Bool.or_eq_false_iff, beq_eq_false_iff_ne] at hp; omega
          · rw [xq_fo_app, ← hee, xl_f3, if_pos ⟨h3, h4⟩]; rfl
        · refine xa_f' h4 (fin I1 er1 f1 he1 ?_)
          rw [xl_f3, if_neg (fun h => h4 h.2), List.append_nil]; exact hee
      · refine xa_f' (xa_ne 3 (by omega)) (fin I1 er1 f1 he1 ?_)
        rw [xl_f3, if_neg (fun h => h3 h.1), List.append_nil]; exact hee
    have s142 : ∀ I1 er1, xa_fr xl_S I I1 → xk_ER I1 er1 → er1 = xq_fo er (xl_f1 h pr e) → ((e.1 = 2 ∧ xl_d h e.2.2.1 h.length = true) ∨ (e.1 = 3 ∧ xl_d h e.2.2.1 e.2.2.2.toNatClampNeg = true)) → j_md_look_142 (fun y1 y2 I1 R1 => l_md_look_4 K Q (es.length + 1) y1 y2 I1 R1) Q x (nI pr.length) (nI e.2.2.1) I1 R := by
      intro I1 er1 f1 he1 hee hc
      have g : ∀ p k, ¬ (p = 121 ∧ (k = 55 ∨ k = 56)) → I1 p k = I p k := fun p k hp => f1 p k (by
        simp only [xl_S, Bool.and_eq_false_iff, Bool.or_eq_false_iff, beq_eq_false_iff_ne]; omega)
      unfold j_md_look_142
      rw [nI_clamp (by omega), g 154 _ (by omega), he4.2.1]
      refine ⟨hin, xk_found he1 (c := 3) (by decide) w2 (fun I2 he2 f2 => s153 I2 _ (xa_fr_t f1 (fun p k hp => f2 p k ?_)) he2 ?_)⟩
      · simp only [xl_S, Bool.and_eq_false_iff, Bool.or_eq_false_iff, beq_eq_false_iff_ne] at hp; omega
      · rw [xq_fo_app, ← hee, xl_f2, if_pos hc]; rfl
    have s118 : ∀ I1 er1, xa_fr xl_S I I1 → xk_ER I1 er1 → er1 = xq_fo er (xl_f1 h pr e) → ¬ (e.1 = 2 ∧ xl_d h e.2.2.1 h.length = true) → j_md_look_118 (fun y1 y2 I1 R1 => l_md_look_4 K Q (es.length + 1) y1 y2 I1 R1) Q x (nI pr.length) (nI e.2.2.1) I1 R := by
      intro I1 er1 f1 he1 hee hc
      have g : ∀ p k, ¬ (p = 121 ∧ (k = 55 ∨ k = 56)) → I1 p k = I p k := fun p k hp => f1 p k (by
        simp only [xl_S, Bool.and_eq_false_iff, Bool.or_eq_false_iff, beq_eq_false_iff_ne]; omega)
      unfold j_md_look_118
      rw [nI_clamp (by omega), g 153 _ (by omega), he4.1, g 156 _ (by omega), he4.2.2.2]
      refine ⟨hin, ?_⟩
      by_cases h3 : e.1 = 3
      · refine xa_t' (xa_e 3 h3) ⟨hin, ?_⟩
        obtain ⟨c, hcb, hce⟩ := w4 (Or.inr h3)
        have hcl : e.2.2.2.toNatClampNeg = c := by rw [hce, nI_clamp (by omega)]
        rw [hce]
        refine xl_isData (h := h) (by rw [g _ _ (by omega)]; exact hn) (fun i e' hi => by rw [g _ _ (by omega)]; exact hh i e' hi) hl w3 hcb ?_
        cases hd : xl_d h e.2.2.1 c with
        | true => exact xa_f (by simp) (s142 I1 er1 f1 he1 hee (Or.inr ⟨h3, by rw [hcl]; exact hd⟩))
        | false =>
          refine xa_t (by simp) (s153 I1 er1 f1 he1 ?_)
          rw [xl_f2, if_neg (fun hh => hh.elim hc (fun hh => by rw [hcl, hd] at hh; exact absurd hh.2 (by decide))), List.append_nil]; exact hee
      · refine xa_f' (xa_ne 3 (by omega)) (s153 I1 er1 f1 he1 ?_)
        rw [xl_f2, if_neg (fun hh => hh.elim hc (fun hh => h3 hh.1)), List.append_nil]; exact hee
    have s96 : ∀ I1 er1, xa_fr xl_S I I1 → xk_ER I1 er1 → er1 = xq_fo er (xl_f1 h pr e) → j_md_look_96 (fun y1 y2 I1 R1 => l_md_look_4 K Q (es.length + 1) y1 y2 I1 R1) Q x (nI pr.length) (nI e.2.2.1) I1 R := by
      intro I1 er1 f1 he1 hee
      have g : ∀ p k, ¬ (p = 121 ∧ (k = 55 ∨ k = 56)) → I1 p k = I p k := fun p k hp => f1 p k (by
        simp only [xl_S, Bool.and_eq_false_iff, Bool.or_eq_false_iff, beq_eq_false_iff_ne]; omega)
      unfold j_md_look_96
      rw [nI_clamp (by omega), g 153 _ (by omega), he4.1, g 121 54 (by omega), hn]
      refine ⟨hin, ?_⟩
      by_cases h2 : e.1 = 2
      · refine xa_t' (xa_e 2 h2) ?_
        refine xl_isData (h := h) (by rw [g _ _ (by omega)]; exact hn) (fun i e' hi => by rw [g _ _ (by omega)]; exact hh i e' hi) hl w3 (by omega) ?_
        cases hd : xl_d h e.2.2.1 h.length with
        | true => exact xa_f' (by simp) (s142 I1 er1 f1 he1 hee (Or.inl ⟨h2, hd⟩))
        | false => exact xa_t' (by simp) (s118 I1 er1 f1 he1 hee (fun hh => by rw [hd] at hh; exact absurd hh.2 (by decide)))
      · exact xa_f' (xa_ne 2 (by omega)) (s118 I1 er1 f1 he1 hee (fun hh => h2 hh.1))
    have s85 : ((e.1 = 0 ∧ ¬ (xl_as pr e.2.2.1 || xl_d h e.2.2.1 h.length) = true) ∨ (e.1 = 1 ∧ ¬ xl_d h e.2.2.1 e.2.2.2.toNatClampNeg = true)) → j_md_look_85 (fun y1 y2 I1 R1 => l_md_look_4 K Q (es.length + 1) y1 y2 I1 R1) Q x (nI pr.length) (nI e.2.2.1) I R := by
      intro hc
      unfold j_md_look_85
      rw [nI_clamp (by omega), he4.2.1]
      refine ⟨hin, xk_found he (c := 2) (by decide) w2 (fun I2 he2 f2 => s96 I2 _ (fun p k hp => f2 p k ?_) he2 ?_)⟩
      · simp only [xl_S, Bool.and_eq_false_iff, Bool.or_eq_false_iff, beq_eq_false_iff_ne] at hp; omega
      · rw [xl_f1, if_pos hc]; rfl
    have s61 : ¬ (e.1 = 0 ∧ ¬ (xl_as pr e.2.2.1 || xl_d h e.2.2.1 h.length) = true) → j_md_look_61 (fun y1 y2 I1 R1 => l_md_look_4 K Q (es.length + 1) y1 y2 I1 R1) Q x (nI pr.length) (nI e.2.2.1) I R := by
      intro hc
      unfold j_md_look_61
      rw [nI_clamp (by omega), he4.1, he4.2.2.2]
      refine ⟨hin, ?_⟩
      by_cases h1 : e.1 = 1
      · refine xa_t' (xa_e 1 h1) ⟨hin, ?_⟩
        obtain ⟨c, hcb, hce⟩ := w4 (Or.inl h1)
        have hcl : e.2.2.2.toNatClampNeg = c := by rw [hce, nI_clamp (by omega)]
        rw [hce]
        refine xl_isData (h := h) hn hh hl w3 hcb ?_
        cases hd : xl_d h e.2.2.1 c with
        | true =>
          refine xa_f' (by simp) (s96 I er (xa_fr_r _ _) he ?_)
          rw [xl_f1, if_neg (fun hh => hh.elim hc (fun hh => hh.2 (by rw [hcl, hd])))]; rfl
        | false => exact xa_t' (by simp) (s85 (Or.inr ⟨h1, by rw [hcl, hd]; decide⟩))
      · refine xa_f' (xa_ne 1 (by omega)) (s96 I er (xa_fr_r _ _) he ?_)
        rw [xl_f1, if_neg (fun hh => hh.elim hc (fun hh => h1 hh.1))]; rfl
    have s45 : ∀ b : Bool, b = (xl_as pr e.2.2.1 || xl_d h e.2.2.1 h.length) → j_md_look_45 (fun y1 y2 I1 R1 => l_md_look_4 K Q (es.length + 1) y1 y2 I1 R1) Q x (nI pr.length) (nI e.2.2.1) (if b then 1 else 0) I R := by
      intro b hb
      unfold j_md_look_45
      rw [nI_clamp (by omega), he4.1]
      refine ⟨hin, ?_⟩
      by_cases h0 : e.1 = 0
      · refine xa_t' (xa_e 0 h0) ?_
        cases b with
        | true => exact xa_f (by simp) (s61 (fun hh => hh.2 hb.symm))
        | false => exact xa_t (by simp) (s85 (Or.inl ⟨h0, by rw [← hb]; decide⟩))
      · exact xa_f' (xa_ne 0 (by omega)) (s61 (fun hh => h0 hh.1))
    unfold l_md_look_4
    rw [ev.1]
    refine xa_f (fun hh => by have := (nI_leI (by simp; omega) (by omega)).mp hh; simp at this; omega) ⟨hin, ?_⟩
    rw [nI_clamp (by omega), he4.2.2.1, hn]
    have hb := xl_bit (x := x) w3
    rw [hx _ w3] at hb
    cases ha : xl_as pr e.2.2.1 with
    | true =>
      refine xa_t (hb.mpr ha) ?_
      unfold j_md_look_40
      exact s45 true (by rw [ha]; rfl)
    | false =>
      refine xa_f (fun hh => by rw [hb.mp hh] at ha; cases ha) ?_
      refine xl_isData (h := h) hn hh hl w3 (by omega) ?_
      cases hd : xl_d h e.2.2.1 h.length with
      | true =>
        refine xa_f (by simp) ?_
        unfold j_md_look_40
        exact s45 true (by rw [ha, hd]; rfl)
      | false => exact xa_t (by simp) (s45 false (by rw [ha, hd]; rfl))
theorem xl_lookR {I : pI} {R : pR} {h : List (Nat × Nat)} {ev : List (Nat × Nat × Nat × Int32)} {er : Option (Nat × Nat)} {Q : pI → pR → Prop} (hl : h.length ≤ 60) (h1 : ev.length ≤ 170) (hW : ∀ e, e ∈ ev → xl_W e) (hev : xr_EV I ev) (hn : I 121 54 = nI h.length) (hh : ∀ (i : Nat) (e : Nat × Nat), h[i]? = some e → I 157 i = nI e.1 ∧ e.1 < 1000) (he : xk_ER I er) (hQ : ∀ I', xk_ER I' (xq_fo er (xl_fs h [] ev)) → xa_fr xl_S I I' → Q I' R) : w_md_look I R Q := by
  unfold w_md_look
  exact ⟨ev.length + 1, xl_look hl ev [] 0 er I h1 hW hev hn hh (fun v hv => by simp [xl_as]) he hQ⟩
