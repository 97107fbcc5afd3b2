def xq_sl (h : List (Nat × Nat)) (its : List xi_I) : Nat → Nat → List (Nat × Nat)
  | _, 0 => []
  | j, m + 1 => (match its[j]? with
    | some it => xq_s1 h its j it
    | none => []) ++ xq_sl h its (j + 1) m
def xq_r1 (F : xi_F) (r : Nat) : List (Nat × Nat) := match F.2.2.2.2[r]? with
  | some s => if (F.2.2.2.2[r + 1]?.getD F.1.length) - s ≠ F.2.2.2.1.length ∨ r = 6 then [(4, (F.1[s]?.map xi_fi).getD 0)] else []
  | none => []
def xq_rl (F : xi_F) : Nat → Nat → List (Nat × Nat)
  | _, 0 => []
  | r, m + 1 => xq_r1 F r ++ xq_rl F (r + 1) m
def xq_all (F : xi_F) : List (Nat × Nat) := xq_hl F.2.2.2.1 0 F.2.2.2.1.length ++ xq_sl F.2.2.2.1 F.1 0 F.1.length ++ xq_rl F 0 F.2.2.2.2.length
/-- what is known of a feature -/
def xq_FW (F : xi_F) : Prop := F.1.length ≤ 60 ∧ (xi_C F.1).length ≤ 120 ∧ (xi_rs F.1).length ≤ 20 ∧ F.2.2.2.1.length ≤ 60 ∧ F.2.2.2.2.length ≤ 60 ∧ (∀ (i : Nat) (e : Nat × Nat), F.2.2.2.1[i]? = some e → e.1 < 26 ∧ e.2 < 1000) ∧ (∀ it, it ∈ F.1 → xq_IW it) ∧ (∀ r s, F.2.2.2.2[r]? = some s → s < F.1.length ∧ ∀ s', F.2.2.2.2[r + 1]? = some s' → s < s')
theorem xq_stms {R : pR} {q : Nat} {h : List (Nat × Nat)} {its : List xi_I} {K Q : pI → pR → Prop} (hq : q = 54 ∨ q = 81) (hl : h.length ≤ 60) (hil : its.length ≤ 60) (hcl : (xi_C its).length ≤ 120) (hrl : (xi_rs its).length ≤ 20) (iw : ∀ it, it ∈ its → xq_IW it) : ∀ m j er I, j + m = its.length → xi_CM I q its → xq_CO I h → xq_AS I its j → xq_ER I er → (∀ I', xq_ER I' (xq_fo er (xq_sl h its j m)) → xa_fr xq_S I I' → K I' R) → l_ck_check_45 q K Q (m + 1) (nI j) I R := by
  intro m; induction m with
  | zero =>
    intro j er I hj cm co as he hK
    unfold l_ck_check_45
    rw [cm.1.1]
    exact xa_t ((nI_leI (by omega) (by omega)).mpr (by omega)) (hK I he (xa_fr_r _ _))
  | succ m ih =>
    intro j er I hj cm co as he hK
    have hg : its[j]? = some its[j] := List.getElem?_eq_getElem (by omega)
    generalize its[j] = it at hg
    unfold l_ck_check_45
    rw [cm.1.1]
    refine xa_f (fun hh => by have := (nI_leI (by omega) (by omega)).mp hh; omega) ?_
    refine xq_stm hq hl hil hcl hrl cm hg (iw it (List.mem_of_getElem? hg)) co as he (fun I1 co1 as1 he1 f1 => ?_)
    rw [nI_1]
    refine ih (j + 1) _ I1 (by omega) (xq_FR hq cm (fun p' k' a _ c => f1 p' k' a c)) co1 as1 he1 (fun I' he' fr' => hK I' ?_ ?_)
    · show xq_ER I' (xq_fo er ((match its[j]? with
          | some it => xq_s1 h its j it
          | none => []) ++ xq_sl h its (j + 1) m))
      rw [hg, xq_fo_app]; exact he'
    · intro p k hp
      have hp' := hp
      simp only [xq_S, Bool.or_eq_false_iff, beq_eq_false_iff_ne] at hp
      rw [fr' p k hp', f1 _ _ (by omega) (by omega)]
theorem xq_rows {R : pR} {q : Nat} {F : xi_F} {K Q : pI → pR → Prop} (hq : q = 54 ∨ q = 81) (fw : xq_FW F) : ∀ m r er I, r + m = F.2.2.2.2.length → xi_CM I q F.1 → xi_HM I q F.2.2.2.1 → xi_WM I q F.2.2.2.2 → xq_ER I er → (∀ I', xq_ER I' (xq_fo er (xq_rl F r m)) → (∀ p' k', p' ≠ 2 → I' p' k' = I p' k') → K I' R) → l_ck_check_70 q K Q (m + 1) (nI r) I R := by
  obtain ⟨w1, w2, w3, w4, w5, w6, w7, w8⟩ := fw
  intro m; induction m with
  | zero =>
    intro r er I hr cm hm wm he hK
    unfold l_ck_check_70
    rw [wm.1]
    exact xa_t ((nI_leI (by omega) (by omega)).mpr (by omega)) (hK I he (fun _ _ _ => rfl))
  | succ m ih =>
    intro r er I hr cm hm wm he hK
    have hg : F.2.2.2.2[r]? = some F.2.2.2.2[r] := List.getElem?_eq_getElem (by omega)
    generalize F.2.2.2.2[r] = s at hg
    have hs := w8 r s hg
    have hi : F.1[s]? = some F.1[s] := List.getElem?_eq_getElem hs.1
    generalize F.1[s] = it at hi
    have iw := w7 it (List.mem_of_getElem? hi)
    have next : ∀ I1 er1, (∀ p' k', p' ≠ 2 → I1 p' k' = I p' k') → xq_ER I1 er1 → er1 = xq_fo er (xq_r1 F r) → l_ck_check_70 q K Q (m + 1) (nI (r + 1)) I1 R := by
      intro I1 er1 f1 he1 hee
      refine ih (r + 1) er1 I1 (by omega) (xi_CM_p cm (fun p a b => funext (fun k => f1 _ _ (by omega)))) (xi_HM_fr hm (f1 _ _ (by omega)) (funext (fun k => f1 _ _ (by omega))) (funext (fun k => f1 _ _ (by omega)))) (xi_WM_fr wm (f1 _ _ (by omega)) (funext (fun k => f1 _ _ (by omega)))) he1 (fun I' he' f' => hK I' ?_ (fun p' k' hp => by rw [f' _ _ hp, f1 _ _ hp]))
      show xq_ER I' (xq_fo er (xq_r1 F r ++ xq_rl F (r + 1) m))
      rw [xq_fo_app, ← hee]; exact he'
    have e1 : xq_r1 F r = if (F.2.2.2.2[r + 1]?.getD F.1.length) - s ≠ F.2.2.2.1.length ∨ r = 6 then [(4, xi_fi it)] else [] := by
      unfold xq_r1; rw [hg]; simp only [hi, Option.map_some, Option.getD_some]
    have he2 : s ≤ F.2.2.2.2[r + 1]?.getD F.1.length ∧ F.2.2.2.2[r + 1]?.getD F.1.length ≤ 60 := by
      cases hn : F.2.2.2.2[r + 1]? with
      | none => simp only [Option.getD_none]; omega
      | some s' =>
        have a := hs.2 s' hn
        have b := (w8 (r + 1) s' hn).1
        simp only [Option.getD_some]; omega
    unfold l_ck_check_70
    rw [wm.1]
    refine xa_f (fun hh => by have := (nI_leI (by omega) (by omega)).mp hh; omega) ?_
    unfold w_ck_checkRow
    rw [xq_pick (by omega) (by omega), wm.2 r s hg]
    have goE : ∀ ee, ee = F.2.2.2.2[r + 1]?.getD F.1.length → ((¬ (nI ee - nI s) = (I q 10) → (w_st_placeOf (q + 7) (nI s) I R (fun v3 I3 R3 => (w_ck_tell (4 : Int32) v3 I3 R3 (fun I4 R4 => l_ck_check_70 q K Q (m + 1) (nI (r + 1)) I4 R4))))) ∧ ((nI ee - nI s) = (I q 10) → ((¬ nI r = (6 : Int32) → l_ck_check_70 q K Q (m + 1) (nI (r + 1)) I R) ∧ (nI r = (6 : Int32) → (w_st_placeOf (q + 7) (nI s) I R (fun v5 I5 R5 => (w_ck_tell (4 : Int32) v5 I5 R5 (fun I6 R6 => l_ck_check_70 q K Q (m + 1) (nI (r + 1)) I6 R6)))))))) := by
      intro ee hee
      rw [← hee] at e1 he2
      rw [pk_sub he2.1, hm.1]
      have fnd : ((ee - s ≠ F.2.2.2.1.length) ∨ r = 6) → w_st_placeOf (q + 7) (nI s) I R (fun v3 I3 R3 => (w_ck_tell (4 : Int32) v3 I3 R3 (fun I4 R4 => l_ck_check_70 q K Q (m + 1) (nI (r + 1)) I4 R4))) := by
        intro hc
        rw [xq_placeOf cm.1 hi w1]
        refine xq_tell he (c := 4) (by decide) iw.2.1 (fun I1 he1 f1 => next I1 _ f1 he1 ?_)
        rw [e1, if_pos hc]; rfl
      by_cases hc : ee - s = F.2.2.2.1.length
      · refine xa_t' (by rw [hc]) ?_
        by_cases h6 : r = 6
        · exact xa_t' (xa_e 6 h6) (fnd (Or.inr h6))
        · refine xa_f' (xa_ne 6 (by omega)) (next I er (fun _ _ _ => rfl) he ?_)
          rw [e1, if_neg (fun h => h.elim (fun a => a hc) h6)]; rfl
      · exact xa_f' (fun hh => hc ((nI_eq (by omega) (by omega)).mp hh)) (fnd (Or.inl hc))
    unfold w_ft_rowEnd
    rw [wm.1, nI_1]
    by_cases hr1 : F.2.2.2.2.length ≤ r + 1
    · refine xa_t ((nI_leI (by omega) (by omega)).mpr hr1) ?_
      rw [cm.1.1]
      exact goE F.1.length (by rw [List.getElem?_eq_none hr1]; rfl)
    · refine xa_f (fun hh => hr1 ((nI_leI (by omega) (by omega)).mp hh)) ?_
      have hg1 : F.2.2.2.2[r + 1]? = some F.2.2.2.2[r + 1] := List.getElem?_eq_getElem (by omega)
      rw [xq_pick (by omega) (by omega), wm.2 (r + 1) _ hg1]
      exact goE (F.2.2.2.2[r + 1]) (by rw [hg1]; rfl)
theorem xq_init {R : pR} {q : Nat} {K Q : pI → pR → Prop} : ∀ m v I, v + m = 26 → (∀ u, u < v → I 3 u = -1 ∧ I 4 u = 0) → (∀ I', (∀ u, u < 26 → I' 3 u = -1 ∧ I' 4 u = 0) → (∀ p' k', p' ≠ 3 → p' ≠ 4 → I' p' k' = I p' k') → K I' R) → l_ck_check_12 q K Q (m + 1) (nI v) I R := by
  intro m; induction m with
  | zero =>
    intro v I hv h hK
    unfold l_ck_check_12
    refine xa_t ((xa_lle 26 (by omega) (by omega)).mpr (by omega)) (hK I ?_ (fun _ _ _ _ => rfl))
    rw [show (26 : Nat) = v by omega]; exact h
  | succ m ih =>
    intro v I hv h hK
    unfold l_ck_check_12
    refine xa_f (fun hh => by have := (xa_lle 26 (by omega) (by omega)).mp hh; omega) ⟨vp_in_nI (by omega) (by omega), ?_⟩
    rw [nI_clamp (by omega)]
    refine xa_a ⟨vp_in_nI (by omega) (by omega), xa_a ?_⟩
    rw [nI_1]
    refine ih (v + 1) _ (by omega) (fun u hu => ?_) (fun I' h' f' => hK I' h' (fun p' k' a b => by rw [f' _ _ a b, xa_p b, xa_p a]))
    by_cases huv : u = v
    · subst huv; exact ⟨by rw [xa_p (by decide), xa_w]; simp, by rw [xa_w]; simp⟩
    · have := h u (by omega)
      exact ⟨by rw [xa_p (by decide), xa_w, if_neg (fun h => huv h.2)]; exact this.1, by rw [xa_w, if_neg (fun h => huv h.2), xa_p (by decide)]; exact this.2⟩
theorem xq_check {I : pI} {R : pR} {q : Nat} {F : xi_F} {Q : pI → pR → Prop} (hq : q = 54 ∨ q = 81) (fw : xq_FW F) (fm : xi_FM I q F) (hQ : ∀ I', xq_ER I' (xq_fo none (xq_all F)) → xa_fr xq_S I I' → Q I' R) : w_ck_check q I R Q := by
  obtain ⟨cm, pm, hm, wm⟩ := fm
  have fw' := fw
  obtain ⟨w1, w2, w3, w4, w5, w6, w7, w8⟩ := fw
  unfold w_ck_check
  refine xa_a (xa_a ?_)
  have fI : ∀ p' k', p' ≠ 2 → (pw_wI (pw_wI I 2 2 0) 2 3 (-1)) p' k' = I p' k' := fun p' k' hp => by rw [xa_p hp, xa_p hp]
  have eI : xq_ER (pw_wI (pw_wI I 2 2 0) 2 3 (-1)) none := ⟨by rw [xa_w, if_neg (by decide), xa_w]; simp, by rw [xa_w]; simp⟩
  generalize pw_wI (pw_wI I 2 2 0) 2 3 (-1) = I0 at fI eI ⊢
  refine ⟨27, xq_init 26 0 I0 (by omega) (fun u hu => by omega) (fun I1 h1 f1 => ?_)⟩
  have g1 : ∀ p' k', p' ≠ 2 → p' ≠ 3 → p' ≠ 4 → I1 p' k' = I p' k' := fun p' k' a b c => by rw [f1 _ _ b c, fI _ _ a]
  have e1 : xq_ER I1 none := ⟨by rw [f1 _ _ (by decide) (by decide)]; exact eI.1, by rw [f1 _ _ (by decide) (by decide)]; exact eI.2⟩
  have hm1 : xi_HM I1 q F.2.2.2.1 := xi_HM_fr hm (g1 _ _ (by omega) (by omega) (by omega)) (funext (fun k => g1 _ _ (by omega) (by omega) (by omega))) (funext (fun k => g1 _ _ (by omega) (by omega) (by omega)))
  have co1 : xq_CO I1 (F.2.2.2.1.take 0) := fun v hv => by rw [(h1 v hv).1]; simp [xq_col, xq_c32]
  unfold w_ck_checkHeader
  refine ⟨F.2.2.2.1.length + 1, xq_hdr hq w4 w6 F.2.2.2.1.length 0 none I1 (by omega) hm1 co1 e1 (fun I2 co2 e2 e4 fr2 => ?_)⟩
  have g2 : ∀ p' k', p' ≠ 2 → p' ≠ 3 → p' ≠ 4 → I2 p' k' = I p' k' := fun p' k' a b c => by
    rw [fr2 p' k' (by simp only [xq_S, Bool.or_eq_false_iff, beq_eq_false_iff_ne]; omega), g1 _ _ a b c]
  have cm2 := xq_FR hq cm g2
  have as2 : xq_AS I2 F.1 0 := fun v hv => by rw [e4, (h1 v hv).2]; simp [xq_asg]
  refine ⟨F.1.length + 1, xq_stms hq w4 w1 w2 w3 w7 F.1.length 0 _ I2 (by omega) cm2 co2 as2 e2 (fun I3 e3 fr3 => ?_)⟩
  have g3 : ∀ p' k', p' ≠ 2 → p' ≠ 3 → p' ≠ 4 → I3 p' k' = I p' k' := fun p' k' a b c => by
    rw [fr3 p' k' (by simp only [xq_S, Bool.or_eq_false_iff, beq_eq_false_iff_ne]; omega), g2 _ _ a b c]
  refine ⟨F.2.2.2.2.length + 1, xq_rows hq fw' F.2.2.2.2.length 0 _ I3 (by omega) (xq_FR hq cm g3) (xi_HM_fr hm (g3 _ _ (by omega) (by omega) (by omega)) (funext (fun k => g3 _ _ (by omega) (by omega) (by omega))) (funext (fun k => g3 _ _ (by omega) (by omega) (by omega)))) (xi_WM_fr wm (g3 _ _ (by omega) (by omega) (by omega)) (funext (fun k => g3 _ _ (by omega) (by omega) (by omega)))) e3 (fun I4 e5 f4 => hQ I4 ?_ ?_)⟩
  · unfold xq_all; rw [xq_fo_app, xq_fo_app]; exact e5
  · intro p k hp
    simp only [xq_S, Bool.or_eq_false_iff, beq_eq_false_iff_ne] at hp
    rw [f4 _ _ (by omega), g3 _ _ (by omega) (by omega) (by omega)]
