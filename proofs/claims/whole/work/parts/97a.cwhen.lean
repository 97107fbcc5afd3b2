/-! THE CLASS'S PARTS -/
section
variable {q oc : Nat} {R : pR} {tx : Nat → Nat} {ts : List (Nat × Nat × Nat × Nat)} {L : Nat} {its : List xi_I}
theorem xv_claimL {g : Bool} {V O : Nat → Int32} {e : Nat} {calm : Bool} {f1 : Int32} {K : pI → pR → Prop} {Q : Int32 → pI → pR → Prop} (hq : q = 54 ∨ q = 81) (hoc : xv_oc oc) (hR : R 115 5 = some q) (hR6 : R 115 6 = some oc) (hR1 : R 114 1 = some q) (hR2 : R 114 2 = some oc) (w : xg_W ts L its) (htx : ∀ i, i < L → tx i < 65536) (he : e ≤ its.length) :
    ∀ m a s b I, a + m = e → (∀ j it, a ≤ j → j < e → its[j]? = some it → xi_k it ≠ 3 ∧ (xi_k it = 4 → xv_OC I (xi_C (its.take j)).length (xi_x it).1 O)) → xv_E q its 0 0 I → xt_Tx I (q + 1) tx L → xv_St g I oc V s → xv_B b s → b + 120 * m ≤ 1000000000 → xv_FH I oc tx none →
    (∀ s', xg_claims V O calm (xg_seg its a e) s = (s', none) → ∀ I', xa_fr (xv_SH oc) I I' → xv_St g I' oc V s' → xv_B (b + 120 * m) s' → xv_FH I' oc tx none → K I' R) →
    (∀ s' f, xg_claims V O calm (xg_seg its a e) s = (s', some f) → ∀ I', xa_fr (xv_SH oc) I I' → xv_St g I' oc V s' → xv_B (b + 120 * m) s' → xv_FH I' oc tx (some f) → Q 0 I' R) →
    l_rn_whenAndThen_71 f1 (nI e) (if calm then 1 else 0) K Q (m + 1) (nI a) I R := by
  have w1 := w.2.1
  intro m; induction m with
  | zero =>
    intro a s b I ha hoC hE hTx st hB hb fh h1 h2
    unfold l_rn_whenAndThen_71
    refine xa_t ((nI_leI (by omega) (by omega)).mpr (by omega)) (h1 s ?_ I (xa_fr_r _ _) st (xv_B_m hB (by omega)) fh)
    rw [xg_seg_n (by omega)]; rfl
  | succ m ih =>
    intro a s b I ha hoC hE hTx st hB hb fh h1 h2
    have hg : its[a]? = some its[a] := List.getElem?_eq_getElem (by omega)
    generalize its[a] = it at hg
    have iw := w.2.2.2.2.2.2 it (List.mem_of_getElem? hg)
    have iw1 := iw.1
    have ho := hoC a it (by omega) (by omega) hg
    rw [xg_seg_c hg (by omega)] at h1 h2
    unfold l_rn_whenAndThen_71
    refine xa_f (fun hh => by have := (nI_leI (by omega) (by omega)).mp hh; omega) ⟨q, hR1, xv_q_sh hq, ?_⟩
    rw [xq_kindOf hE.1.1 hg w1]
    by_cases h4 : xi_k it = 4
    · refine xa_t' (xa_e 4 h4) ?_
      have ec : ∀ r, xg_hold V O s it = r → xg_claims V O calm (it :: xg_seg its (a + 1) e) s = (match r with
          | (s', none) => xg_claims V O calm (xg_seg its (a + 1) e) s'
          | (s', some f) => (s', some f)) := by
        intro r hr
        show (if xi_k it = 4 ∨ xi_k it = 3 then _ else _) = _
        rw [if_pos (Or.inl h4), hr]
        rcases r with ⟨s', _ | f⟩ <;> rfl
      refine xv_holds (O := O) hq hoc hR hR6 hR1 hR2 w hg (Or.inr h4) ho.2 hE hTx htx st hB (by omega) fh (fun s' hh I1 f1' st1 hB1 fh1 => ?_) (fun s' f hh I1 f1' st1 hB1 fh1 => ?_)
      · refine xa_f' (by decide) ?_
        rw [nI_1]
        refine ih (a + 1) s' (b + 120) I1 (by omega) (fun j u hj1 hj2 hj3 => ⟨(hoC j u (by omega) hj2 hj3).1, fun h => xv_OC_H hoc ((hoC j u (by omega) hj2 hj3).2 h) f1'⟩) (xv_E_H hq hoc f1' hE) (xv_Tx_H hq hoc hTx f1') st1 hB1 (by omega) fh1 (fun s2 hc I' f' st' hB' => h1 s2 (by rw [ec _ hh]; exact hc) I' (xa_fr_t f1' f') st' (xv_B_m hB' (by omega))) (fun s2 f hc I' f' st' hB' => h2 s2 f (by rw [ec _ hh]; exact hc) I' (xa_fr_t f1' f') st' (xv_B_m hB' (by omega)))
      · exact xa_t' rfl (h2 s' f (ec _ hh) I1 f1' st1 (xv_B_m hB1 (by omega)) fh1)
    · refine xa_f' (xa_ne 4 (by omega)) ?_
      have ec : xg_claims V O calm (it :: xg_seg its (a + 1) e) s = (if xi_k it = (if calm then 5 else 6) then (s, some ((1, xi_fi it), none)) else xg_claims V O calm (xg_seg its (a + 1) e) s) := by
        show (if xi_k it = 4 ∨ xi_k it = 3 then _ else _) = _
        rw [if_neg (fun h => h.elim h4 ho.1)]
      rw [ec] at h1 h2
      have core : ∀ kk, kk = (if calm then 5 else 6) → j_rn_suits_23 (fun v6 I6 R6 => ((¬ v6 = 0 → l_rn_whenAndThen_71 f1 (nI e) (if calm then 1 else 0) K Q (m + 1) (nI a + 1) I6 R6) ∧ (v6 = 0 → Q (0 : Int32) I6 R6))) (nI a) (nI (xi_k it)) (nI kk) I R := by
        intro kk hkk
        rw [← hkk] at h1 h2
        have hkb : kk < 10 := by rw [hkk]; split <;> omega
        unfold j_rn_suits_23
        by_cases hk : xi_k it = kk
        · refine xa_t' (by rw [hk]) ⟨oc, hR2, xv_oc_sh hoc, q, hR1, xv_q_sh hq, ?_⟩
          rw [xq_placeOf hE.1.1 hg w1]
          refine xv_fail1 (c := 1) (p := xi_fi it) hoc fh st (by omega) (fun I3 f3 g3 st3 fh3 => xa_t' rfl (h2 s _ (if_pos hk) I3 f3 st3 (xv_B_m hB (by omega)) fh3))
        · refine xa_f' (fun h => hk ((nI_eq (by omega) (by omega)).mp h)) (xa_f' (by decide) ?_)
          rw [if_neg hk] at h1 h2
          rw [nI_1]
          exact ih (a + 1) s b I (by omega) (fun j u hj1 => hoC j u (by omega)) hE hTx st hB (by omega) fh (fun s2 hc I' f' st' hB' => h1 s2 hc I' f' st' (xv_B_m hB' (by omega))) (fun s2 f hc I' f' st' hB' => h2 s2 f hc I' f' st' (xv_B_m hB' (by omega)))
      unfold w_rn_suits
      refine ⟨q, hR1, xv_q_sh hq, ?_⟩
      rw [xq_kindOf hE.1.1 hg w1]
      cases calm with
      | true => exact xa_f (by decide) (core 5 rfl)
      | false => exact xa_t rfl (core 6 rfl)
theorem xv_expL {g : Bool} {V : Nat → Int32} {e : Nat} {K : pI → pR → Prop} {Q : Int32 → pI → pR → Prop} (hq : q = 54 ∨ q = 81) (hoc : xv_oc oc) (hR : R 115 5 = some q) (hR6 : R 115 6 = some oc) (hR1 : R 114 1 = some q) (hR2 : R 114 2 = some oc) (w : xg_W ts L its) (htx : ∀ i, i < L → tx i < 65536) (he : e ≤ its.length) :
    ∀ m a s b I, a + m = e → (∀ j it, a ≤ j → j < e → its[j]? = some it → xi_k it = 3) → xv_E q its 0 0 I → xt_Tx I (q + 1) tx L → xv_St g I oc V s → xv_B b s → b + 120 * m ≤ 1000000000 → xv_FH I oc tx none →
    (∀ s', xg_claims V xg_O0 true (xg_seg its a e) s = (s', none) → ∀ I', xa_fr (xv_SH oc) I I' → xv_St g I' oc V s' → xv_B (b + 120 * m) s' → xv_FH I' oc tx none → K I' R) →
    (∀ s' f, xg_claims V xg_O0 true (xg_seg its a e) s = (s', some f) → ∀ I', xa_fr (xv_SH oc) I I' → xv_St g I' oc V s' → xv_B (b + 120 * m) s' → xv_FH I' oc tx (some f) → Q 0 I' R) →
    l_rn_expect_2 (nI e) K Q (m + 1) (nI a) I R := by
  have w1 := w.2.1
  intro m; induction m with
  | zero =>
    intro a s b I ha hk3 hE hTx st hB hb fh h1 h2
    unfold l_rn_expect_2
    refine xa_t ((nI_leI (by omega) (by omega)).mpr (by omega)) (h1 s ?_ I (xa_fr_r _ _) st (xv_B_m hB (by omega)) fh)
    rw [xg_seg_n (by omega)]; rfl
  | succ m ih =>
    intro a s b I ha hk3 hE hTx st hB hb fh h1 h2
    have hg : its[a]? = some its[a] := List.getElem?_eq_getElem (by omega)
    generalize its[a] = it at hg
    have h3 := hk3 a it (by omega) (by omega) hg
    rw [xg_seg_c hg (by omega)] at h1 h2
    unfold l_rn_expect_2
    refine xa_f (fun hh => by have := (nI_leI (by omega) (by omega)).mp hh; omega) ?_
    have ec : ∀ r, xg_hold V xg_O0 s it = r → xg_claims V xg_O0 true (it :: xg_seg its (a + 1) e) s = (match r with
        | (s', none) => xg_claims V xg_O0 true (xg_seg its (a + 1) e) s'
        | (s', some f) => (s', some f)) := by
      intro r hr
      show (if xi_k it = 4 ∨ xi_k it = 3 then _ else _) = _
      rw [if_pos (Or.inr h3), hr]
      rcases r with ⟨s', _ | f⟩ <;> rfl
    refine xv_holds (O := xg_O0) hq hoc hR hR6 hR1 hR2 w hg (Or.inl h3) (fun h => by omega) hE hTx htx st hB (by omega) fh (fun s' hh I1 f1' st1 hB1 fh1 => ?_) (fun s' f hh I1 f1' st1 hB1 fh1 => ?_)
    · refine xa_f' (by decide) ?_
      rw [nI_1]
      exact ih (a + 1) s' (b + 120) I1 (by omega) (fun j u hj1 => hk3 j u (by omega)) (xv_E_H hq hoc f1' hE) (xv_Tx_H hq hoc hTx f1') st1 hB1 (by omega) fh1 (fun s2 hc I' f' st' hB' => h1 s2 (by rw [ec _ hh]; exact hc) I' (xa_fr_t f1' f') st' (xv_B_m hB' (by omega))) (fun s2 f hc I' f' st' hB' => h2 s2 f (by rw [ec _ hh]; exact hc) I' (xa_fr_t f1' f') st' (xv_B_m hB' (by omega)))
    · exact xa_t' rfl (h2 s' f (ec _ hh) I1 f1' st1 (xv_B_m hB1 (by omega)) fh1)
theorem xv_metL {V : Nat → Int32} {e b : Nat} {s : xp_S} {I : pI} {K : pI → pR → Prop} {Q : Int32 → pI → pR → Prop} (hq : q = 54 ∨ q = 81) (hoc : xv_oc oc) (hR1 : R 114 1 = some q) (hR2 : R 114 2 = some oc) (w : xg_W ts L its) (he : e ≤ its.length) (hE : xv_E q its 0 0 I) (st : xv_St true I oc V s) (hB : xv_B b s) (hb : b ≤ 1000000000) (fh : xv_FH I oc tx none) :
    ∀ m a, a + m = e → (xg_met s (xg_rng its a m) = none → K I R) → (∀ f, xg_met s (xg_rng its a m) = some f → ∀ I', xa_fr (xv_SH oc) I I' → xv_St true I' oc V s → xv_FH I' oc tx (some f) → Q 0 I' R) → l_rn_rulesAreMet_2 (nI e) K Q (m + 1) (nI a) I R := by
  have w1 := w.2.1
  have w4 := w.2.2.2.2.1
  intro m; induction m with
  | zero =>
    intro a ha h1 h2
    unfold l_rn_rulesAreMet_2
    exact xa_t ((nI_leI (by omega) (by omega)).mpr (by omega)) (h1 rfl)
  | succ m ih =>
    intro a ha h1 h2
    have hg : its[a]? = some its[a] := List.getElem?_eq_getElem (by omega)
    generalize its[a] = it at hg
    have iw := w.2.2.2.2.2.2 it (List.mem_of_getElem? hg)
    have iw1 := iw.1
    have se := hE.1.1.2 a it hg
    have er : xg_rng its a (m + 1) = (if xi_k it = 7 then [(xi_nr (its.take a), it)] else []) ++ xg_rng its (a + 1) m := by
      show (match its[a]? with
        | some it => if xi_k it = 7 then [(xi_nr (its.take a), it)] else []
        | none => []) ++ _ = _
      rw [hg]
    rw [er] at h1 h2
    unfold l_rn_rulesAreMet_2
    refine xa_f (fun hh => by have := (nI_leI (by omega) (by omega)).mp hh; omega) ⟨q, hR1, xv_q_sh hq, ?_⟩
    rw [xq_pick (by omega) (by omega), se.2.2.2.2.2]
    by_cases h7 : xi_k it = 7
    · have hrs := xg_rsix hg h7
      have hrlt := xa_some_lt hrs
      have hdet : xi_det its a it = nI (xi_nr (its.take a)) := by unfold xi_det; rw [if_pos h7]
      have re := hE.1.2.2.2.2.2.1 _ _ hrs
      have ww := iw.2.1 h7
      rw [hdet, xq_pick (by omega) (by omega)]
      refine ⟨q, hR1, xv_q_sh hq, ?_⟩
      rw [xq_pick (by omega) (by omega), re.1, st.2.2.2 rfl _ (by omega)]
      rw [if_pos h7] at h1 h2
      generalize xi_nr (its.take a) = r at *
      have em : xg_met s ([(r, it)] ++ xg_rng its (a + 1) m) = (if s (2 + r) < nI (xi_le (xi_ru it)) then some ((2, xi_fi it), none) else xg_met s (xg_rng its (a + 1) m)) := rfl
      rw [em] at h1 h2
      unfold j_rn_rulesAreMet_58
      by_cases hlt : s (2 + r) < nI (xi_le (xi_ru it))
      · refine xa_t hlt ⟨q, hR1, xv_q_sh hq, ?_⟩
        rw [xq_kindOf hE.1.1 hg w1]
        refine xa_t' (xa_e 7 h7) (xa_t' rfl ⟨oc, hR2, xv_oc_sh hoc, q, hR1, xv_q_sh hq, ?_⟩)
        rw [xq_placeOf hE.1.1 hg w1]
        exact xv_fail1 (c := 2) (p := xi_fi it) hoc fh st (by omega) (fun I3 f3 g3 st3 fh3 => h2 _ (if_pos hlt) I3 f3 st3 fh3)
      · refine xa_f hlt ⟨q, hR1, xv_q_sh hq, ?_⟩
        rw [xq_kindOf hE.1.1 hg w1]
        rw [if_neg hlt] at h1 h2
        refine xa_t' (xa_e 7 h7) (xa_f' (by decide) ?_)
        rw [nI_1]
        exact ih (a + 1) (by omega) h1 h2
    · rw [if_neg h7, List.nil_append] at h1 h2
      have rest : ∀ s0 : Int32, j_rn_rulesAreMet_58 (fun y1 I7 R7 => l_rn_rulesAreMet_2 (nI e) K Q (m + 1) y1 I7 R7) Q (nI e) (nI a) s0 I R := by
        intro s0
        unfold j_rn_rulesAreMet_58
        refine ⟨q, hR1, xv_q_sh hq, ?_⟩
        rw [xq_kindOf hE.1.1 hg w1]
        refine xa_f' (xa_ne 7 (by omega)) ?_
        rw [nI_1]
        exact ih (a + 1) (by omega) h1 h2
      refine xq_pick_any (by omega) (fun v2 => ⟨q, hR1, xv_q_sh hq, xq_pick_any (by omega) (fun v3 => ?_)⟩)
      by_cases hlt : v2 < v3
      · exact xa_t hlt (rest 0)
      · exact xa_f hlt (rest 1)
theorem xv_hasL {e : Nat} {I : pI} {K : pI → pR → Prop} {Q : Int32 → pI → pR → Prop} (hq : q = 54 ∨ q = 81) (hR1 : R 114 1 = some q) (w : xg_W ts L its) (he : e ≤ its.length) (hE : xv_E q its 0 0 I) :
    ∀ m a, a + m = e → ((xg_seg its a e).any (fun it => xi_k it == 5) = false → K I R) → ((xg_seg its a e).any (fun it => xi_k it == 5) = true → Q 1 I R) → l_rn_has_3 (5 : Int32) (nI e) K Q (m + 1) (nI a) I R := by
  have w1 := w.2.1
  intro m; induction m with
  | zero =>
    intro a ha h1 h2
    unfold l_rn_has_3
    rw [xg_seg_n (by omega)] at h1
    exact xa_t ((nI_leI (by omega) (by omega)).mpr (by omega)) (h1 rfl)
  | succ m ih =>
    intro a ha h1 h2
    have hg : its[a]? = some its[a] := List.getElem?_eq_getElem (by omega)
    generalize its[a] = it at hg
    have iw1 := (w.2.2.2.2.2.2 it (List.mem_of_getElem? hg)).1
    rw [xg_seg_c hg (by omega), List.any_cons] at h1 h2
    unfold l_rn_has_3
    refine xa_f (fun hh => by have := (nI_leI (by omega) (by omega)).mp hh; omega) ⟨q, hR1, xv_q_sh hq, ?_⟩
    rw [xq_kindOf hE.1.1 hg w1]
    by_cases h5 : xi_k it = 5
    · exact xa_t' (xa_e 5 h5) (h2 (by simp [h5]))
    · refine xa_f' (xa_ne 5 (by omega)) ?_
      rw [nI_1]
      exact ih (a + 1) (by omega) (fun h => h1 (by simp [h5, h])) (fun h => h2 (by simp [h5, h]))
theorem xv_enfL {K Q : pI → pR → Prop} : ∀ m c I, c + m = 22 → (∀ i, i < c → I 120 i = 0) → (∀ I', (∀ i, i < 22 → I' 120 i = 0) → (∀ p k, p ≠ 120 → I' p k = I p k) → K I' R) → l_ev_enforce_12 K Q (m + 1) (nI c) I R := by
  intro m; induction m with
  | zero =>
    intro c I hc h hK
    unfold l_ev_enforce_12
    exact xa_t ((xa_lle 22 (by omega) (by omega)).mpr (by omega)) (hK I (fun i hi => h i (by omega)) (fun _ _ _ => rfl))
  | succ m ih =>
    intro c I hc h hK
    unfold l_ev_enforce_12
    refine xa_f (fun hh => by have := (xa_lle 22 (by omega) (by omega)).mp hh; omega) ⟨vp_in_nI (by omega) (by omega), ?_⟩
    rw [nI_clamp (by omega), nI_1]
    refine xa_a (ih (c + 1) _ (by omega) (fun i hi => ?_) (fun I' h' f' => hK I' h' (fun p k hp => by rw [f' p k hp, xa_p hp])))
    rw [xa_w]
    by_cases hi' : i = c
    · rw [if_pos ⟨rfl, hi'⟩]
    · rw [if_neg (fun e => hi' e.2)]; exact h i (by omega)
end
