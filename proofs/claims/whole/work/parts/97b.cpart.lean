theorem xg_take_seg {its : List xi_I} {a j : Nat} (h : a ≤ j) : its.take j = its.take a ++ xg_seg its a j := by
  unfold xg_seg
  rw [show j = a + (j - a) by omega, List.take_add, show a + (j - a) - a = j - a by omega]
theorem xg_seg_sp {its : List xi_I} {a j e : Nat} (h : a ≤ j) (h2 : j ≤ e) : xg_seg its a e = xg_seg its a j ++ xg_seg its j e := by
  unfold xg_seg
  rw [show e - a = (j - a) + (e - j) by omega, List.take_add, List.drop_drop, show a + (j - a) = j by omega]
theorem xg_seg_sub {its : List xi_I} {a e : Nat} : (xg_seg its a e).Sublist its := List.Sublist.trans (List.take_sublist _ _) (List.drop_sublist _ _)
def xg_os (l : List xi_I) : List (Nat × xp_D) := l.flatMap (fun it => (xi_x it).2.2.2.2)
theorem xg_xo {ts : List (Nat × Nat × Nat × Nat)} {L : Nat} (w : xt_WF ts L) : ∀ l : List xi_I, (∀ it, it ∈ l → xg_IW ts L it) → xo_C (xf_P (xt_kd ts L) (xt_nm ts L) (xt_pl ts L)) (xi_C l) (xg_os l) ∧ xo_G (xf_P (xt_kd ts L) (xt_nm ts L) (xt_pl ts L)) (xi_G l) (xg_os l) ∧ (∀ e, e ∈ xi_C l → e.1 < 8) := by
  intro l; induction l with
  | nil => intro _; exact ⟨rfl, rfl, fun e he => by cases he⟩
  | cons it l ih =>
    intro h
    have i := ih (fun u hu => h u (by simp [hu]))
    have iw := h it (by simp)
    have ec : xi_C (it :: l) = (xi_x it).1 ++ xi_C l := by simp [xi_C]
    have eg : xi_G (it :: l) = (xi_x it).2.1 ++ xi_G l := by simp [xi_G]
    have eo : xg_os (it :: l) = (xi_x it).2.2.2.2 ++ xg_os l := by simp [xg_os]
    rw [ec, eg, eo]
    have h1 : xo_C (xf_P (xt_kd ts L) (xt_nm ts L) (xt_pl ts L)) (xi_x it).1 (xi_x it).2.2.2.2 ∧ xo_G (xf_P (xt_kd ts L) (xt_nm ts L) (xt_pl ts L)) (xi_x it).2.1 (xi_x it).2.2.2.2 ∧ (∀ e, e ∈ (xi_x it).1 → e.1 < 8) := by
      by_cases hk : xi_k it ≤ 4 ∨ xi_k it = 8
      · obtain ⟨lv, p, p', hlv, hD, _, _⟩ := iw.2.2.1 hk
        have a := xf_all w (by omega) hD
        exact ⟨a.2.2.2.2.2.1.1, a.2.2.2.2.2.1.2, fun e he => (a.2.1 e he).1.1⟩
      · have := iw.1
        rw [(iw.2.2.2.1 (by omega)).1]
        exact ⟨rfl, rfl, fun e he => by cases he⟩
    exact ⟨xo_C_app _ _ _ _ h1.1 i.1, xo_G_app _ _ _ _ h1.2.1 i.2.1, xf_memA h1.2.2 i.2.2⟩
def xv_SI (oc p k : Nat) : Bool := (decide (115 ≤ p) && decide (p ≤ 120)) || (decide (oc ≤ p) && decide (p ≤ oc + 7))
theorem xv_SI_o {oc : Nat} {I I' : pI} (h : xa_fr (xv_SI oc) I I') (p k : Nat) (hp : ¬ (115 ≤ p ∧ p ≤ 120) ∧ ¬ (oc ≤ p ∧ p ≤ oc + 7)) : I' p k = I p k := h p k (by
  simp only [xv_SI, Bool.or_eq_false_iff, Bool.and_eq_false_iff, decide_eq_false_iff_not]; omega)
theorem xv_SI_H {oc : Nat} {I I' : pI} (h : xa_fr (xv_SH oc) I I') : xa_fr (xv_SI oc) I I' := xa_fr_m h (fun p k hp => by
  simp only [xv_SI, xv_SH, Bool.or_eq_false_iff, Bool.and_eq_false_iff, beq_eq_false_iff_ne, decide_eq_false_iff_not] at hp ⊢; omega)
theorem xv_SI_V {oc : Nat} {I I' : pI} (h : xa_fr (xv_SV oc) I I') : xa_fr (xv_SI oc) I I' := xa_fr_m h (fun p k hp => by
  simp only [xv_SI, xv_SV, xv_SE, Bool.or_eq_false_iff, Bool.and_eq_false_iff, beq_eq_false_iff_ne, decide_eq_false_iff_not] at hp ⊢; omega)
theorem xv_SI_M {oc s : Nat} {I I' : pI} (h : xa_fr (xv_SM oc s) I I') : xa_fr (xv_SI oc) I I' := xa_fr_m h (fun p k hp => by
  simp only [xv_SI, xv_SM, xv_SE, Bool.or_eq_false_iff, Bool.and_eq_false_iff, beq_eq_false_iff_ne, decide_eq_false_iff_not] at hp ⊢; omega)
theorem xv_Tx_I {I I' : pI} {oc q L : Nat} {tx : Nat → Nat} (hq : q = 54 ∨ q = 81) (hoc : xv_oc oc) (h : xt_Tx I (q + 1) tx L) (f : xa_fr (xv_SI oc) I I') : xt_Tx I' (q + 1) tx L := by
  unfold xv_oc at hoc
  intro i hi
  rw [xv_SI_o f _ _ (by omega)]; exact h i hi
theorem xv_CM_I {I I' : pI} {oc q : Nat} {its : List xi_I} (hq : q = 54 ∨ q = 81) (hoc : xv_oc oc) (h : xi_CM I q its) (f : xa_fr (xv_SI oc) I I') : xi_CM I' q its := by
  unfold xv_oc at hoc
  exact xi_CM_p h (fun p a b => funext (fun k => xv_SI_o f p k (by omega)))
section
variable {q oc : Nat} {R : pR} {tx : Nat → Nat} {ts : List (Nat × Nat × Nat × Nat)} {L : Nat} {its : List xi_I}
theorem xv_remember {g : Bool} {V : Nat → Int32} {a e b : Nat} {s : xp_S} {I : pI} {Q : Int32 → pI → pR → Prop} (hq : q = 54 ∨ q = 81) (hoc : xv_oc oc) (hR : R 115 5 = some q) (hR6 : R 115 6 = some oc) (hR1 : R 114 1 = some q) (w : xg_W ts L its) (hop : (xg_os its).Pairwise (fun a b => a.1 < b.1)) (hae : a < e) (he : e ≤ its.length) (hE : xv_E q its 0 0 I) (st : xv_St g I oc V s) (hB : xv_B b s) (hb : b + 14400 ≤ 1000000000)
    (h1 : ∀ O' s', xg_rem V (xg_os (xg_seg its a e)) xg_O0 s = (O', s', none) → ∀ I', xa_fr (xv_SM oc 0) I I' → xv_St g I' oc V s' → xv_B (b + 14400) s' → (∀ j it, a ≤ j → j < e → its[j]? = some it → xv_OC I' (xi_C (its.take j)).length (xi_x it).1 O') → Q 1 I' R)
    (h2 : ∀ O' s' f, xg_rem V (xg_os (xg_seg its a e)) xg_O0 s = (O', s', some f) → ∀ I', xa_fr (xv_SM oc 0) I I' → xv_St g I' oc V s' → xv_B (b + 14400) s' → I' 115 11 = nI f.1 → I' 115 12 = nI f.2 → (f.1 = 2 ∨ f.1 = 3) → Q 0 I' R) : w_rn_remember (nI a) (nI e) I R Q := by
  have w' := w
  obtain ⟨ww, w1, w2, w3, w4, w5, w6⟩ := w'
  have hg : its[a]? = some its[a] := List.getElem?_eq_getElem (by omega)
  have hg2 : its[e - 1]? = some its[e - 1] := List.getElem?_eq_getElem (by omega)
  have sa := hE.1.1.2 a _ hg
  have sb := hE.1.1.2 (e - 1) _ hg2
  unfold w_rn_remember
  refine ⟨q, hR1, xv_q_sh hq, q, hR1, xv_q_sh hq, ?_⟩
  rw [xa_m1 (by omega), xq_pick (by omega) (by omega), sb.2.2.2.2.1]
  refine ⟨q, hR1, xv_q_sh hq, ?_⟩
  rw [xq_pick (by omega) (by omega), sa.2.2.2.1, show e - 1 + 1 = e by omega]
  have ete : its.take e = its.take a ++ xg_seg its a e := xg_take_seg (by omega)
  have elen : (xi_C (its.take e)).length = (xi_C (its.take a)).length + (xi_C (xg_seg its a e)).length := by rw [ete, xi_C_app, List.length_append]
  have hC : xi_C its = xi_C (its.take a) ++ (xi_C (xg_seg its a e) ++ xi_C (its.drop e)) := by
    conv => lhs; rw [← List.take_append_drop e its, ete]
    rw [xi_C_app, xi_C_app, List.append_assoc]
  have hle : (xi_C (its.take a)).length + (xi_C (xg_seg its a e)).length ≤ 120 := by
    have := congrArg List.length hC
    rw [List.length_append, List.length_append] at this; omega
  have cd : xc_CD I q (xi_C (its.take a)).length (xi_C (xg_seg its a e)) := by
    have := hE.1.2.2.1
    rw [hC] at this
    have := (xv_CD_sp (xv_CD_sp this).2).1
    rw [Nat.zero_add] at this; exact this
  have hx := xg_xo ww (xg_seg its a e) (fun it hi => w6 it (xg_seg_sub.subset hi))
  have hpw : (xg_os (xg_seg its a e)).Pairwise (fun a b => a.1 < b.1) := by
    have eo : xg_os its = xg_os (its.take a) ++ (xg_os (xg_seg its a e) ++ xg_os (its.drop e)) := by
      conv => lhs; rw [← List.take_append_drop e its, ete]
      simp [xg_os]
    rw [eo] at hop
    exact (List.pairwise_append.mp (List.pairwise_append.mp hop).2.1).1
  rw [elen]
  refine ⟨(xi_C (xg_seg its a e)).length + 1, xv_remL (V := V) hq hoc hR hR6 w (by omega) (xi_C (xg_seg its a e)) (xg_os (xg_seg its a e)) _ xg_O0 s b I rfl cd hx.2.2 hx.1 hpw hE st hB (by omega) (fun O' s' h I' f' st' hB' oC' => h1 O' s' h I' (xv_SM_s f' (by omega)) st' (xv_B_m hB' (by omega)) (fun j it hj1 hj2 hj3 => ?_)) (fun O' s' f h I' f' st' hB' => h2 O' s' f h I' (xv_SM_s f' (by omega)) st' (xv_B_m hB' (by omega)))⟩
  have es : xg_seg its a e = xg_seg its a j ++ (it :: xg_seg its (j + 1) e) := by rw [xg_seg_sp hj1 (by omega : j ≤ e), xg_seg_c hj3 hj2]
  rw [es, xi_C_app] at oC'
  have o2 := (xv_OC_sp oC').2
  have ec : xi_C (it :: xg_seg its (j + 1) e) = (xi_x it).1 ++ xi_C (xg_seg its (j + 1) e) := by simp [xi_C]
  rw [ec] at o2
  have o3 := (xv_OC_sp o2).1
  rw [xg_take_seg hj1, xi_C_app, List.length_append]; exact o3
/-- what is known of a part -/
def xg_PO (its : List xi_I) (a e : Nat) : Prop := a < e ∧ e ≤ its.length ∧ (((xg_seg its a e).head?.map xi_k = some 1 ∧ ∀ it, it ∈ xg_seg its a e → xi_k it ≠ 3 ∧ xi_k it ≠ 0 ∧ xi_k it ≠ 2 ∧ xi_k it ≠ 8) ∨ (∀ it, it ∈ xg_seg its a e → xi_k it = 3))
theorem xg_seg_mem {a e j : Nat} {it : xi_I} (h1 : a ≤ j) (h2 : j < e) (h3 : its[j]? = some it) : it ∈ xg_seg its a e := by
  rw [xg_seg_sp h1 (by omega : j ≤ e), xg_seg_c h3 h2]; simp
theorem xv_wtC {V : Nat → Int32} {a e b : Nat} {s : xp_S} {I : pI} {Q : Int32 → pI → pR → Prop} (hq : q = 54 ∨ q = 81) (hoc : xv_oc oc) (hR : R 115 5 = some q) (hR6 : R 115 6 = some oc) (hR1 : R 114 1 = some q) (hR2 : R 114 2 = some oc) (w : xg_W ts L its) (hop : (xg_os its).Pairwise (fun a b => a.1 < b.1)) (htx : ∀ i, i < L → tx i < 65536) (hae : a < e) (he : e ≤ its.length) (hk3 : ∀ it, it ∈ xg_seg its a e → xi_k it ≠ 3) (hE : xv_E q its 0 0 I) (hTx : xt_Tx I (q + 1) tx L) (st : xv_St false I oc V s) (hB : xv_B b s) (hb : b + 30000 ≤ 1000000000) (fh : xv_FH I oc tx none)
    (h1 : ∀ V' s', xg_wt (xg_seg its a e) (xg_rng its a (e - a)) V s = (V', s', none) → ∀ I', xa_fr (xv_SI oc) I I' → xv_E q its 0 0 I' → xv_St false I' oc V' s' → xv_B (b + 30000) s' → xv_FH I' oc tx none → Q 1 I' R)
    (h2 : ∀ V' s' f, xg_wt (xg_seg its a e) (xg_rng its a (e - a)) V s = (V', s', some f) → ∀ I', xa_fr (xv_SI oc) I I' → xv_E q its 0 0 I' → xv_St false I' oc V' s' → xv_B (b + 30000) s' → xv_FH I' oc tx (some f) → Q 0 I' R) : w_rn_whenAndThen (nI a) (nI e) I R Q := by
  have hoc' := hoc
  unfold xv_oc at hoc'
  have w1 := w.2.1
  have eW : ∀ r, xg_rem V (xg_os (xg_seg its a e)) xg_O0 s = r → xg_wt (xg_seg its a e) (xg_rng its a (e - a)) V s = (match r with
      | (_, s1, some e) => (V, s1, some (e, none))
      | (O, s1, none) => match xg_steps (xg_A (xg_rng its a (e - a))) (xg_ds ((xg_seg its a e).filter (fun it => xi_k it == 1))) V (xg_rs s1) with
        | (V2, s2, none) => xg_fin V2 (xg_rng its a (e - a)) (xg_claims V2 O true (xg_seg its a e) s2)
        | (V2, s2, some f) => if f.1 = 3 ∧ (xg_seg its a e).any (fun it => xi_k it == 5) = true then xg_fin V2 (xg_rng its a (e - a)) (xg_claims V2 O false (xg_seg its a e) s2) else (V2, s2, some (f, none))) := by
    intro r hr
    unfold xg_wt
    rw [show xg_rem V ((xg_seg its a e).flatMap (fun it => (xi_x it).2.2.2.2)) xg_O0 s = r from hr]
    rcases r with ⟨O, s1, _ | f⟩
    · simp only
      rcases xg_steps (xg_A (xg_rng its a (e - a))) (xg_ds ((xg_seg its a e).filter (fun it => xi_k it == 1))) V (xg_rs s1) with ⟨V2, s2, _ | f⟩ <;> rfl
    · rfl
  unfold w_rn_whenAndThen
  refine xv_remember hq hoc hR hR6 hR1 w hop hae he hE st hB (by omega) (fun O s1 hrem I1 f1 st1 hB1 oC1 => ?_) (fun O s1 f hrem I1 f1 st1 hB1 ha hb' h23 => ?_)
  · refine xa_f' (by decide) ?_
    have hE1 := xv_E_M hq hoc f1 hE
    have fh1 : xv_FH I1 oc tx none := xv_FH_n fh ⟨xv_SM_o f1 _ _ (by omega), xv_SM_o f1 _ _ (by omega), xv_SM_o f1 _ _ (by omega)⟩ ⟨xv_SM_o f1 _ _ (by omega), xv_SM_o f1 _ _ (by omega)⟩
    unfold w_ev_enforce
    refine xa_a (xa_a ⟨23, xv_enfL 22 0 _ (by omega) (fun i hi => by omega) (fun I2 hz g2 => ?_)⟩)
    have g2' : ∀ p k, p ≠ 120 → ¬ (p = 115 ∧ (k = 8 ∨ k = 9)) → I2 p k = I1 p k := fun p k h h' => by rw [g2 p k h, xa_w, if_neg (by omega), xa_w, if_neg (by omega)]
    have hE2 : xv_E q its a (e - a) I2 := by
      refine ⟨xi_CM_p hE1.1 (fun p a b => funext (fun k => g2' p k (by omega) (by omega))), ?_, ?_⟩
      · rw [g2 _ _ (by omega), xa_w, if_neg (by omega), xa_w, if_pos ⟨rfl, rfl⟩]
      · rw [g2 _ _ (by omega), xa_w, if_pos ⟨rfl, rfl⟩]; congr 1; omega
    have st2 : xv_St true I2 oc V (xg_rs s1) := by
      refine ⟨fun v hv => by rw [g2' _ _ (by omega) (by omega)]; exact st1.1 v hv, ?_, ?_, fun hg r hr => ?_⟩
      · rw [g2' _ _ (by omega) (by omega)]; exact st1.2.1
      · rw [g2' _ _ (by omega) (by omega)]; exact st1.2.2.1
      · rw [hz r hr]; unfold xg_rs; rw [if_pos (by omega)]
    have hB2 : xv_B 0 (xg_rs s1) := fun r => ⟨0, by omega, by unfold xg_rs; rw [if_pos (by omega)]; rfl⟩
    have f2 : xa_fr (xv_SI oc) I1 I2 := fun p k hp => by
      simp only [xv_SI, Bool.or_eq_false_iff, Bool.and_eq_false_iff, decide_eq_false_iff_not] at hp
      exact g2' p k (by omega) (by omega)
    have fh2 : xv_FH I2 oc tx none := xv_FH_n fh1 ⟨g2' _ _ (by omega) (by omega), g2' _ _ (by omega) (by omega), g2' _ _ (by omega) (by omega)⟩ ⟨g2' _ _ (by omega) (by omega), g2' _ _ (by omega) (by omega)⟩
    have hTx2 : xt_Tx I2 (q + 1) tx L := xv_Tx_I hq hoc hTx (xa_fr_t (xv_SI_M f1) f2)
    have oC2 : ∀ j it, a ≤ j → j < e → its[j]? = some it → xv_OC I2 (xi_C (its.take j)).length (xi_x it).1 O := fun j it h h' h'' i u hi h5 => by rw [g2' _ _ (by omega) (by omega)]; exact oC1 j it h h' h'' i u hi h5
    have f12 := xa_fr_t (xv_SI_M f1) f2
    -- behind the steps
    have after : ∀ (calm : Bool) (V2 : Nat → Int32) (s2 : xp_S) (I4 : pI), xa_fr (xv_SI oc) I I4 → xv_E q its 0 0 I4 → xv_St true I4 oc V2 s2 → xv_B 7200 s2 → xv_FH I4 oc tx none → xt_Tx I4 (q + 1) tx L → (∀ j it, a ≤ j → j < e → its[j]? = some it → xv_OC I4 (xi_C (its.take j)).length (xi_x it).1 O) → (∀ r, xg_fin V2 (xg_rng its a (e - a)) (xg_claims V2 O calm (xg_seg its a e) s2) = r → xg_wt (xg_seg its a e) (xg_rng its a (e - a)) V s = r) → ∃ n1, l_rn_whenAndThen_71 (nI a) (nI e) (if calm then 1 else 0) (fun I8 R8 => (w_rn_rulesAreMet (nI a) (nI e) I8 R8 (fun v8 I9 R9 => Q v8 I9 R9))) Q n1 (nI a) I4 R := by
      intro calm V2 s2 I4 f4 hE4 st4 hB4 fh4 hTx4 oC4 hw
      refine ⟨e - a + 1, xv_claimL (V := V2) (O := O) hq hoc hR hR6 hR1 hR2 w htx he (e - a) a s2 7200 I4 (by omega) (fun j it h h' h'' => ⟨hk3 it (xg_seg_mem h h' h''), fun _ => oC4 j it h h' h''⟩) hE4 hTx4 st4 hB4 (by omega) fh4 (fun s3 hc I5 f5 st5 hB5 fh5 => ?_) (fun s3 f hc I5 f5 st5 hB5 fh5 => ?_)⟩
      · have hE5 := xv_E_H hq hoc f5 hE4
        unfold w_rn_rulesAreMet
        refine ⟨e - a + 1, xv_metL (V := V2) (s := s3) (b := 7200 + 120 * (e - a)) hq hoc hR1 hR2 w he hE5 st5 hB5 (by omega) fh5 (e - a) a (by omega) (fun hm => ?_) (fun f hm I6 f6 st6 fh6 => ?_)⟩
        · exact h1 V2 s3 (hw _ (by rw [hc]; show (V2, s3, xg_met s3 _) = _; rw [hm])) I5 (xa_fr_t f4 (xv_SI_H f5)) hE5 (xv_St_f st5) (xv_B_m hB5 (by omega)) fh5
        · exact h2 V2 s3 f (hw _ (by rw [hc]; show (V2, s3, xg_met s3 _) = _; rw [hm])) I6 (xa_fr_t f4 (xa_fr_t (xv_SI_H f5) (xv_SI_H f6))) (xv_E_H hq hoc f6 hE5) (xv_St_f st6) (xv_B_m hB5 (by omega)) fh6
      · exact h2 V2 s3 f (hw _ (by rw [hc]; rfl)) I5 (xa_fr_t f4 (xv_SI_H f5)) (xv_E_H hq hoc f5 hE4) (xv_St_f st5) (xv_B_m hB5 (by omega)) fh5
    have rel : ∀ (V2 : Nat → Int32) (s2 : xp_S) (I3 : pI), xa_fr (xv_SV oc) I2 I3 → xv_St true I3 oc V2 s2 → ∃ I4, I4 = pw_wI (pw_wI I3 115 8 0) 115 9 0 ∧ xa_fr (xv_SI oc) I I4 ∧ xv_E q its 0 0 I4 ∧ xv_St true I4 oc V2 s2 ∧ xv_FH I4 oc tx none ∧ xt_Tx I4 (q + 1) tx L ∧ (∀ j it, a ≤ j → j < e → its[j]? = some it → xv_OC I4 (xi_C (its.take j)).length (xi_x it).1 O) ∧ I4 115 11 = I3 115 11 ∧ I4 115 12 = I3 115 12 := by
      intro V2 s2 I3 f3 st3
      have f34 : xa_fr (xv_SI oc) I3 (pw_wI (pw_wI I3 115 8 0) 115 9 0) := xa_fr_w (xa_fr_w (xa_fr_r _ _) rfl) rfl
      have f4 := xa_fr_t f12 (xa_fr_t (xv_SI_V f3) f34)
      have g4 : ∀ p k, p ≠ 115 → pw_wI (pw_wI I3 115 8 0) 115 9 0 p k = I3 p k := fun p k hp => by rw [xa_p hp, xa_p hp]
      refine ⟨_, rfl, f4, ⟨xv_CM_I hq hoc hE.1 f4, ?_, ?_⟩, ?_, ?_, xv_Tx_I hq hoc hTx f4, fun j it h h' h'' i u hi h5 => ?_, ?_, ?_⟩
      · rw [xa_w, if_neg (by omega), xa_w, if_pos ⟨rfl, rfl⟩]; rfl
      · rw [xa_w, if_pos ⟨rfl, rfl⟩]; rfl
      · exact xv_St_w hoc (xv_St_w hoc st3)
      · have := xv_FH_V hoc fh2 f3
        exact xv_FH_n this ⟨g4 _ _ (by omega), g4 _ _ (by omega), g4 _ _ (by omega)⟩ ⟨g4 _ _ (by omega), g4 _ _ (by omega)⟩
      · rw [g4 _ _ (by omega), xv_SV_o f3 _ _ (by omega)]; exact oC2 j it h h' h'' i u hi h5
      · rw [xa_w, if_neg (by omega), xa_w, if_neg (by omega)]
      · rw [xa_w, if_neg (by omega), xa_w, if_neg (by omega)]
    unfold w_rn_steps
    refine ⟨q, hR1, xv_q_sh hq, e - a + 1, ?_⟩
    refine xv_stepsL (fa := a) (fm := e - a) (f1 := 1) hq hoc hR hR6 hR2 w (by omega) (Or.inr rfl) (by omega) he (e - a) a V (xg_rs s1) 0 I2 (by omega) hE2 st2 hB2 (by omega) (fun V2 s2 hs I3 f3 st3 hB3 => ?_) (fun V2 s2 f hs I3 f3 st3 hB3 ha hb' h23 => ?_)
    · obtain ⟨I4, e4, f4, hE4, st4, fh4, hTx4, oC4, _, _⟩ := rel V2 s2 I3 f3 st3
      unfold w_ev_release
      refine xa_a (xa_a ?_)
      rw [← e4]
      refine xa_f' (by decide) (after true V2 s2 I4 f4 hE4 st4 (xv_B_m hB3 (by omega)) fh4 hTx4 oC4 (fun r hr => ?_))
      rw [eW _ hrem]; simp only; rw [hs]; exact hr
    · obtain ⟨I4, e4, f4, hE4, st4, fh4, hTx4, oC4, t11, t12⟩ := rel V2 s2 I3 f3 st3
      unfold w_ev_release
      refine xa_a (xa_a ?_)
      rw [← e4]
      refine xa_t' rfl ?_
      rw [t11, ha]
      have lose : ¬ (f.1 = 3 ∧ (xg_seg its a e).any (fun it => xi_k it == 5) = true) → w_rn_lose I4 R (fun v9 I10 R10 => Q v9 I10 R10) := by
        intro hn
        refine xv_lose (e := f) hoc hR2 fh4 st4 (by rw [t11, ha]) (by rw [t12, hb']) h23 (fun I5 f5 g5 st5 fh5 => h2 V2 s2 (f, none) ?_ I5 (xa_fr_t f4 (xv_SI_H f5)) (xv_E_H hq hoc f5 hE4) (xv_St_f st5) (xv_B_m hB3 (by omega)) fh5)
        rw [eW _ hrem]; simp only; rw [hs]; simp only; rw [if_neg hn]
      by_cases h3 : f.1 = 3
      · refine xa_t' (xa_e 3 h3) ?_
        unfold w_rn_has
        refine ⟨e - a + 1, xv_hasL hq hR1 w he hE4 (e - a) a (by omega) (fun hn => xa_t' rfl (lose (fun h => by rw [hn] at h; exact absurd h.2 (by decide)))) (fun hy => xa_f' (by decide) (after false V2 s2 I4 f4 hE4 st4 (xv_B_m hB3 (by omega)) fh4 hTx4 oC4 (fun r hr => ?_)))⟩
        rw [eW _ hrem]; simp only; rw [hs]; simp only; rw [if_pos ⟨h3, hy⟩]; exact hr
      · exact xa_f' (xa_ne 3 (by omega)) (lose (fun h => h3 h.1))
  · refine xa_t' rfl (xv_lose (e := f) hoc hR2 ?_ st1 ha hb' h23 (fun I5 f5 g5 st5 fh5 => h2 V s1 (f, none) ?_ I5 (xa_fr_t (xv_SI_M f1) (xv_SI_H f5)) (xv_E_H hq hoc f5 (xv_E_M hq hoc f1 hE)) st5 (xv_B_m hB1 (by omega)) fh5))
    · exact xv_FH_n fh ⟨xv_SM_o f1 _ _ (by omega), xv_SM_o f1 _ _ (by omega), xv_SM_o f1 _ _ (by omega)⟩ ⟨xv_SM_o f1 _ _ (by omega), xv_SM_o f1 _ _ (by omega)⟩
    · rw [eW _ hrem]
end
