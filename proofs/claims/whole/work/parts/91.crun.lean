/-! THE CLASS RUNS: EVALUATING, STEPS -/
def xv_SE (oc p k : Nat) : Bool := (p == 115 && (k == 7 || k == 10 || k == 11 || k == 12)) || p == 116 || p == 117 || p == 118 || p == 120 || p == oc + 2
theorem xv_SE_S {oc : Nat} {I I' : pI} (h : xa_fr (xv_S oc) I I') : xa_fr (xv_SE oc) I I' := xa_fr_m h (fun p k hp => by
  simp only [xv_S, xv_SE, Bool.or_eq_false_iff, Bool.and_eq_false_iff, beq_eq_false_iff_ne] at hp ⊢; omega)
theorem xv_SE_N {oc : Nat} {I I' : pI} (h : xa_fr xv_SN I I') : xa_fr (xv_SE oc) I I' := xv_SE_S (xv_SN_f h)
theorem xv_SE_o {oc : Nat} {I I' : pI} (h : xa_fr (xv_SE oc) I I') (p k : Nat) (hp : ¬ (p = 115 ∧ (k = 7 ∨ k = 10 ∨ k = 11 ∨ k = 12)) ∧ p ≠ 116 ∧ p ≠ 117 ∧ p ≠ 118 ∧ p ≠ 120 ∧ p ≠ oc + 2) : I' p k = I p k := h p k (by
  simp only [xv_SE, Bool.or_eq_false_iff, Bool.and_eq_false_iff, beq_eq_false_iff_ne]; omega)
theorem xv_St_w {g : Bool} {I : pI} {oc k : Nat} {v : Int32} {V : Nat → Int32} {s : xp_S} (hoc : xv_oc oc) (h : xv_St g I oc V s) : xv_St g (pw_wI I 115 k v) oc V s := by
  unfold xv_oc at hoc
  refine ⟨fun v hv => ?_, ?_, ?_, fun hg r hr => ?_⟩
  · rw [xa_p (by omega)]; exact h.1 v hv
  · rw [xa_p (by omega)]; exact h.2.1
  · rw [xa_p (by omega)]; exact h.2.2.1
  · rw [xa_p (by omega)]; exact h.2.2.2 hg r hr
theorem xv_E_w {I : pI} {q k : Nat} {its : List xi_I} {a m : Nat} {v : Int32} (hq : q = 54 ∨ q = 81) (h : xv_E q its a m I) (hk : k ≠ 8 ∧ k ≠ 9) : xv_E q its a m (pw_wI I 115 k v) := by
  refine ⟨xi_CM_p h.1 (fun p a b => xa_p (by omega)), ?_, ?_⟩
  · rw [xa_w, if_neg (by omega)]; exact h.2.1
  · rw [xa_w, if_neg (by omega)]; exact h.2.2
theorem xv_evaluate {g : Bool} {q oc : Nat} {R : pR} {V O : Nat → Int32} {A : xp_A} {its : List xi_I} {fa fm lv dp s0 b : Nat} {x : xp_X} {I : pI} {s : xp_S} {Q : Int32 → pI → pR → Prop} (hq : q = 54 ∨ q = 81) (hoc : xv_oc oc) (ev : xv_EV g q oc R V O A (xv_E q its fa fm) lv dp x) (hlv : lv ≤ 5) (hdp : dp ≤ 4) (hs : s0 + x.1.length ≤ 120) (cd : xc_CD I q s0 x.1) (oC : xv_OC I s0 x.1 O) (ci : xv_CI x.1) (hE : xv_E q its fa fm I) (st : xv_St g I oc V s) (hB : xv_B b s) (hb : b + x.1.length ≤ 1000000000)
    (h1 : ∀ s' D v, x.2.2.1 A V O s = (s', D, .inr v) → ∀ I', xa_fr (xv_SE oc) I I' → xv_St g I' oc V s' → xv_B (b + x.1.length) s' → I' 115 10 = v → I' 117 = xv_w1 (I 117) D → I' 118 = xv_w2 (I 118) D → Q 1 I' R)
    (h2 : ∀ s' D e, x.2.2.1 A V O s = (s', D, .inl e) → ∀ I', xa_fr (xv_SE oc) I I' → xv_St g I' oc V s' → xv_B (b + x.1.length) s' → I' 115 11 = nI e.1 → I' 115 12 = nI e.2 → (e.1 = 2 ∨ e.1 = 3) → Q 0 I' R) : w_ev_evaluate (nI s0) (nI (s0 + x.1.length)) I R Q := by
  unfold w_ev_evaluate
  refine xa_a (xa_a ?_)
  have hE1 := xv_E_w (k := 11) (v := 0) hq (xv_E_w (k := 7) (v := 0) hq hE (by omega)) (by omega)
  have st1 := xv_St_w (k := 11) (v := 0) hoc (xv_St_w (k := 7) (v := 0) hoc st)
  have f1 : xa_fr (xv_SE oc) I (pw_wI (pw_wI I 115 7 0) 115 11 0) := xa_fr_w (xa_fr_w (xa_fr_r _ _) rfl) rfl
  have g : ∀ p k, p ≠ 115 → (pw_wI (pw_wI I 115 7 0) 115 11 0) p k = I p k := fun p k hp => by rw [xa_p hp, xa_p hp]
  have t7 : (pw_wI (pw_wI I 115 7 0) 115 11 0) 115 7 = nI 0 := by rw [xa_w, if_neg (by decide), xa_w, if_pos ⟨rfl, rfl⟩]; rfl
  have t11 : (pw_wI (pw_wI I 115 7 0) 115 11 0) 115 11 = 0 := by rw [xa_w, if_pos ⟨rfl, rfl⟩]
  generalize pw_wI (pw_wI I 115 7 0) 115 11 0 = I1 at *
  have cd1 : xc_CD I1 q s0 x.1 := fun i e hi => by rw [g _ _ (by omega), g _ _ (by omega), g _ _ (by omega), g _ _ (by omega)]; exact cd i e hi
  have oC1 : xv_OC I1 s0 x.1 O := fun i e hi h5 => by rw [g _ _ (by omega)]; exact oC i e hi h5
  refine ⟨121, ev (s0 + x.1.length) _ _ s0 0 0 I1 s b hlv hdp (by omega) (by omega) (by omega) hs cd1 oC1 ci hE1 st1 hB hb t7 t11 (fun s' D v hd turn' I2 ht2 f2 st2 hB2 hj hv h72 h112 g7 g8 => ?_) (fun s' D e hd I2 f2 st2 hB2 htp ha hb2 h23 => ?_)⟩
  · rw [show 121 - turn' = (120 - turn') + 1 by omega]
    unfold l_ev_evaluate_15
    have done : w_ev_pop I2 R (fun v2 I5 R3 => (∀ I6, I6 = pw_wI I5 115 10 v2 → ((¬ (I6 115 11) = 0 → Q (0 : Int32) I6 R3) ∧ ((I6 115 11) = 0 → Q (1 : Int32) I6 R3)))) := by
      refine xv_pop (t := 0) h72 (by omega) (fun I3 f3 e7 e8 e6 et => xa_a ?_)
      refine xa_t' (by rw [xa_w, if_neg (by decide), xv_SN_o f3 _ _ (by omega)]; exact h112) ?_
      refine h1 s' D v hd _ (xa_fr_w (xa_fr_t f1 (xa_fr_t (xv_SE_S f2) (xv_SE_N f3))) rfl) (xv_St_w hoc (xv_St_N hoc st2 f3)) hB2 ?_ ?_ ?_
      · rw [xa_w, if_pos ⟨rfl, rfl⟩]; exact hv
      · rw [xa_p (by decide), e7, g7]; congr 1; exact funext (fun k => g _ _ (by omega))
      · rw [xa_p (by decide), e8, g8]; congr 1; exact funext (fun k => g _ _ (by omega))
    exact ⟨fun _ => done, fun _ => xa_t ((nI_leI (by omega) (by omega)).mpr (by omega)) done⟩
  · obtain ⟨t', ht', et'⟩ := htp
    refine xv_pop (t := t') et' (by omega) (fun I3 f3 e7 e8 e6 et => xa_a ?_)
    have k11 : pw_wI I3 115 10 (I2 116 t') 115 11 = nI e.1 := by rw [xa_w, if_neg (by decide), xv_SN_o f3 _ _ (by omega)]; exact ha
    refine xa_f' (by rw [k11]; exact xa_ne 0 (by omega)) ?_
    refine h2 s' D e hd _ (xa_fr_w (xa_fr_t f1 (xa_fr_t (xv_SE_S f2) (xv_SE_N f3))) rfl) (xv_St_w hoc (xv_St_N hoc st2 f3)) hB2 k11 ?_ h23
    rw [xa_w, if_neg (by decide), xv_SN_o f3 _ _ (by omega)]; exact hb2
/-- what is known of an item -/
def xg_IX (ts : List (Nat × Nat × Nat × Nat)) (L : Nat) (it : xi_I) : Prop := ∃ lv p p', lv ≤ 5 ∧ xf_D (xt_kd ts L) (xt_nm ts L) (xt_pl ts L) lv 0 (decide (xi_k it = 4)) p p' (xi_x it) ∧ xi_fi it ≤ xt_pl ts L p ∧ xi_la it = xt_en ts L (p' - 1)
def xg_IW (ts : List (Nat × Nat × Nat × Nat)) (L : Nat) (it : xi_I) : Prop := xi_k it < 9 ∧ (xi_k it = 7 → xg_RW (xi_ru it)) ∧ (xi_k it ≤ 4 ∨ xi_k it = 8 → xg_IX ts L it) ∧ (xi_k it = 5 ∨ xi_k it = 6 ∨ xi_k it = 7 → xi_x it = xi_x0 ∧ xi_tg it = none) ∧ (xi_k it ≤ 2 → ∀ v, xi_tg it = some v → v < 26) ∧ (xi_k it = 3 ∨ xi_k it = 4 → xi_tg it = none) ∧ xi_fi it < 120 ∧ xi_la it ≤ 120
def xg_W (ts : List (Nat × Nat × Nat × Nat)) (L : Nat) (its : List xi_I) : Prop := xt_WF ts L ∧ its.length ≤ 60 ∧ (xi_C its).length ≤ 120 ∧ (xi_G its).length ≤ 200 ∧ (xi_rs its).length ≤ 20 ∧ ((xi_rs its).flatMap xi_an).length ≤ 60 ∧ ∀ it, it ∈ its → xg_IW ts L it
theorem xg_W_rw {ts : List (Nat × Nat × Nat × Nat)} {L : Nat} {its : List xi_I} (w : xg_W ts L its) : ∀ it, it ∈ its → xi_k it < 9 ∧ (xi_k it = 7 → xg_RW (xi_ru it)) := fun it hi => ⟨(w.2.2.2.2.2.2 it hi).1, (w.2.2.2.2.2.2 it hi).2.1⟩
theorem xg_Cj {its : List xi_I} {j : Nat} {it : xi_I} (hj : its[j]? = some it) : (xi_C (its.take (j + 1))).length = (xi_C (its.take j)).length + (xi_x it).1.length ∧ (xi_C its) = xi_C (its.take j) ++ ((xi_x it).1 ++ xi_C (its.drop (j + 1))) := by
  have e : its.take (j + 1) = its.take j ++ [it] := by rw [List.take_add_one, hj]; rfl
  have e2 : its = its.take (j + 1) ++ its.drop (j + 1) := (List.take_append_drop (j + 1) its).symm
  refine ⟨by rw [e, xi_C_app, xi_C_one, List.length_append], ?_⟩
  conv => lhs; rw [e2, e]
  rw [xi_C_app, xi_C_app, xi_C_one, List.append_assoc]
theorem xg_CDj {I : pI} {q : Nat} {its : List xi_I} {j : Nat} {it : xi_I} (h : xc_CD I q 0 (xi_C its)) (hj : its[j]? = some it) : xc_CD I q (xi_C (its.take j)).length (xi_x it).1 := by
  rw [(xg_Cj hj).2] at h
  have := (xv_CD_sp (xv_CD_sp h).2).1
  rw [Nat.zero_add] at this; exact this
theorem xg_CI {ts : List (Nat × Nat × Nat × Nat)} {L : Nat} {it : xi_I} (w : xt_WF ts L) (h : xg_IX ts L it) : xv_CI (xi_x it).1 ∧ (∃ lv, lv ≤ 5 ∧ ∃ p p', xf_D (xt_kd ts L) (xt_nm ts L) (xt_pl ts L) lv 0 (decide (xi_k it = 4)) p p' (xi_x it)) ∧ (xi_k it ≠ 4 → ∀ e, e ∈ (xi_x it).1 → e.1 ≠ 5) := by
  obtain ⟨lv, p, p', hlv, hD, _, _⟩ := h
  have a := xf_all w (by omega) hD
  refine ⟨fun e he => ?_, ⟨lv, hlv, p, p', hD⟩, fun h4 => (a.2.2.2.2.1 (by simp [h4])).1⟩
  obtain ⟨⟨c1, c2, c3, c4⟩, i, i1, i2, i3⟩ := a.2.1 e he
  refine ⟨c1, c2, ?_, c3, c4⟩
  have := a.1
  rw [i3]; exact xt_pl_lt w (by omega)
/-- variables too -/
def xv_SV (oc p k : Nat) : Bool := xv_SE oc p k || p == oc + 1
theorem xv_SV_E {oc : Nat} {I I' : pI} (h : xa_fr (xv_SE oc) I I') : xa_fr (xv_SV oc) I I' := xa_fr_m h (fun p k hp => by
  unfold xv_SV at hp; simp only [Bool.or_eq_false_iff] at hp; exact hp.1)
theorem xv_SV_o {oc : Nat} {I I' : pI} (h : xa_fr (xv_SV oc) I I') (p k : Nat) (hp : ¬ (p = 115 ∧ (k = 7 ∨ k = 10 ∨ k = 11 ∨ k = 12)) ∧ p ≠ 116 ∧ p ≠ 117 ∧ p ≠ 118 ∧ p ≠ 120 ∧ p ≠ oc + 2 ∧ p ≠ oc + 1) : I' p k = I p k := h p k (by
  simp only [xv_SV, xv_SE, Bool.or_eq_false_iff, Bool.and_eq_false_iff, beq_eq_false_iff_ne]; omega)
theorem xv_E_V {q oc : Nat} {its : List xi_I} {a m : Nat} {I I' : pI} (hq : q = 54 ∨ q = 81) (hoc : xv_oc oc) (f : xa_fr (xv_SV oc) I I') (h : xv_E q its a m I) : xv_E q its a m I' := by
  unfold xv_oc at hoc
  refine ⟨xi_CM_p h.1 (fun p a b => funext (fun k => xv_SV_o f p k (by omega))), ?_, ?_⟩
  · rw [xv_SV_o f _ _ (by omega)]; exact h.2.1
  · rw [xv_SV_o f _ _ (by omega)]; exact h.2.2
/-- an item's evaluation -/
theorem xv_item {g : Bool} {q oc : Nat} {R : pR} {V O : Nat → Int32} {ts : List (Nat × Nat × Nat × Nat)} {L : Nat} {its : List xi_I} {fa fm b j : Nat} {it : xi_I} {I : pI} {s : xp_S} {Q : Int32 → pI → pR → Prop} (hq : q = 54 ∨ q = 81) (hoc : xv_oc oc) (hR : R 115 5 = some q) (hR6 : R 115 6 = some oc) (w : xg_W ts L its) (hfm : fa + fm ≤ its.length) (hgm : fm = 0 ∨ g = true) (hj : its[j]? = some it) (hk : xi_k it ≤ 4 ∨ xi_k it = 8) (oC : xi_k it = 4 → xv_OC I (xi_C (its.take j)).length (xi_x it).1 O) (hE : xv_E q its fa fm I) (st : xv_St g I oc V s) (hB : xv_B b s) (hb : b + 120 ≤ 1000000000)
    (h1 : ∀ s' D v, (xi_x it).2.2.1 (xg_A (xg_rng its fa fm)) V O s = (s', D, .inr v) → ∀ I', xa_fr (xv_SE oc) I I' → xv_St g I' oc V s' → xv_B (b + 120) s' → I' 115 10 = v → I' 117 = xv_w1 (I 117) D → I' 118 = xv_w2 (I 118) D → Q 1 I' R)
    (h2 : ∀ s' D e, (xi_x it).2.2.1 (xg_A (xg_rng its fa fm)) V O s = (s', D, .inl e) → ∀ I', xa_fr (xv_SE oc) I I' → xv_St g I' oc V s' → xv_B (b + 120) s' → I' 115 11 = nI e.1 → I' 115 12 = nI e.2 → (e.1 = 2 ∨ e.1 = 3) → Q 0 I' R) : w_ev_evaluate (nI (xi_C (its.take j)).length) (nI (xi_C (its.take (j + 1))).length) I R Q := by
  obtain ⟨ww, w1, w2, w3, w4, w5, w6⟩ := w
  have iw := w6 it (List.mem_of_getElem? hj)
  obtain ⟨ci, ⟨lv, hlv, p, p', hD⟩, hno⟩ := xg_CI ww (iw.2.2.1 hk)
  have hc := xg_Cj hj
  have hlen : (xi_C (its.take j)).length + (xi_x it).1.length ≤ 120 := by
    have := congrArg List.length hc.2
    rw [List.length_append, List.length_append] at this; omega
  rw [hc.1]
  refine xv_evaluate (V := V) (O := O) (A := xg_A (xg_rng its fa fm)) (dp := 0) hq hoc (xv_evD hq hR hoc hR6 (xv_E_S hq hoc) (xv_HAc hq hoc hR hR6 w1 w4 w5 (fun it hi => ⟨(w6 it hi).1, (w6 it hi).2.1⟩) hfm hgm) xg_B hD) hlv (by omega) hlen (xg_CDj hE.1.2.2.1 hj) ?_ ci hE st hB (by omega) (fun s' D v hd I' f st' hB' => h1 s' D v hd I' f st' (xv_B_m hB' (by omega))) (fun s' D e hd I' f st' hB' => h2 s' D e hd I' f st' (xv_B_m hB' (by omega)))
  by_cases h4 : xi_k it = 4
  · exact oC h4
  · intro i e hi h5; exact absurd h5 (hno h4 e (List.mem_of_getElem? hi))
theorem xg_seg_c {its : List xi_I} {a b : Nat} {it : xi_I} (h : its[a]? = some it) (hb : a < b) : xg_seg its a b = it :: xg_seg its (a + 1) b := by
  have hlt := xa_some_lt h
  unfold xg_seg
  rw [List.drop_eq_getElem_cons hlt, show b - a = (b - (a + 1)) + 1 by omega, List.take_succ_cons]
  rw [List.getElem?_eq_getElem hlt] at h
  rw [Option.some.inj h]
theorem xg_seg_n {its : List xi_I} {a b : Nat} (h : b ≤ a) : xg_seg its a b = [] := by
  unfold xg_seg; rw [show b - a = 0 by omega]; rfl
theorem xv_putV {g : Bool} {I : pI} {R : pR} {oc : Nat} {V : Nat → Int32} {s : xp_S} {tg : Option Nat} {det v : Int32} {Q : pI → pR → Prop} (hoc : xv_oc oc) (st : xv_St g I oc V s) (hd : det = xg_ti tg) (ht : ∀ t, tg = some t → t < 26) (h : ∀ I', xa_fr (xv_SV oc) I I' → xv_St g I' oc (xg_up V tg v) s → Q I' R) : w_sr_put (oc + 1) 26 det v I R Q := by
  cases tg with
  | none =>
    rw [hd]
    unfold w_sr_put
    exact xa_t (by decide) (h I (xa_fr_r _ _) st)
  | some t =>
    rw [hd]
    have := ht t rfl
    refine xc_put (by omega) this (h _ (xa_fr_w (xa_fr_r _ _) (by simp [xv_SV])) ?_)
    unfold xv_oc at hoc
    refine ⟨fun u hu => ?_, ?_, ?_, fun hg r hr => ?_⟩
    · rw [xa_w]
      show _ = xv_u V t v u
      unfold xv_u
      by_cases hut : u = t
      · rw [if_pos ⟨rfl, hut⟩, if_pos hut]
      · rw [if_neg (fun e => hut e.2), if_neg hut]; exact st.1 u hu
    · rw [xa_p (by omega)]; exact st.2.1
    · rw [xa_p (by omega)]; exact st.2.2.1
    · rw [xa_p (by omega)]; exact st.2.2.2 hg r hr
theorem xv_stepsL {g : Bool} {q oc : Nat} {R : pR} {ts : List (Nat × Nat × Nat × Nat)} {L : Nat} {its : List xi_I} {fa fm f1 e : Nat} {K : pI → pR → Prop} {Q : Int32 → pI → pR → Prop} (hq : q = 54 ∨ q = 81) (hoc : xv_oc oc) (hR : R 115 5 = some q) (hR6 : R 115 6 = some oc) (hR2 : R 114 2 = some oc) (w : xg_W ts L its) (hfm : fa + fm ≤ its.length) (hgm : fm = 0 ∨ g = true) (hf1 : f1 ≤ 2) (he : e ≤ its.length) :
    ∀ m a V s b I, a + m = e → xv_E q its fa fm I → xv_St g I oc V s → xv_B b s → b + 120 * m ≤ 1000000000 →
    (∀ V' s', xg_steps (xg_A (xg_rng its fa fm)) (xg_ds ((xg_seg its a e).filter (fun it => xi_k it == f1))) V s = (V', s', none) → ∀ I', xa_fr (xv_SV oc) I I' → xv_St g I' oc V' s' → xv_B (b + 120 * m) s' → K I' R) →
    (∀ V' s' f, xg_steps (xg_A (xg_rng its fa fm)) (xg_ds ((xg_seg its a e).filter (fun it => xi_k it == f1))) V s = (V', s', some f) → ∀ I', xa_fr (xv_SV oc) I I' → xv_St g I' oc V' s' → xv_B (b + 120 * m) s' → I' 115 11 = nI f.1 → I' 115 12 = nI f.2 → (f.1 = 2 ∨ f.1 = 3) → Q 0 I' R) →
    l_rn_steps_12 q (nI f1) (nI e) K Q (m + 1) (nI a) I R := by
  have w' := w
  obtain ⟨ww, w1, w2, w3, w4, w5, w6⟩ := w'
  intro m; induction m with
  | zero =>
    intro a V s b I ha hE st hB hb h1 h2
    unfold l_rn_steps_12
    refine xa_t ((nI_leI (by omega) (by omega)).mpr (by omega)) (h1 V s ?_ I (xa_fr_r _ _) st (xv_B_m hB (by omega)))
    rw [xg_seg_n (by omega)]; rfl
  | succ m ih =>
    intro a V s b I ha hE st hB hb h1 h2
    have hg : its[a]? = some its[a] := List.getElem?_eq_getElem (by omega)
    generalize its[a] = it at hg
    have iw := w6 it (List.mem_of_getElem? hg)
    have se := hE.1.1.2 a it hg
    rw [xg_seg_c hg (by omega)] at h1 h2
    unfold l_rn_steps_12
    refine xa_f (fun hh => by have := (nI_leI (by omega) (by omega)).mp hh; omega) ?_
    rw [xq_kindOf hE.1.1 hg w1]
    by_cases hk : xi_k it = f1
    · refine xa_t' (by rw [hk]) ?_
      rw [List.filter_cons_of_pos (by simp [hk])] at h1 h2
      rw [xq_pick (by omega) (by omega), se.2.2.2.1, xq_pick (by omega) (by omega), se.2.2.2.2.1]
      refine xv_item (V := V) (O := xg_O0) hq hoc hR hR6 w hfm hgm hg (by omega) (fun h4 => by omega) hE st hB (by omega) (fun s' D v hd I1 f1' st1 hB1 hv g7 g8 => ?_) (fun s' D f hd I1 f1' st1 hB1 ha' hb' h23 => ?_)
      · refine xa_f' (by decide) ⟨oc, hR2, xv_oc_sh hoc, ?_⟩
        have hE1 := xv_E_V hq hoc (xv_SV_E f1') hE
        have se1 := hE1.1.1.2 a it hg
        rw [xq_pick (by omega) (by omega), se1.2.2.2.2.2, hv]
        have hdet : xi_det its a it = xg_ti (xi_tg it) := by
          unfold xi_det; rw [if_neg (by omega)]
          cases xi_tg it <;> rfl
        refine xv_putV hoc st1 hdet (fun t ht => iw.2.2.2.2.1 (by omega) t ht) (fun I2 f2 st2 => ?_)
        rw [nI_1]
        have hst : ∀ r, xg_steps (xg_A (xg_rng its fa fm)) (xg_ds ((xg_seg its (a + 1) e).filter (fun it => xi_k it == f1))) (xg_up V (xi_tg it) v) s' = r → xg_steps (xg_A (xg_rng its fa fm)) (xg_ds (it :: (xg_seg its (a + 1) e).filter (fun it => xi_k it == f1))) V s = r := by
          intro r hr
          show (match (xi_x it).2.2.1 (xg_A (xg_rng its fa fm)) V xg_O0 s with
            | (s', _, .inr v) => xg_steps (xg_A (xg_rng its fa fm)) (xg_ds ((xg_seg its (a + 1) e).filter (fun it => xi_k it == f1))) (xg_up V (xi_tg it) v) s'
            | (s', _, .inl f) => (V, s', some f)) = r
          rw [hd]; exact hr
        refine ih (a + 1) _ s' (b + 120) I2 (by omega) (xv_E_V hq hoc f2 hE1) st2 hB1 (by omega) (fun V' s2 h I' f' st' hB' => h1 V' s2 (hst _ h) I' (xa_fr_t (xv_SV_E f1') (xa_fr_t f2 f')) st' (xv_B_m hB' (by omega))) (fun V' s2 f h I' f' st' hB' => h2 V' s2 f (hst _ h) I' (xa_fr_t (xv_SV_E f1') (xa_fr_t f2 f')) st' (xv_B_m hB' (by omega)))
      · refine xa_t' rfl (h2 V s' f ?_ I1 (xv_SV_E f1') st1 (xv_B_m hB1 (by omega)) ha' hb' h23)
        show (match (xi_x it).2.2.1 (xg_A (xg_rng its fa fm)) V xg_O0 s with
            | (s', _, .inr v) => xg_steps (xg_A (xg_rng its fa fm)) (xg_ds ((xg_seg its (a + 1) e).filter (fun it => xi_k it == f1))) (xg_up V (xi_tg it) v) s'
            | (s', _, .inl f) => (V, s', some f)) = _
        rw [hd]
    · have iw1 := iw.1
      refine xa_f' (fun h => hk ((nI_eq (by omega) (by omega)).mp h)) ?_
      rw [List.filter_cons_of_neg (by simp [hk])] at h1 h2
      rw [nI_1]
      exact ih (a + 1) V s b I (by omega) hE st hB (by omega) (fun V' s' h I' f' st' hB' => h1 V' s' h I' f' st' (xv_B_m hB' (by omega))) (fun V' s' f h I' f' st' hB' => h2 V' s' f h I' f' st' (xv_B_m hB' (by omega)))
