/-! THE CLASS'S CONDITIONS -/
def xv_SH (oc p k : Nat) : Bool := (p == 115 && (k == 7 || k == 10 || k == 11 || k == 12)) || p == 116 || p == 117 || p == 118 || p == 120 || (decide (oc ≤ p) && decide (p ≤ oc + 7))
theorem xv_SH_o {oc : Nat} {I I' : pI} (h : xa_fr (xv_SH oc) I I') (p k : Nat) (hp : ¬ (p = 115 ∧ (k = 7 ∨ k = 10 ∨ k = 11 ∨ k = 12)) ∧ p ≠ 116 ∧ p ≠ 117 ∧ p ≠ 118 ∧ p ≠ 120 ∧ ¬ (oc ≤ p ∧ p ≤ oc + 7)) : I' p k = I p k := h p k (by
  simp only [xv_SH, Bool.or_eq_false_iff, Bool.and_eq_false_iff, beq_eq_false_iff_ne, decide_eq_false_iff_not]; omega)
theorem xv_SH_E {oc : Nat} {I I' : pI} (h : xa_fr (xv_SE oc) I I') : xa_fr (xv_SH oc) I I' := xa_fr_m h (fun p k hp => by
  simp only [xv_SH, xv_SE, Bool.or_eq_false_iff, Bool.and_eq_false_iff, beq_eq_false_iff_ne, decide_eq_false_iff_not] at hp ⊢; omega)
theorem xv_SH_d {oc : Nat} {I I' : pI} (h : xa_fr (xd_S (oc + 3)) I I') : xa_fr (xv_SH oc) I I' := xa_fr_m h (fun p k hp => by
  simp only [xv_SH, xd_S, Bool.or_eq_false_iff, Bool.and_eq_false_iff, beq_eq_false_iff_ne, decide_eq_false_iff_not] at hp ⊢; omega)
theorem xv_E_H {q oc : Nat} {its : List xi_I} {a m : Nat} {I I' : pI} (hq : q = 54 ∨ q = 81) (hoc : xv_oc oc) (f : xa_fr (xv_SH oc) I I') (h : xv_E q its a m I) : xv_E q its a m I' := by
  unfold xv_oc at hoc
  refine ⟨xi_CM_p h.1 (fun p a b => funext (fun k => xv_SH_o f p k (by omega))), ?_, ?_⟩
  · rw [xv_SH_o f _ _ (by omega)]; exact h.2.1
  · rw [xv_SH_o f _ _ (by omega)]; exact h.2.2
theorem xv_OC_H {I I' : pI} {oc s : Nat} {c : List xp_I} {O : Nat → Int32} (hoc : xv_oc oc) (h : xv_OC I s c O) (f : xa_fr (xv_SH oc) I I') : xv_OC I' s c O := by
  unfold xv_oc at hoc
  intro i e hi h5
  rw [xv_SH_o f _ _ (by omega)]; exact h i e hi h5
theorem xv_Tx_H {I I' : pI} {oc q L : Nat} {tx : Nat → Nat} (hq : q = 54 ∨ q = 81) (hoc : xv_oc oc) (h : xt_Tx I (q + 1) tx L) (f : xa_fr (xv_SH oc) I I') : xt_Tx I' (q + 1) tx L := by
  unfold xv_oc at hoc
  intro i hi
  rw [xv_SH_o f _ _ (by omega)]; exact h i hi
/-- how an iteration stands -/
def xv_FH (I : pI) (oc : Nat) (tx : Nat → Nat) (h : xg_H) : Prop := (match h with
  | none => I oc 3 = 0 ∧ I oc 4 = -1
  | some f => I oc 3 = nI f.1.1 ∧ I oc 4 = nI f.1.2 ∧ 0 < f.1.1 ∧ f.1.1 < 10) ∧ I oc 5 = 0 ∧ xd_DC I (oc + 3) tx (h.bind (fun f => f.2))
theorem xv_FH_n {I I' : pI} {oc : Nat} {tx : Nat → Nat} (h : xv_FH I oc tx none) (f0 : I' oc 3 = I oc 3 ∧ I' oc 4 = I oc 4 ∧ I' oc 5 = I oc 5) (f1 : I' (oc + 3) 5 = I (oc + 3) 5 ∧ I' (oc + 3) 6 = I (oc + 3) 6) : xv_FH I' oc tx none := by
  obtain ⟨⟨a, b⟩, c, d⟩ := h
  refine ⟨⟨f0.1.trans a, f0.2.1.trans b⟩, f0.2.2.trans c, ?_⟩
  exact ⟨f1.1.trans d.1, f1.2.trans d.2⟩
theorem xv_FH_E {I I' : pI} {oc : Nat} {tx : Nat → Nat} (hoc : xv_oc oc) (h : xv_FH I oc tx none) (f : xa_fr (xv_SE oc) I I') : xv_FH I' oc tx none := by
  unfold xv_oc at hoc
  exact xv_FH_n h ⟨xv_SE_o f _ _ (by omega), xv_SE_o f _ _ (by omega), xv_SE_o f _ _ (by omega)⟩ ⟨xv_SE_o f _ _ (by omega), xv_SE_o f _ _ (by omega)⟩
theorem xv_FH_V {I I' : pI} {oc : Nat} {tx : Nat → Nat} (hoc : xv_oc oc) (h : xv_FH I oc tx none) (f : xa_fr (xv_SV oc) I I') : xv_FH I' oc tx none := by
  unfold xv_oc at hoc
  exact xv_FH_n h ⟨xv_SV_o f _ _ (by omega), xv_SV_o f _ _ (by omega), xv_SV_o f _ _ (by omega)⟩ ⟨xv_SV_o f _ _ (by omega), xv_SV_o f _ _ (by omega)⟩
/-- a first failure without a drawing -/
theorem xv_fail1 {g : Bool} {I : pI} {R : pR} {oc c p : Nat} {tx : Nat → Nat} {V : Nat → Int32} {s : xp_S} {Q : pI → pR → Prop} (hoc : xv_oc oc) (fh : xv_FH I oc tx none) (st : xv_St g I oc V s) (hc : 0 < c ∧ c < 10) (h : ∀ I', xa_fr (xv_SH oc) I I' → (∀ p' k', p' ≠ oc → I' p' k' = I p' k') → xv_St g I' oc V s → xv_FH I' oc tx (some ((c, p), none)) → Q I' R) : w_oc_fail oc (nI c) (nI p) I R Q := by
  have hoc' := hoc
  unfold xv_oc at hoc'
  unfold w_oc_fail
  obtain ⟨⟨a, b⟩, e, d⟩ := fh
  refine xa_t a (xa_a (xa_a ?_))
  have g : ∀ p' k', p' ≠ oc → pw_wI (pw_wI I oc 3 (nI c)) oc 4 (nI p) p' k' = I p' k' := fun p' k' hp => by rw [xa_p hp, xa_p hp]
  refine h _ (xa_fr_w (xa_fr_w (xa_fr_r _ _) (by simp [xv_SH])) (by simp [xv_SH])) g ?_ ⟨⟨?_, ?_, hc⟩, ?_, ?_⟩
  · exact ⟨fun v hv => by rw [g _ _ (by omega)]; exact st.1 v hv, by rw [g _ _ (by omega)]; exact st.2.1, by rw [g _ _ (by omega)]; exact st.2.2.1, fun hg r hr => by rw [g _ _ (by omega)]; exact st.2.2.2 hg r hr⟩
  · rw [xa_w, if_neg (by omega), xa_w, if_pos ⟨rfl, rfl⟩]
  · rw [xa_w, if_pos ⟨rfl, rfl⟩]
  · rw [xa_w, if_neg (by omega), xa_w, if_neg (by omega)]; exact e
  · exact ⟨by rw [g _ _ (by omega)]; exact d.1, by rw [g _ _ (by omega)]; exact d.2⟩
theorem xv_forgetL {R : pR} {K Q : pI → pR → Prop} : ∀ m c I, c + m = 120 → (∀ i, i < c → I 117 i = 0) → (∀ I', (∀ i, i < 120 → I' 117 i = 0) → (∀ p k, p ≠ 117 → I' p k = I p k) → K I' R) → l_ev_forgetNotes_2 K Q (m + 1) (nI c) I R := by
  intro m; induction m with
  | zero =>
    intro c I hc h hK
    unfold l_ev_forgetNotes_2
    exact xa_t ((xa_lle 120 (by omega) (by omega)).mpr (by omega)) (hK I (fun i hi => h i (by omega)) (fun _ _ _ => rfl))
  | succ m ih =>
    intro c I hc h hK
    unfold l_ev_forgetNotes_2
    refine xa_f (fun hh => by have := (xa_lle 120 (by omega) (by omega)).mp hh; omega) ⟨vp_in_nI (by omega) (by omega), ?_⟩
    rw [nI_clamp (by omega), nI_1]
    refine xa_a (ih (c + 1) _ (by omega) (fun i hi => ?_) (fun I' h' f' => hK I' h' (fun p k hp => by rw [f' p k hp, xa_p hp])))
    rw [xa_w]
    by_cases hi' : i = c
    · rw [if_pos ⟨rfl, hi'⟩]
    · rw [if_neg (fun e => hi' e.2)]; exact h i (by omega)
theorem xg_IX_la {ts : List (Nat × Nat × Nat × Nat)} {L : Nat} {it : xi_I} (w : xt_WF ts L) (h : xg_IX ts L it) : xi_fi it < xi_la it ∧ xi_la it ≤ L ∧ ∀ A V O s, xf_dis ((xi_x it).2.2.1 A V O s).2.1 ∧ ∀ e, e ∈ ((xi_x it).2.2.1 A V O s).2.1 → xi_fi it ≤ e.1 ∧ e.1 < xi_la it := by
  obtain ⟨lv, p, p', hlv, hD, hfi, hla⟩ := h
  have a := xf_all w (by omega) hD
  have h1 := a.1
  have hp1 := w.2.2 (p' - 1) (by omega)
  have hm1 := xt_pl_mono w p (p' - 1) (by omega)
  refine ⟨by omega, by omega, fun A V O s => ⟨(a.2.2.2.2.2.2.2 A V O s).2, fun e he => ?_⟩⟩
  obtain ⟨i, i1, i2, i3⟩ := (a.2.2.2.2.2.2.2 A V O s).1 e he
  have hm2 := xt_pl_mono w p i i1
  have hm3 := xt_pl_mono w i (p' - 1) (by omega)
  omega
theorem xv_lose {g : Bool} {I : pI} {R : pR} {oc : Nat} {e : Nat × Nat} {tx : Nat → Nat} {V : Nat → Int32} {s : xp_S} {Q : Int32 → pI → pR → Prop} (hoc : xv_oc oc) (hR2 : R 114 2 = some oc) (fh : xv_FH I oc tx none) (st : xv_St g I oc V s) (ha : I 115 11 = nI e.1) (hb : I 115 12 = nI e.2) (he : e.1 = 2 ∨ e.1 = 3) (h : ∀ I', xa_fr (xv_SH oc) I I' → (∀ p' k', p' ≠ oc → I' p' k' = I p' k') → xv_St g I' oc V s → xv_FH I' oc tx (some (e, none)) → Q 0 I' R) : w_rn_lose I R Q := by
  unfold w_rn_lose
  rw [ha, hb]
  exact ⟨oc, hR2, xv_oc_sh hoc, xv_fail1 hoc fh st (by omega) h⟩
theorem xv_holds {g : Bool} {q oc : Nat} {R : pR} {V O : Nat → Int32} {tx : Nat → Nat} {ts : List (Nat × Nat × Nat × Nat)} {L : Nat} {its : List xi_I} {b j : Nat} {it : xi_I} {I : pI} {s : xp_S} {Q : Int32 → pI → pR → Prop} (hq : q = 54 ∨ q = 81) (hoc : xv_oc oc) (hR : R 115 5 = some q) (hR6 : R 115 6 = some oc) (hR1 : R 114 1 = some q) (hR2 : R 114 2 = some oc) (w : xg_W ts L its) (hj : its[j]? = some it) (hk : xi_k it = 3 ∨ xi_k it = 4) (oC : xi_k it = 4 → xv_OC I (xi_C (its.take j)).length (xi_x it).1 O) (hE : xv_E q its 0 0 I) (hTx : xt_Tx I (q + 1) tx L) (htx : ∀ i, i < L → tx i < 65536) (st : xv_St g I oc V s) (hB : xv_B b s) (hb : b + 120 ≤ 1000000000) (fh : xv_FH I oc tx none)
    (h1 : ∀ s', xg_hold V O s it = (s', none) → ∀ I', xa_fr (xv_SH oc) I I' → xv_St g I' oc V s' → xv_B (b + 120) s' → xv_FH I' oc tx none → Q 1 I' R)
    (h2 : ∀ s' f, xg_hold V O s it = (s', some f) → ∀ I', xa_fr (xv_SH oc) I I' → xv_St g I' oc V s' → xv_B (b + 120) s' → xv_FH I' oc tx (some f) → Q 0 I' R) : w_rn_holds (nI j) I R Q := by
  have hoc' := hoc
  unfold xv_oc at hoc'
  have hlt := xa_some_lt hj
  have w1 := w.2.1
  have iw := w.2.2.2.2.2.2 it (List.mem_of_getElem? hj)
  obtain ⟨la1, la2, la3⟩ := xg_IX_la w.1 (iw.2.2.1 (by omega))
  have hL := w.1.1
  unfold w_rn_holds w_ev_forgetNotes
  refine ⟨121, xv_forgetL 120 0 I (by omega) (fun i hi => by omega) (fun I1 hz g1 => ?_)⟩
  have f1 : xa_fr (xv_SE oc) I I1 := fun p k hp => g1 p k (fun e => by rw [e] at hp; simp [xv_SE] at hp)
  have hE1 : xv_E q its 0 0 I1 := xv_E_V hq hoc (xv_SV_E f1) hE
  have st1 : xv_St g I1 oc V s := ⟨fun v hv => by rw [g1 _ _ (by omega)]; exact st.1 v hv, by rw [g1 _ _ (by omega)]; exact st.2.1, by rw [g1 _ _ (by omega)]; exact st.2.2.1, fun hg r hr => by rw [g1 _ _ (by omega)]; exact st.2.2.2 hg r hr⟩
  have fh1 := xv_FH_E hoc fh f1
  have se := hE1.1.1.2 j it hj
  refine ⟨q, hR1, xv_q_sh hq, ?_⟩
  rw [xq_pick (by omega) (by omega), se.2.2.2.1]
  refine ⟨q, hR1, xv_q_sh hq, ?_⟩
  rw [xq_pick (by omega) (by omega), se.2.2.2.2.1]
  have eH : ∀ r, (xi_x it).2.2.1 (xg_A []) V O s = r → xg_hold V O s it = (match r with
      | (s', D, .inr v) => if v = 0 then (s', some ((1, xi_fi it), some (xi_fi it, xi_la it, D))) else (s', none)
      | (s', _, .inl e) => (s', some (e, none))) := by
    intro r hr; unfold xg_hold; rw [hr]
    rcases r with ⟨s', D, e | v⟩ <;> rfl
  refine xv_item (V := V) (O := O) hq hoc hR hR6 w (by omega) (Or.inl rfl) hj (by omega) (fun h4 i e hi h5 => by rw [g1 _ _ (by omega)]; exact oC h4 i e hi h5) hE1 st1 hB hb (fun s' D v hd I2 f2 st2 hB2 hv g7 g8 => ?_) (fun s' D e hd I2 f2 st2 hB2 ha hb' h23 => ?_)
  · have f12 := xa_fr_t f1 f2
    have fh2 := xv_FH_E hoc fh1 f2
    refine xa_f' (by decide) ?_
    rw [hv]
    by_cases h0 : v = 0
    · refine xa_t h0 ⟨q, hR1, xv_q_sh hq, ?_⟩
      have hE2 : xv_E q its 0 0 I2 := xv_E_V hq hoc (xv_SV_E f2) hE1
      rw [xq_placeOf hE2.1.1 hj w1]
      refine ⟨oc, hR2, xv_oc_sh hoc, ?_⟩
      refine xv_fail1 (c := 1) (p := xi_fi it) hoc fh2 st2 (by omega) (fun I3 f3 g3 st3 fh3 => ?_)
      refine ⟨oc, hR2, xv_oc_sh hoc, q, hR1, xv_q_sh hq, q, hR1, xv_q_sh hq, ?_⟩
      have hE3 := xv_E_H hq hoc f3 hE2
      have se3 := hE3.1.1.2 j it hj
      rw [xq_pick (by omega) (by omega), se3.2.2.1]
      have hd3 : xd_oc (oc + 3) := by unfold xd_oc; omega
      refine xd_write (tx := tx) (fi := xi_fi it) (la := xi_la it) hd3 (by omega) (by omega) (by omega) (fun i hi => htx i (by omega)) (fun i hi => ?_) (fun I4 e4 e1 e5 e6 f4 => ?_)
      · rw [g3 _ _ (by omega), xv_SE_o f12 _ _ (by omega)]; exact hTx i (by omega)
      · refine ⟨oc, hR2, xv_oc_sh hoc, ?_⟩
        have dis := (la3 (xg_A []) V O s).1
        have hd' : (xi_x it).2.2.1 (xg_A []) V O s = (s', D, .inr v) := hd
        rw [hd'] at dis
        have g4 : ∀ p k, p ≠ oc + 3 → p ≠ oc + 4 → p ≠ oc + 5 → p ≠ oc + 6 → p ≠ oc + 7 → I4 p k = I3 p k := fun p k a b c d e => xd_S_o f4 p k (by omega)
        refine xd_addValues (tx := tx) (fi := xi_fi it) (la := xi_la it) (D := D) hd3 (by omega) (by omega) e4 e1 e5 e6 (fun p hp => ?_) (fun p v hp hv => ?_) (fun I5 dc5 f5 => ?_)
        · rw [g4 _ _ (by omega) (by omega) (by omega) (by omega) (by omega), g3 _ _ (by omega), g7, xd_w1, hz p hp]
        · rw [g4 _ _ (by omega) (by omega) (by omega) (by omega) (by omega), g3 _ _ (by omega), g8]; exact xd_w2 D _ p v dis hv
        · have g5 : ∀ p k, p ≠ oc + 3 → p ≠ oc + 4 → p ≠ oc + 5 → p ≠ oc + 6 → p ≠ oc + 7 → I5 p k = I3 p k := fun p k a b c d e => by rw [xd_S_o f5 p k (by omega), g4 p k a b c d e]
          refine h2 s' ((1, xi_fi it), some (xi_fi it, xi_la it, D)) ?_ I5 (xa_fr_t (xv_SH_E f12) (xa_fr_t f3 (xa_fr_t (xv_SH_d f4) (xv_SH_d f5)))) ?_ hB2 ⟨⟨?_, ?_, by show 0 < 1; omega, by show 1 < 10; omega⟩, ?_, dc5⟩
          · rw [eH _ hd]; simp [h0]
          · exact ⟨fun v hv => by rw [g5 _ _ (by omega) (by omega) (by omega) (by omega) (by omega)]; exact st3.1 v hv, by rw [g5 _ _ (by omega) (by omega) (by omega) (by omega) (by omega)]; exact st3.2.1, by rw [g5 _ _ (by omega) (by omega) (by omega) (by omega) (by omega)]; exact st3.2.2.1, fun hg r hr => by rw [g5 _ _ (by omega) (by omega) (by omega) (by omega) (by omega)]; exact st3.2.2.2 hg r hr⟩
          · rw [g5 _ _ (by omega) (by omega) (by omega) (by omega) (by omega)]; exact fh3.1.1
          · rw [g5 _ _ (by omega) (by omega) (by omega) (by omega) (by omega)]; exact fh3.1.2.1
          · rw [g5 _ _ (by omega) (by omega) (by omega) (by omega) (by omega)]; exact fh3.2.1
    · refine xa_f h0 (h1 s' ?_ I2 (xv_SH_E f12) st2 hB2 fh2)
      rw [eH _ hd]; simp [h0]
  · refine xa_t' rfl (xv_lose hoc hR2 (xv_FH_E hoc fh1 f2) st2 ha hb' h23 (fun I3 f3 g3 st3 fh3 => h2 s' (e, none) ?_ I3 (xa_fr_t (xv_SH_E (xa_fr_t f1 f2)) f3) st3 hB2 fh3))
    rw [eH _ hd]
