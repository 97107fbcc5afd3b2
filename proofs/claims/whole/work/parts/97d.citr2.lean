/-! THE CLASS'S ITERATION, WHOLE -/
def xv_Rr (R : pR) (q oc : Nat) : pR := pw_wR (pw_wR (pw_wR (pw_wR R 114 1 (some q)) 114 2 (some oc)) 115 5 (some q)) 115 6 (some oc)
theorem xv_Rr_o {R : pR} {q oc p k : Nat} (h : ¬ (p = 114 ∧ (k = 1 ∨ k = 2)) ∧ ¬ (p = 115 ∧ (k = 5 ∨ k = 6))) : xv_Rr R q oc p k = R p k := by
  unfold xv_Rr pw_wR
  by_cases h1 : p = 114
  · subst h1
    have k1 : k ≠ 1 := by omega
    have k2 : k ≠ 2 := by omega
    simp [va_up, k1, k2]
  · by_cases h2 : p = 115
    · subst h2
      have k1 : k ≠ 5 := by omega
      have k2 : k ≠ 6 := by omega
      simp [va_up, k1, k2]
    · simp [h1, h2]
theorem xv_zeroL {R : pR} {oc : Nat} {K Q : pI → pR → Prop} : ∀ m c I, c + m = 26 → (∀ i, i < c → I (oc + 1) i = 0) → (∀ I', (∀ i, i < 26 → I' (oc + 1) i = 0) → (∀ p k, p ≠ oc + 1 → I' p k = I p k) → K I' R) → l_oc_begin_2 oc K Q (m + 1) (nI c) I R := by
  intro m; induction m with
  | zero =>
    intro c I hc h hK
    unfold l_oc_begin_2
    exact xa_t ((xa_lle 26 (by omega) (by omega)).mpr (by omega)) (hK I (fun i hi => h i (by omega)) (fun _ _ _ => rfl))
  | succ m ih =>
    intro c I hc h hK
    unfold l_oc_begin_2
    refine xa_f (fun hh => by have := (xa_lle 26 (by omega) (by omega)).mp hh; omega) ⟨vp_in_nI (by omega) (by omega), ?_⟩
    rw [nI_clamp (by omega), nI_1]
    refine xa_a (ih (c + 1) _ (by omega) (fun i hi => ?_) (fun I' h' f' => hK I' h' (fun p k hp => by rw [f' p k hp, xa_p hp])))
    rw [xa_w]
    by_cases hi' : i = c
    · rw [if_pos ⟨rfl, hi'⟩]
    · rw [if_neg (fun e => hi' e.2)]; exact h i (by omega)
theorem xv_begin {I : pI} {R : pR} {oc : Nat} {tx : Nat → Nat} {Q : pI → pR → Prop} (h : ∀ I', (∀ p k, ¬ (oc ≤ p ∧ p ≤ oc + 3) → I' p k = I p k) → xv_St false I' oc xg_O0 xg_O0 → xv_FH I' oc tx none → Q I' R) : w_oc_begin oc I R Q := by
  unfold w_oc_begin
  refine ⟨27, xv_zeroL 26 0 I (by omega) (fun i hi => by omega) (fun I1 hz f1 => ⟨vp_in_nI (n := 0) (by omega) (by omega), xa_a ⟨vp_in_nI (n := 1) (by omega) (by omega), xa_a ?_⟩⟩)⟩
  unfold w_dr_erase
  refine xa_a (xa_a (xa_a (xa_a (xa_a (xa_a (h _ ?_ ?_ ?_))))))
  · intro p k hp
    rw [xa_p (by omega), xa_p (by omega), xa_p (by omega), xa_p (by omega), xa_p (by omega), xa_p (by omega), xa_p (by omega), xa_p (by omega), f1 _ _ (by omega)]
  · refine ⟨fun v hv => ?_, ?_, ?_, fun hg => absurd hg (by decide)⟩
    · rw [xa_p (by omega), xa_p (by omega), xa_p (by omega), xa_p (by omega), xa_p (by omega), xa_p (by omega), xa_p (by omega), xa_p (by omega)]; exact hz v hv
    · rw [xa_p (by omega), xa_p (by omega), xa_p (by omega), xa_p (by omega), xa_p (by omega), xa_p (by omega), xa_w, if_neg (fun h => absurd h.2 (by decide)), xa_w, if_pos ⟨rfl, rfl⟩]; rfl
    · rw [xa_p (by omega), xa_p (by omega), xa_p (by omega), xa_p (by omega), xa_p (by omega), xa_p (by omega), xa_w, if_pos ⟨rfl, rfl⟩]; rfl
  · refine ⟨⟨?_, ?_⟩, ?_, ?_, ?_⟩
    · rw [xa_w, if_neg (by omega), xa_w, if_neg (by omega), xa_w, if_pos ⟨rfl, rfl⟩]
    · rw [xa_w, if_neg (by omega), xa_w, if_pos ⟨rfl, rfl⟩]
    · rw [xa_w, if_pos ⟨rfl, rfl⟩]
    · rw [xa_p (by omega), xa_p (by omega), xa_p (by omega), xa_w, if_neg (by omega), xa_w, if_pos ⟨rfl, rfl⟩]
    · rw [xa_p (by omega), xa_p (by omega), xa_p (by omega), xa_w, if_pos ⟨rfl, rfl⟩]
def xg_fst (h : xg_H) (e4 : Option (Nat × Nat)) : Option (Nat × Nat) := match h with
  | some f => some f.1
  | none => e4
section
variable {q oc : Nat} {R : pR} {tx : Nat → Nat} {ts : List (Nat × Nat × Nat × Nat)} {L : Nat} {F : xi_F}
theorem xv_clean {a1 a3 : Nat} {h : xg_H} {V : Nat → Int32} {s : xp_S} {b : Nat} {I : pI} {Q : pI → pR → Prop} (hq : q = 54 ∨ q = 81) (hoc : xv_oc oc) (hR : R 115 5 = some q) (hR6 : R 115 6 = some oc) (hR1 : R 114 1 = some q) (hR2 : R 114 2 = some oc) (fo : xg_FO ts L F) (fm : xi_FM I q F) (hE : xv_E q F.1 0 0 I) (st : xv_St false I oc V s) (hB : xv_B b s) (hb : b + 7200 ≤ 1000000000) (fh : xv_FH I oc tx h)
    (hQ : ∀ V4 s4 e4, xg_steps (xg_A []) (xg_ds ((xg_seg F.1 F.2.2.1 F.1.length).filter (fun it => xi_k it == 2))) V s = (V4, s4, e4) → ∀ I', xa_fr (xv_SI oc) I I' → xv_OR I' oc tx (V4, s4, xg_fst h e4, h.isSome && e4.isSome, h.bind (fun f => f.2)) → Q I' R) : j_rn_iterate_168 a1 a3 Q I R := by
  have hoc' := hoc
  unfold xv_oc at hoc'
  obtain ⟨w, hop, hpo, hpl, hpe, hpe2, _⟩ := fo
  have w1 := w.2.1
  unfold j_rn_iterate_168
  refine ⟨q, hR1, xv_q_sh hq, q, hR1, xv_q_sh hq, ?_⟩
  have e1 := xg_PMp (q := q) (F := F) (p := F.2.1.length) fm.2.1 (Nat.le_refl _)
  have e2 : xg_pe F F.2.1.length = F.2.2.1 := by unfold xg_pe; rw [List.getElem?_eq_none (Nat.le_refl _)]; rfl
  rw [fm.2.1.1, xq_pick (by omega) (by omega), e1, e2]
  refine ⟨q, hR1, xv_q_sh hq, ?_⟩
  rw [hE.1.1.1]
  unfold w_rn_steps
  refine ⟨q, hR1, xv_q_sh hq, F.1.length - F.2.2.1 + 1, ?_⟩
  have hFH : ∀ I1, xa_fr (xv_SV oc) I I1 → xv_FH I1 oc tx h := fun I1 f1 => xv_FH_fr fh (fun p k hp => xv_SV_o f1 p k (by omega))
  refine xv_stepsL (fa := 0) (fm := 0) (f1 := 2) hq hoc hR hR6 hR2 w (by omega) (Or.inl rfl) (by omega) (Nat.le_refl _) (F.1.length - F.2.2.1) F.2.2.1 V s b I (by omega) hE st hB (by omega) (fun V2 s2 hs I3 f3 st3 hB3 => ?_) (fun V2 s2 f hs I3 f3 st3 hB3 ha hb' h23 => ?_)
  · refine xa_f' (by decide) (hQ V2 s2 none hs I3 (xv_SI_V f3) ?_)
    have fh3 := hFH I3 f3
    refine ⟨st3.1, ⟨st3.2.1, st3.2.2.1⟩, ?_, ?_, fh3.2.2⟩
    · cases h with
      | none => exact fh3.1
      | some f => exact fh3.1
    · rw [fh3.2.1]; cases h <;> rfl
  · refine xa_t' rfl ?_
    have fh3 := hFH I3 f3
    cases h with
    | none =>
      refine xv_lose (e := f) hoc hR2 fh3 st3 ha hb' h23 (fun I5 f5 g5 st5 fh5 => hQ V2 s2 (some f) hs I5 (xa_fr_t (xv_SI_V f3) (xv_SI_H f5)) ⟨st5.1, ⟨st5.2.1, st5.2.2.1⟩, fh5.1, ?_, fh5.2.2⟩)
      rw [fh5.2.1]; rfl
    | some h =>
      unfold w_rn_lose
      refine ⟨oc, hR2, xv_oc_sh hoc, ?_⟩
      unfold w_oc_fail
      refine xa_f (by rw [fh3.1.1]; exact xa_ne 0 (by have := fh3.1.2.2; omega)) (xa_a (hQ V2 s2 (some f) hs _ (xa_fr_w (xv_SI_V f3) (by simp [xv_SI])) ⟨fun v hv => ?_, ⟨?_, ?_⟩, ⟨?_, ?_, fh3.1.2.2⟩, ?_, ?_⟩))
      · rw [xa_p (by omega)]; exact st3.1 v hv
      · rw [xa_p (by omega)]; exact st3.2.1
      · rw [xa_p (by omega)]; exact st3.2.2.1
      · rw [xa_w, if_neg (by omega)]; exact fh3.1.1
      · rw [xa_w, if_neg (by omega)]; exact fh3.1.2.1
      · rw [xa_w, if_pos ⟨rfl, rfl⟩]; rfl
      · exact xd_DC_fr fh3.2.2 (fun p k h1 h2 => by rw [xa_p (by omega)])
theorem xg_iter_c {F : xi_F} {row : Nat} {V1 : Nat → Int32} {s1 : xp_S} (hc : xg_steps (xg_A []) (xg_cells F row) xg_O0 xg_O0 = (V1, s1, none)) {V3 : Nat → Int32} {s3 : xp_S} {h : xg_H} (hm : xg_mid F V1 s1 = (V3, s3, h)) {V4 : Nat → Int32} {s4 : xp_S} {e4 : Option (Nat × Nat)} (hk : xg_steps (xg_A []) (xg_ds ((xg_seg F.1 F.2.2.1 F.1.length).filter (fun it => xi_k it == 2))) V3 s3 = (V4, s4, e4)) : xg_iter F row = (V4, s4, xg_fst h e4, h.isSome && e4.isSome, h.bind (fun f => f.2)) := by
  unfold xg_iter
  rw [hc]; simp only
  rw [hm]; simp only
  rw [hk]; rfl
theorem xv_iterate {row : Nat} {I : pI} {Q : pI → pR → Prop} (hq : q = 54 ∨ q = 81) (hoc : xv_oc oc) (fo : xg_FO ts L F) (htx : ∀ i, i < L → tx i < 65536) (fm : xi_FM I q F) (hTx : xt_Tx I (q + 1) tx L) (hrow : row < 60)
    (hQ : ∀ I', xa_fr (xv_SI oc) I I' → xv_OR I' oc tx (xg_iter F row) → Q I' (xv_Rr R q oc)) : w_rn_iterate q oc (nI row) I R Q := by
  have hoc' := hoc
  unfold xv_oc at hoc'
  have fo' := fo
  obtain ⟨w, hop, hpo, hpl, hpe, hpe2, hh, hh2, hrl, hrs⟩ := fo'
  have w1 := w.2.1
  unfold w_rn_iterate
  refine xa_ra (xa_ra ⟨oc, rfl, xv_oc_sh hoc, xv_begin (tx := tx) (fun I1 f1 st1 fh1 => ⟨q, rfl, xv_q_sh hq, oc, rfl, xv_oc_sh hoc, ?_⟩)⟩)
  unfold w_ev_begin w_ev_release
  refine xa_ra (xa_ra (xa_a (xa_a ?_)))
  rw [show pw_wR (pw_wR (pw_wR (pw_wR R 114 1 (some q)) 114 2 (some oc)) 115 5 (some q)) 115 6 (some oc) = xv_Rr R q oc from rfl]
  have hR : xv_Rr R q oc 115 5 = some q := rfl
  have hR6 : xv_Rr R q oc 115 6 = some oc := rfl
  have hR1 : xv_Rr R q oc 114 1 = some q := rfl
  have hR2 : xv_Rr R q oc 114 2 = some oc := rfl
  generalize xv_Rr R q oc = R' at *
  have g2 : ∀ p k, p ≠ 115 → pw_wI (pw_wI I1 115 8 0) 115 9 0 p k = I1 p k := fun p k hp => by rw [xa_p hp, xa_p hp]
  have f2 : xa_fr (xv_SI oc) I (pw_wI (pw_wI I1 115 8 0) 115 9 0) := fun p k hp => by
    simp only [xv_SI, Bool.or_eq_false_iff, Bool.and_eq_false_iff, decide_eq_false_iff_not] at hp
    rw [g2 _ _ (by omega), f1 _ _ (by omega)]
  have hE2 : xv_E q F.1 0 0 (pw_wI (pw_wI I1 115 8 0) 115 9 0) := by
    refine ⟨xv_CM_I hq hoc fm.1 f2, ?_, ?_⟩
    · rw [xa_w, if_neg (by omega), xa_w, if_pos ⟨rfl, rfl⟩]; rfl
    · rw [xa_w, if_pos ⟨rfl, rfl⟩]; rfl
  have st2 : xv_St false (pw_wI (pw_wI I1 115 8 0) 115 9 0) oc xg_O0 xg_O0 := xv_St_w hoc (xv_St_w hoc st1)
  have fh2 : xv_FH (pw_wI (pw_wI I1 115 8 0) 115 9 0) oc tx none := xv_FH_n fh1 ⟨g2 _ _ (by omega), g2 _ _ (by omega), g2 _ _ (by omega)⟩ ⟨g2 _ _ (by omega), g2 _ _ (by omega)⟩
  have hB2 : xv_B 0 xg_O0 := fun r => ⟨0, by omega, rfl⟩
  generalize pw_wI (pw_wI I1 115 8 0) 115 9 0 = I2 at *
  have fm2 := xi_FM_I hq hoc fm f2
  -- behind the cells
  have after : ∀ (V1 : Nat → Int32) (s1 : xp_S) (I3 : pI), xg_steps (xg_A []) (xg_cells F row) xg_O0 xg_O0 = (V1, s1, none) → xa_fr (xv_SI oc) I I3 → xv_E q F.1 0 0 I3 → xv_St false I3 oc V1 s1 → xv_B 7200 s1 → xv_FH I3 oc tx none →
      (∃ q4, R' 114 1 = some q4 ∧ pSH[q4]? = some (0, 5) ∧ (w_sr_pick (q4 + 23) 42 (0 : Int32) I3 R' (fun v4 I4 R6 => (w_rn_steps (0 : Int32) (0 : Int32) v4 I4 R6 (fun v5 I5 R7 => ((¬ v5 = 0 → (∃ n1, l_rn_iterate_78 q oc (fun I11 R13 => (j_rn_iterate_168 q oc Q I11 R13)) Q n1 (1 : Int32) (0 : Int32) I5 R7)) ∧ (v5 = 0 → (w_rn_lose  I5 R7 (fun v14 I15 R17 => ((v14 = 0 → (∃ n2, l_rn_iterate_78 q oc (fun I16 R18 => (j_rn_iterate_168 q oc Q I16 R18)) Q n2 (0 : Int32) (0 : Int32) I15 R17)) ∧ (¬ v14 = 0 → (∃ n3, l_rn_iterate_78 q oc (fun I17 R19 => (j_rn_iterate_168 q oc Q I17 R19)) Q n3 (1 : Int32) (0 : Int32) I15 R17)))))))))))) := by
    intro V1 s1 I3 hc f3 hE3 st3 hB3 fh3
    have fm3 := xi_FM_I hq hoc fm f3
    have e1 := xg_PMp (q := q) (F := F) (p := 0) fm3.2.1 (by omega)
    have hpe0 := hpe 0
    refine ⟨q, hR1, xv_q_sh hq, ?_⟩
    rw [show (0 : Int32) = nI 0 from rfl, xq_pick (by omega) (by omega), e1]
    unfold w_rn_steps
    refine ⟨q, hR1, xv_q_sh hq, xg_pe F 0 + 1, ?_⟩
    have emid : ∀ r, xg_steps (xg_A []) (xg_ds ((xg_seg F.1 0 (xg_pe F 0)).filter (fun it => xi_k it == 0))) V1 s1 = r → xg_mid F V1 s1 = (match r with
        | (V2, s2, some e) => (V2, s2, some (e, none))
        | (V2, s2, none) => xg_parts (xg_pl F 0 F.2.1.length) V2 s2) := by
      intro r hr
      unfold xg_mid
      rw [hr]
      rcases r with ⟨V2, s2, _ | e⟩ <;> rfl
    have clean : ∀ V3 s3 h I5, xg_mid F V1 s1 = (V3, s3, h) → xa_fr (xv_SI oc) I I5 → xv_E q F.1 0 0 I5 → xv_St false I5 oc V3 s3 → xv_B 2000000 s3 → xv_FH I5 oc tx h → j_rn_iterate_168 q oc Q I5 R' := by
      intro V3 s3 h I5 hm f5 hE5 st5 hB5 fh5
      exact xv_clean hq hoc hR hR6 hR1 hR2 fo (xi_FM_I hq hoc fm f5) hE5 st5 hB5 (by omega) fh5 (fun V4 s4 e4 hk I' f' h' => hQ I' (xa_fr_t f5 f') (by rw [xg_iter_c hc hm hk]; exact h'))
    refine xv_stepsL (fa := 0) (fm := 0) (f1 := 0) hq hoc hR hR6 hR2 w (by omega) (Or.inl rfl) (by omega) hpe0 (xg_pe F 0) 0 V1 s1 7200 I3 (by omega) hE3 st3 hB3 (by omega) (fun V2 s2 hs I4 f4 st4 hB4 => ?_) (fun V2 s2 f hs I4 f4 st4 hB4 ha hb' h23 => ?_)
    · refine xa_f' (by decide) ⟨F.2.1.length + 2, ?_⟩
      have f4' := xa_fr_t f3 (xv_SI_V f4)
      refine xv_partsL (tx := tx) hq hoc hR hR6 hR1 hR2 fo htx F.2.1.length 0 V2 s2 14400 I4 (by omega) (xi_FM_I hq hoc fm f4') (xv_E_V hq hoc f4 hE3) (xv_Tx_I hq hoc hTx f4') st4 (xv_B_m hB4 (by omega)) (by omega) (xv_FH_V hoc fh3 f4) (fun V3 s3 h hp I5 f5 hE5 st5 hB5 fh5 => clean V3 s3 h I5 ?_ (xa_fr_t f4' f5) hE5 st5 (xv_B_m hB5 (by omega)) fh5)
      rw [emid _ hs]; exact hp
    · refine xa_t' rfl (xv_lose (e := f) hoc hR2 (xv_FH_V hoc fh3 f4) st4 ha hb' h23 (fun I5 f5 g5 st5 fh5 => xa_t rfl ⟨1, ?_⟩))
      have k := clean V2 s2 (some (f, none)) I5 (emid _ hs) (xa_fr_t f3 (xa_fr_t (xv_SI_V f4) (xv_SI_H f5))) (xv_E_H hq hoc f5 (xv_E_V hq hoc f4 hE3)) st5 (xv_B_m hB4 (by omega)) fh5
      unfold l_rn_iterate_78
      exact ⟨q, hR1, xv_q_sh hq, fun _ => k, fun _ => xa_t rfl k⟩
  unfold w_rn_fill
  refine ⟨q, hR1, xv_q_sh hq, ?_⟩
  rw [fm2.2.2.2.1]
  by_cases hr : row < F.2.2.2.2.length
  · have hg : F.2.2.2.2[row]? = some F.2.2.2.2[row] := List.getElem?_eq_getElem hr
    generalize F.2.2.2.2[row] = a at hg
    have ec : xg_cells F row = ((F.1.drop (a + 0)).zip (F.2.2.2.1.drop 0)).map (fun e => ((xi_x e.1).2.2.1, some e.2.1)) := by unfold xg_cells; rw [hg]; rfl
    refine xa_t ((nI_ltI (by omega) (by omega)).mpr hr) ⟨q, hR1, xv_q_sh hq, F.2.2.2.1.length + 1, ?_⟩
    refine xv_fillL (tx := tx) hq hoc hR hR6 hR1 hR2 fo hg hrow F.2.2.2.1.length 0 xg_O0 xg_O0 0 I2 (by omega) fm2 hE2 st2 hB2 (by omega) fh2 (fun V' s' hs I3 f3 hE3 st3 hB3 fh3 => xa_f' (by decide) (after V' s' I3 (by rw [ec]; exact hs) (xa_fr_t f2 f3) hE3 st3 (xv_B_m hB3 (by omega)) fh3)) (fun V' s' f hs I3 f3 st3 fh3 => xa_t' rfl (hQ I3 (xa_fr_t f2 f3) ?_))
    have : xg_iter F row = (V', s', some f, false, none) := by
      unfold xg_iter; rw [ec, hs]
    rw [this]
    exact ⟨st3.1, ⟨st3.2.1, st3.2.2.1⟩, fh3.1, fh3.2.1, fh3.2.2⟩
  · have ec : xg_cells F row = [] := by unfold xg_cells; rw [List.getElem?_eq_none (by omega)]
    refine xa_f (fun h => hr ((nI_ltI (by omega) (by omega)).mp h)) (xa_f' (by decide) (after xg_O0 xg_O0 I2 (by rw [ec]; rfl) f2 hE2 st2 (xv_B_m hB2 (by omega)) fh2))
end
