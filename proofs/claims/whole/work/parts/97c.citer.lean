/-! THE CLASS'S ITERATION -/
theorem xd_DC_fr {I I' : pI} {t : Nat} {tx : Nat → Nat} {dr : Option (Nat × Nat × List (Nat × Int32))} (h : xd_DC I t tx dr) (f : ∀ p k, t ≤ p → p ≤ t + 4 → I' p k = I p k) : xd_DC I' t tx dr := by
  cases dr with
  | none => exact ⟨by rw [f _ _ (by omega) (by omega)]; exact h.1, by rw [f _ _ (by omega) (by omega)]; exact h.2⟩
  | some d =>
    obtain ⟨a, b, c, d', e⟩ := h
    refine ⟨by rw [f _ _ (by omega) (by omega)]; exact a, fun i hi => by rw [f _ _ (by omega) (by omega)]; exact b i hi, ⟨by rw [f _ _ (by omega) (by omega)]; exact c.1, fun i u hi => by rw [f _ _ (by omega) (by omega), f _ _ (by omega) (by omega)]; exact c.2 i u hi⟩, by rw [f _ _ (by omega) (by omega)]; exact d', fun k u hk => by rw [f _ _ (by omega) (by omega)]; exact e k u hk⟩
theorem xv_FH_fr {I I' : pI} {oc : Nat} {tx : Nat → Nat} {h : xg_H} (fh : xv_FH I oc tx h) (f : ∀ p k, p = oc ∨ (oc + 3 ≤ p ∧ p ≤ oc + 7) → I' p k = I p k) : xv_FH I' oc tx h := by
  obtain ⟨a, b, c⟩ := fh
  refine ⟨?_, by rw [f _ _ (by omega)]; exact b, xd_DC_fr c (fun p k h1 h2 => f p k (by omega))⟩
  cases h with
  | none => exact ⟨by rw [f _ _ (by omega)]; exact a.1, by rw [f _ _ (by omega)]; exact a.2⟩
  | some g => exact ⟨by rw [f _ _ (by omega)]; exact a.1, by rw [f _ _ (by omega)]; exact a.2.1, a.2.2⟩
/-- an outcome -/
def xv_OR (I : pI) (oc : Nat) (tx : Nat → Nat) (r : xg_R) : Prop := (∀ v, v < 26 → I (oc + 1) v = r.1 v) ∧ (I (oc + 2) 0 = r.2.1 0 ∧ I (oc + 2) 1 = r.2.1 1) ∧ (match r.2.2.1 with
  | none => I oc 3 = 0 ∧ I oc 4 = -1
  | some f => I oc 3 = nI f.1 ∧ I oc 4 = nI f.2 ∧ 0 < f.1 ∧ f.1 < 10) ∧ I oc 5 = (if r.2.2.2.1 then 1 else 0) ∧ xd_DC I (oc + 3) tx r.2.2.2.2
/-- what is known of a feature that is run -/
def xg_FO (ts : List (Nat × Nat × Nat × Nat)) (L : Nat) (F : xi_F) : Prop := xg_W ts L F.1 ∧ (xg_os F.1).Pairwise (fun a b => a.1 < b.1) ∧ (∀ p, p < F.2.1.length → xg_PO F.1 (xg_pe F p) (xg_pe F (p + 1))) ∧ F.2.1.length ≤ 40 ∧ (∀ p, xg_pe F p ≤ F.1.length) ∧ F.2.2.1 ≤ F.1.length ∧ F.2.2.2.1.length ≤ 60 ∧ (∀ e, e ∈ F.2.2.2.1 → e.1 < 26) ∧ F.2.2.2.2.length ≤ 60 ∧ (∀ (r a : Nat), F.2.2.2.2[r]? = some a → a + F.2.2.2.1.length ≤ F.1.length ∧ ∀ (j : Nat) (it : xi_I), a ≤ j → j < a + F.2.2.2.1.length → F.1[j]? = some it → xi_k it = 8)
section
variable {q oc : Nat} {R : pR} {tx : Nat → Nat} {ts : List (Nat × Nat × Nat × Nat)} {L : Nat} {F : xi_F}
theorem xi_FM_I {I I' : pI} (hq : q = 54 ∨ q = 81) (hoc : xv_oc oc) (h : xi_FM I q F) (f : xa_fr (xv_SI oc) I I') : xi_FM I' q F := by
  have hoc' := hoc
  unfold xv_oc at hoc'
  obtain ⟨a, b, c, d⟩ := h
  refine ⟨xv_CM_I hq hoc a f, xi_PM_fr b ?_ ?_, xi_HM_fr c ?_ ?_ ?_, xi_WM_fr d ?_ ?_⟩
  · exact xv_SI_o f _ _ (by omega)
  · exact funext (fun k => xv_SI_o f _ _ (by omega))
  · exact xv_SI_o f _ _ (by omega)
  · exact funext (fun k => xv_SI_o f _ _ (by omega))
  · exact funext (fun k => xv_SI_o f _ _ (by omega))
  · exact xv_SI_o f _ _ (by omega)
  · exact funext (fun k => xv_SI_o f _ _ (by omega))
theorem xg_PMp {I : pI} {p : Nat} (h : xi_PM I q F.2.1 F.2.2.1) (hp : p ≤ F.2.1.length) : I (q + 23) p = nI (xg_pe F p) := by
  unfold xg_pe
  by_cases hl : p < F.2.1.length
  · have hg : F.2.1[p]? = some F.2.1[p] := List.getElem?_eq_getElem hl
    rw [hg]; exact h.2.1 p _ hg
  · rw [List.getElem?_eq_none (by omega), show p = F.2.1.length by omega]; exact h.2.2
set_option maxRecDepth 100000 in
theorem xv_partsL {a1 a3 : Nat} {K Q : pI → pR → Prop} (hq : q = 54 ∨ q = 81) (hoc : xv_oc oc) (hR : R 115 5 = some q) (hR6 : R 115 6 = some oc) (hR1 : R 114 1 = some q) (hR2 : R 114 2 = some oc) (fo : xg_FO ts L F) (htx : ∀ i, i < L → tx i < 65536) :
    ∀ m p V s b I, p + m = F.2.1.length → xi_FM I q F → xv_E q F.1 0 0 I → xt_Tx I (q + 1) tx L → xv_St false I oc V s → xv_B b s → b + 30000 * m ≤ 1000000000 → xv_FH I oc tx none →
    (∀ V' s' h, xg_parts (xg_pl F p m) V s = (V', s', h) → ∀ I', xa_fr (xv_SI oc) I I' → xv_E q F.1 0 0 I' → xv_St false I' oc V' s' → xv_B (b + 30000 * m) s' → xv_FH I' oc tx h → K I' R) →
    l_rn_iterate_78 a1 a3 K Q (m + 2) (1 : Int32) (nI p) I R := by
  obtain ⟨w, hop, hpo, hpl, hpe, hpe2, _⟩ := fo
  have w1 := w.2.1
  intro m; induction m with
  | zero =>
    intro p V s b I hp fm hE hTx st hB hb fh hK
    unfold l_rn_iterate_78
    refine ⟨q, hR1, xv_q_sh hq, ?_⟩
    rw [fm.2.1.1]
    exact xa_t ((nI_leI (by omega) (by omega)).mpr (by omega)) (hK V s none rfl I (xa_fr_r _ _) hE st (xv_B_m hB (by omega)) fh)
  | succ m ih =>
    intro p V s b I hp fm hE hTx st hB hb fh hK
    have po := hpo p (by omega)
    have e1 := xg_PMp (q := q) (F := F) (p := p) fm.2.1 (by omega)
    have e2 := xg_PMp (q := q) (F := F) (p := p + 1) fm.2.1 (by omega)
    have epl : xg_pl F p (m + 1) = (xg_seg F.1 (xg_pe F p) (xg_pe F (p + 1)), xg_rng F.1 (xg_pe F p) (xg_pe F (p + 1) - xg_pe F p)) :: xg_pl F (p + 1) m := rfl
    generalize xg_pe F p = a at *
    generalize xg_pe F (p + 1) = e at *
    obtain ⟨hae, hel, hkind⟩ := po
    have hg : F.1[a]? = some F.1[a] := List.getElem?_eq_getElem (by omega)
    generalize F.1[a] = it at hg
    have iw1 := (w.2.2.2.2.2.2 it (List.mem_of_getElem? hg)).1
    have hhead : (xg_seg F.1 a e).head? = some it := by rw [xg_seg_c hg hae]; rfl
    unfold l_rn_iterate_78
    refine ⟨q, hR1, xv_q_sh hq, ?_⟩
    rw [fm.2.1.1]
    refine xa_f (fun hh => by have := (nI_leI (by omega) (by omega)).mp hh; omega) (xa_f (by decide) ⟨q, hR1, xv_q_sh hq, ?_⟩)
    rw [xq_pick (by omega) (by omega), e1]
    refine ⟨q, hR1, xv_q_sh hq, ?_⟩
    rw [nI_1, xq_pick (by omega) (by omega), e2]
    refine ⟨q, hR1, xv_q_sh hq, ?_⟩
    rw [xq_kindOf hE.1.1 hg w1]
    have eps : ∀ r, xg_part (xg_seg F.1 a e) (xg_rng F.1 a (e - a)) V s = r → xg_parts (xg_pl F p (m + 1)) V s = (match r with
        | (V', s', none) => xg_parts (xg_pl F (p + 1) m) V' s'
        | (V', s', some f) => (V', s', some f)) := by
      intro r hr
      rw [epl]
      show (match xg_part (xg_seg F.1 a e) (xg_rng F.1 a (e - a)) V s with
        | (V', s', none) => xg_parts (xg_pl F (p + 1) m) V' s'
        | (V', s', some f) => (V', s', some f)) = _
      rw [hr]
    have next : ∀ V' s' I', xg_part (xg_seg F.1 a e) (xg_rng F.1 a (e - a)) V s = (V', s', none) → xa_fr (xv_SI oc) I I' → xv_E q F.1 0 0 I' → xv_St false I' oc V' s' → xv_B (b + 30000) s' → xv_FH I' oc tx none → l_rn_iterate_78 a1 a3 K Q (m + 2) (1 : Int32) (nI (p + 1)) I' R := by
      intro V' s' I1 hpt f1 hE1 st1 hB1 fh1
      exact ih (p + 1) V' s' (b + 30000) I1 (by omega) (xi_FM_I hq hoc fm f1) hE1 (xv_Tx_I hq hoc hTx f1) st1 hB1 (by omega) fh1 (fun V2 s2 h hps I' f' hE' st' hB' fh' => hK V2 s2 h (by rw [eps _ hpt]; exact hps) I' (xa_fr_t f1 f') hE' st' (xv_B_m hB' (by omega)) fh')
    have stop : ∀ V' s' f I', xg_part (xg_seg F.1 a e) (xg_rng F.1 a (e - a)) V s = (V', s', some f) → xa_fr (xv_SI oc) I I' → xv_E q F.1 0 0 I' → xv_St false I' oc V' s' → xv_B (b + 30000) s' → xv_FH I' oc tx (some f) → l_rn_iterate_78 a1 a3 K Q (m + 2) (0 : Int32) (nI (p + 1)) I' R := by
      intro V' s' f I1 hpt f1 hE1 st1 hB1 fh1
      have fm1 := xi_FM_I hq hoc fm f1
      have hk := hK V' s' (some f) (eps _ hpt) I1 f1 hE1 st1 (xv_B_m hB1 (by omega)) fh1
      unfold l_rn_iterate_78
      refine ⟨q, hR1, xv_q_sh hq, ?_⟩
      exact ⟨fun _ => hk, fun _ => xa_t rfl hk⟩
    by_cases h1 : xi_k it = 1
    · refine xa_t' (xa_e 1 h1) ?_
      have hpart : xg_part (xg_seg F.1 a e) (xg_rng F.1 a (e - a)) V s = xg_wt (xg_seg F.1 a e) (xg_rng F.1 a (e - a)) V s := by
        unfold xg_part; rw [hhead]; simp [h1]
      have hk3 : ∀ u, u ∈ xg_seg F.1 a e → xi_k u ≠ 3 := by
        rcases hkind with h | h
        · exact fun u hu => (h.2 u hu).1
        · have := h it (xg_seg_mem (Nat.le_refl _) hae hg); omega
      exact xv_wtC (V := V) (b := b) hq hoc hR hR6 hR1 hR2 w hop htx hae hel hk3 hE hTx st hB (by omega) fh (fun V' s' hw I1 f1 hE1 st1 hB1 fh1 => next V' s' I1 (hpart.trans hw) f1 hE1 st1 hB1 fh1) (fun V' s' f hw I1 f1 hE1 st1 hB1 fh1 => stop V' s' f I1 (hpart.trans hw) f1 hE1 st1 hB1 fh1)
    · refine xa_f' (xa_ne 1 (by omega)) ?_
      have hpart : xg_part (xg_seg F.1 a e) (xg_rng F.1 a (e - a)) V s = (V, xg_claims V xg_O0 true (xg_seg F.1 a e) s) := by
        unfold xg_part; rw [hhead]; simp [h1]
      have hk3 : ∀ j u, a ≤ j → j < e → F.1[j]? = some u → xi_k u = 3 := by
        rcases hkind with h | h
        · have := h.1; rw [hhead] at this; simp at this; exact absurd this h1
        · exact fun j u a1 a2 a3 => h u (xg_seg_mem a1 a2 a3)
      unfold w_rn_expect
      refine ⟨e - a + 1, xv_expL (V := V) hq hoc hR hR6 hR1 hR2 w htx hel (e - a) a s b I (by omega) hk3 hE hTx st hB (by omega) fh (fun s' hc I1 f1 st1 hB1 fh1 => next V s' I1 (by rw [hpart, hc]) (xv_SI_H f1) (xv_E_H hq hoc f1 hE) st1 (xv_B_m hB1 (by omega)) fh1) (fun s' f hc I1 f1 st1 hB1 fh1 => stop V s' f I1 (by rw [hpart, hc]) (xv_SI_H f1) (xv_E_H hq hoc f1 hE) st1 (xv_B_m hB1 (by omega)) fh1)⟩
theorem xv_fillL {row a : Nat} {K : pI → pR → Prop} {Q : Int32 → pI → pR → Prop} (hq : q = 54 ∨ q = 81) (hoc : xv_oc oc) (hR : R 115 5 = some q) (hR6 : R 115 6 = some oc) (hR1 : R 114 1 = some q) (hR2 : R 114 2 = some oc) (fo : xg_FO ts L F) (hrow : F.2.2.2.2[row]? = some a) (hr60 : row < 60) :
    ∀ m c V s b I, c + m = F.2.2.2.1.length → xi_FM I q F → xv_E q F.1 0 0 I → xv_St false I oc V s → xv_B b s → b + 120 * m ≤ 1000000000 → xv_FH I oc tx none →
    (∀ V' s', xg_steps (xg_A []) (((F.1.drop (a + c)).zip (F.2.2.2.1.drop c)).map (fun e => ((xi_x e.1).2.2.1, some e.2.1))) V s = (V', s', none) → ∀ I', xa_fr (xv_SI oc) I I' → xv_E q F.1 0 0 I' → xv_St false I' oc V' s' → xv_B (b + 120 * m) s' → xv_FH I' oc tx none → K I' R) →
    (∀ V' s' f, xg_steps (xg_A []) (((F.1.drop (a + c)).zip (F.2.2.2.1.drop c)).map (fun e => ((xi_x e.1).2.2.1, some e.2.1))) V s = (V', s', some f) → ∀ I', xa_fr (xv_SI oc) I I' → xv_St false I' oc V' s' → xv_FH I' oc tx (some (f, none)) → Q 0 I' R) →
    l_rn_fill_23 q (nI row) K Q (m + 1) (nI c) I R := by
  obtain ⟨w, hop, hpo, hpl, hpe, hpe2, hh, hh2, hrl, hrs⟩ := fo
  have hr := hrs row a hrow
  have w1 := w.2.1
  intro m; induction m with
  | zero =>
    intro c V s b I hc fm hE st hB hb fh h1 h2
    unfold l_rn_fill_23
    refine ⟨q, hR1, xv_q_sh hq, ?_⟩
    rw [fm.2.2.1.1]
    refine xa_t ((nI_leI (by omega) (by omega)).mpr (by omega)) (h1 V s ?_ I (xa_fr_r _ _) hE st (xv_B_m hB (by omega)) fh)
    rw [List.drop_of_length_le (l := F.2.2.2.1) (by omega), List.zip_nil_right]; rfl
  | succ m ih =>
    intro c V s b I hc fm hE st hB hb fh h1 h2
    have hg : F.1[a + c]? = some F.1[a + c] := List.getElem?_eq_getElem (by omega)
    have hhg : F.2.2.2.1[c]? = some F.2.2.2.1[c] := List.getElem?_eq_getElem (by omega)
    have ez : (F.1.drop (a + c)).zip (F.2.2.2.1.drop c) = (F.1[a + c], F.2.2.2.1[c]) :: (F.1.drop (a + (c + 1))).zip (F.2.2.2.1.drop (c + 1)) := by
      rw [List.drop_eq_getElem_cons (l := F.1) (i := a + c) (by omega), List.drop_eq_getElem_cons (l := F.2.2.2.1) (i := c) (by omega)]; rfl
    rw [ez, List.map_cons] at h1 h2
    have hk8 := hr.2 (a + c) _ (by omega) (by omega) hg
    generalize F.1[a + c] = it at *
    generalize F.2.2.2.1[c] = hd at *
    have hl26 := hh2 hd (List.mem_of_getElem? hhg)
    have se := hE.1.1.2 (a + c) it hg
    unfold l_rn_fill_23
    refine ⟨q, hR1, xv_q_sh hq, ?_⟩
    rw [fm.2.2.1.1]
    refine xa_f (fun e => by have := (nI_leI (by omega) (by omega)).mp e; omega) ⟨q, hR1, xv_q_sh hq, ?_⟩
    rw [xq_pick (by omega) (by omega), fm.2.2.2.2 row a hrow, nI_add, xq_pick (by omega) (by omega), se.2.2.2.1, xq_pick (by omega) (by omega), se.2.2.2.2.1]
    have est : ∀ r, (xi_x it).2.2.1 (xg_A []) V xg_O0 s = r → xg_steps (xg_A []) (((xi_x it).2.2.1, some hd.1) :: ((F.1.drop (a + (c + 1))).zip (F.2.2.2.1.drop (c + 1))).map (fun e => ((xi_x e.1).2.2.1, some e.2.1))) V s = (match r with
        | (s', _, .inr v) => xg_steps (xg_A []) (((F.1.drop (a + (c + 1))).zip (F.2.2.2.1.drop (c + 1))).map (fun e => ((xi_x e.1).2.2.1, some e.2.1))) (xg_up V (some hd.1) v) s'
        | (s', _, .inl f) => (V, s', some f)) := by
      intro r hr
      rw [xg_steps]
      simp only
      rw [hr]
      rcases r with ⟨s', D, f | v⟩ <;> rfl
    refine xv_item (V := V) (O := xg_O0) hq hoc hR hR6 w (by omega) (Or.inl rfl) hg (by omega) (fun h4 => by omega) hE st hB (by omega) (fun s' D v hd' I1 f1 st1 hB1 hv g7 g8 => ?_) (fun s' D f hd' I1 f1 st1 hB1 ha' hb' h23 => ?_)
    · refine xa_f' (by decide) ⟨oc, hR2, xv_oc_sh hoc, q, hR1, xv_q_sh hq, ?_⟩
      have fI := xv_SI_V (xv_SV_E f1)
      have fm1 := xi_FM_I hq hoc fm fI
      rw [xq_pick (by omega) (by omega), (fm1.2.2.1.2 c hd hhg).1, hv]
      refine xv_putV (tg := some hd.1) hoc st1 rfl (fun t ht => by cases ht; exact hl26) (fun I2 f2 st2 => ?_)
      have f12 := xa_fr_t (xv_SV_E f1) f2
      rw [nI_1]
      exact ih (c + 1) _ s' (b + 120) I2 (by omega) (xi_FM_I hq hoc fm (xv_SI_V f12)) (xv_E_V hq hoc f12 hE) st2 hB1 (by omega) (xv_FH_V hoc fh f12) (fun V' s2 h I' f' hE' st' hB' => h1 V' s2 (by rw [est _ hd']; exact h) I' (xa_fr_t (xv_SI_V f12) f') hE' st' (xv_B_m hB' (by omega))) (fun V' s2 f h I' f' => h2 V' s2 f (by rw [est _ hd']; exact h) I' (xa_fr_t (xv_SI_V f12) f'))
    · refine xa_t' rfl (xv_lose (e := f) hoc hR2 (xv_FH_E hoc fh f1) st1 ha' hb' h23 (fun I5 f5 g5 st5 fh5 => h2 V s' f (est _ hd') I5 (xa_fr_t (xv_SI_V (xv_SV_E f1)) (xv_SI_H f5)) st5 fh5))
end
