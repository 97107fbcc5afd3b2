/-! THE REFERENCE'S ITERATION -/
/-- where the items of a feature lie -/
def yg_LY (F : xi_F) : Prop :=
  (∀ j it, F.1[j]? = some it → (xi_k it = 0 ↔ j < xg_pe F 0)) ∧ (∀ j it, F.1[j]? = some it → ((xi_k it = 2 ∨ xi_k it = 8) ↔ F.2.2.1 ≤ j)) ∧
  (∀ p, p < F.2.1.length → (∃ c, yg_WP F.1 p (xg_pe F p) c (xg_pe F (p + 1))) ∨ (xg_pe F p < xg_pe F (p + 1) ∧ xg_pe F (p + 1) ≤ F.1.length ∧ (∀ j it, F.1[j]? = some it → ((xi_k it = 3 ∧ xi_pt it = p) ↔ (xg_pe F p ≤ j ∧ j < xg_pe F (p + 1)))) ∧ (∀ it, it ∈ F.1 → ¬ (xi_k it = 1 ∧ xi_pt it = p)))) ∧
  (∀ (r a : Nat), F.2.2.2.2[r]? = some a → a + F.2.2.2.1.length ≤ F.1.length ∧ ∀ j it, F.1[j]? = some it → ((xi_k it = 8 ∧ xi_pt it = r) ↔ (a ≤ j ∧ j < a + F.2.2.2.1.length))) ∧
  (∀ (r a j : Nat) (it : xi_I), F.2.2.2.2[r]? = some a → F.1[a + j]? = some it → j < F.2.2.2.1.length → xi_tg it = some j) ∧
  (∀ r, F.2.2.2.2.length ≤ r → ∀ it, it ∈ F.1 → ¬ (xi_k it = 8 ∧ xi_pt it = r)) ∧ (∀ it, it ∈ F.1 → xi_pt it < 1000)
def yg_tg (hs : List (Nat × Nat)) (it : xi_I) : Option Nat := (xi_tg it).bind (fun c => hs[c]?.map (fun e => e.1))
def yv_OR (I : pI) (now : Nat) (r : xg_R) : Prop := (∀ v, v < 26 → I 166 (26 * now + v) = r.1 v) ∧ (I 167 (2 * now) = r.2.1 0 ∧ I 167 (2 * now + 1) = r.2.1 1) ∧ (match r.2.2.1 with
  | none => I 163 now = 0 ∧ I 164 now = -1
  | some f => I 163 now = nI f.1 ∧ I 164 now = nI f.2 ∧ 0 < f.1 ∧ f.1 < 10) ∧ I 165 now = (if r.2.2.2.1 then 1 else 0) ∧ yd_DR I now r.2.2.2.2
theorem yg_all {its : List xi_I} {P : xi_I → Bool} {a e : Nat} (hae : a ≤ e) (h : ∀ j it, its[j]? = some it → (P it = true ↔ (a ≤ j ∧ j < e))) : its.filter P = xg_seg its a e := by
  have := yg_fil (its := its) (P := P) (Q := fun _ => true) hae (fun j it hg => by have := h j it hg; simp only [and_true]; exact this)
  rw [this, List.filter_eq_self.mpr (fun _ _ => rfl)]
section
variable {o now : Nat} {F : xi_F} {R : pR} {ts : List (Nat × Nat × Nat × Nat)} {L : Nat}
theorem yg_cells (fo : xg_FO ts L F) (ly : yg_LY F) : (F.1.filter (fun it => decide (xi_k it = 8) && (decide (xi_pt it = now) || decide (8 ≠ 8)))).map (fun it => ((xi_x it).2.2.1, yg_tg F.2.2.2.1 it)) = xg_cells F now := by
  obtain ⟨l1, l2, l3, l4, l5, l6, l7⟩ := ly
  unfold xg_cells
  cases hr : F.2.2.2.2[now]? with
  | none =>
    have hn := List.getElem?_eq_none_iff.mp hr
    rw [List.filter_eq_nil_iff.mpr (fun it hi => by have := l6 now hn it hi; simp; omega)]; rfl
  | some a =>
    obtain ⟨h1, h2⟩ := l4 now a hr
    have e1 : F.1.filter (fun it => decide (xi_k it = 8) && (decide (xi_pt it = now) || decide (8 ≠ 8))) = xg_seg F.1 a (a + F.2.2.2.1.length) := by
      refine yg_all (by omega) (fun j it hg => ?_)
      have := h2 j it hg
      simp only [ne_eq, not_true_eq_false, decide_false, Bool.or_false, Bool.and_eq_true, decide_eq_true_eq]
      exact this
    rw [e1]
    show _ = ((F.1.drop a).zip F.2.2.2.1).map (fun e => ((xi_x e.1).2.2.1, some e.2.1))
    have hl : (xg_seg F.1 a (a + F.2.2.2.1.length)).length = F.2.2.2.1.length := by unfold xg_seg; simp; omega
    refine List.ext_getElem (by simp [hl]; omega) (fun i hi1 hi2 => ?_)
    rw [List.length_map, hl] at hi1
    have hg : F.1[a + i]? = some F.1[a + i] := List.getElem?_eq_getElem (by omega)
    have ht := l5 now a i _ hr hg hi1
    simp only [List.getElem_map, List.getElem_zip]
    have es : (xg_seg F.1 a (a + F.2.2.2.1.length))[i]'(by omega) = F.1[a + i] := by simp [xg_seg]
    rw [es, List.getElem_drop]
    unfold yg_tg
    rw [ht]
    simp [List.getElem?_eq_getElem hi1]
theorem yv_expL {V : Nat → Int32} {p : Nat} {K Q : pI → pR → Prop} (hnow : now < 6) (ho : o ≤ 1) (w : xg_W ts L F.1) (hpt : ∀ it, it ∈ F.1 → xi_pt it < 1000) (hp : p < 1000) :
    ∀ m j s b I, j + m = F.1.length → yv_E o F 0 0 I → yv_St false I o now F.1 V s → xv_B b s → b + 200 * m ≤ 1000000000 → yv_FH I now none →
    (∀ s' r, xg_claims V xg_O0 true ((F.1.drop j).filter (fun it => decide (xi_k it = 3) && decide (xi_pt it = p))) s = (s', r) → ∀ I', xa_fr (yv_SH now) I I' → yv_St false I' o now F.1 V s' → xv_B (b + 200 * m) s' → yv_FH I' now r → K I' R) →
    l_md_iterate_156 (nI now) (nI p) K Q (m + 1) (nI (100 * o + j)) I R := by
  have w1 := w.2.1
  have hin2 : vp_in (nI o) 2 := vp_in_nI (by omega) (by omega)
  have hin6 : vp_in (nI now) 6 := vp_in_nI hnow (by omega)
  intro m; induction m with
  | zero =>
    intro j s b I hj hE st hB hb fh hK
    unfold l_md_iterate_156
    rw [hE.1.2.2.2.1, nI_clamp (by omega), hE.1.2.2.2.2.1]
    refine ⟨hin2, xa_t ((nI_leI (by omega) (by omega)).mpr (by omega)) (hK s none ?_ I (xa_fr_r _ _) st (xv_B_m hB (by omega)) fh)⟩
    rw [List.drop_of_length_le (by omega)]; rfl
  | succ m ih =>
    intro j s b I hj hE st hB hb fh hK
    have hg : F.1[j]? = some F.1[j] := List.getElem?_eq_getElem (by omega)
    have ed : F.1.drop j = F.1[j] :: F.1.drop (j + 1) := List.drop_eq_getElem_cons (by omega)
    rw [ed] at hK
    generalize F.1[j] = it at *
    have him := List.mem_of_getElem? hg
    have iw := w.2.2.2.2.2.2 it him
    have hkb := xk_kd_b iw.1
    have hp1 := hpt it him
    have ie := (hE.1.1 j it hg).1
    have hin : vp_in (nI (100 * o + j)) 200 := vp_in_nI (by omega) (by omega)
    unfold l_md_iterate_156
    rw [hE.1.2.2.2.1, nI_clamp (by omega), nI_clamp (by omega), hE.1.2.2.2.2.1, fh.1.1]
    refine ⟨hin2, xa_f (fun hh => by have := (nI_leI (by omega) (by omega)).mp hh; omega) ⟨hin6, xa_t' rfl ⟨hin, ?_⟩⟩⟩
    rw [nI_clamp (by omega), ie.1, ie.2.1, nI_1]
    have skip : ¬ (xi_k it = 3 ∧ xi_pt it = p) → l_md_iterate_156 (nI now) (nI p) K Q (m + 1) (nI (100 * o + j + 1)) I R := by
      intro hn
      rw [List.filter_cons_of_neg (by simp; omega)] at hK
      exact ih (j + 1) s b I (by omega) hE st hB (by omega) fh (fun s' r hr I' f' st' hB' => hK s' r hr I' f' st' (xv_B_m hB' (by omega)))
    by_cases hk : xi_k it = 3
    · refine xa_t' (by rw [hk]; rfl) ⟨hin, ?_⟩
      by_cases hpp : xi_pt it = p
      · refine xa_t' (by rw [hpp]) ?_
        rw [List.filter_cons_of_pos (by simp [hk, hpp])] at hK
        have ecl : ∀ l s, xg_claims V xg_O0 true (it :: l) s = (match xg_hold V xg_O0 s it with
            | (s', none) => xg_claims V xg_O0 true l s'
            | (s', some f) => (s', some f)) := by
          intro l s
          show (if xi_k it = 4 ∨ xi_k it = 3 then _ else _) = _
          rw [if_pos (Or.inr hk)]
          rcases xg_hold V xg_O0 s it with ⟨s', _ | f⟩ <;> rfl
        refine yv_truly (V := V) (O := xg_O0) (b := b) hnow ho w hg (Or.inl hk) (fun h4 => by omega) hE st hB (by omega) fh (fun s' r hh I1 f1 st1 hB1 fh1 => ?_)
        have hc := ecl ((F.1.drop (j + 1)).filter (fun it => decide (xi_k it = 3) && decide (xi_pt it = p))) s
        rw [hh] at hc
        cases r with
        | none => exact ih (j + 1) s' (b + 200) I1 (by omega) (yv_E_H f1 hE) st1 hB1 (by omega) fh1 (fun s2 r hr I' f' st' hB' => hK s2 r (hc.trans hr) I' (xa_fr_t f1 f') st' (xv_B_m hB' (by omega)))
        | some f =>
          have k := hK s' (some f) hc I1 f1 st1 (xv_B_m hB1 (by omega)) fh1
          have hE1 := yv_E_H f1 hE
          have := fh1.1.2.2
          unfold l_md_iterate_156
          rw [hE1.1.2.2.2.1, nI_clamp (by omega), nI_clamp (by omega), fh1.1.1]
          exact ⟨hin2, fun _ => k, fun _ => ⟨hin6, xa_f' (xa_ne 0 (by omega)) k⟩⟩
      · exact xa_f' (fun e => hpp ((nI_eq (by omega) (by omega)).mp e)) (skip (fun h => hpp h.2))
    · refine xa_f' (fun e => hk ?_) (skip (fun h => hk h.1))
      have := (xa_eql 2 (by omega) (by omega)).mp e
      exact (xk_kd_inj iw.1 (show 3 < 9 by omega)).mp this
theorem yv_109s {I : pI} {h : (Nat × Nat) × Option (Nat × Nat × List (Nat × Int32))} {x2 : Int32} {K Q : pI → pR → Prop} {n : Nat} (hnow : now < 6) (ho : o ≤ 1) (fm : yv_FM I o F) (fh : yv_FH I now (some h)) (hK : K I R) : l_md_iterate_109 (nI now) K Q (n + 1) x2 I R := by
  have := fh.1.2.2
  unfold l_md_iterate_109
  rw [fm.2.2.2.1, nI_clamp (by omega), nI_clamp (by omega), fh.1.1]
  exact ⟨vp_in_nI (by omega) (by omega), fun _ => hK, fun _ => ⟨vp_in_nI hnow (by omega), xa_f' (xa_ne 0 (by omega)) hK⟩⟩
def yv_pb : Nat → Nat
  | 0 => 0
  | m + 1 => yv_pb m + 3000000
theorem yv_pb_b : ∀ m, m ≤ 40 → yv_pb m ≤ 120000000 := by decide
set_option maxRecDepth 100000 in
theorem yv_partsL {K Q : pI → pR → Prop} (hnow : now < 6) (ho : o ≤ 1) (fo : xg_FO ts L F) (ly : yg_LY F) :
    ∀ m p V s b I, p + m = F.2.1.length → yv_E o F 0 0 I → yv_St false I o now F.1 V s → xv_B b s → b + yv_pb m ≤ 1000000000 → yv_FH I now none →
    (∀ V' s' h, xg_parts (xg_pl F p m) V s = (V', s', h) → ∀ I', xa_fr (yv_SI now) I I' → yv_E o F 0 0 I' → yv_St false I' o now F.1 V' s' → xv_B (b + yv_pb m) s' → yv_FH I' now h → K I' R) →
    l_md_iterate_109 (nI now) K Q (m + 1) (nI p) I R := by
  obtain ⟨w, hop, hpo, hpl, hpe, hpe2, _⟩ := fo
  obtain ⟨l1, l2, l3, l4, l5, l6, l7⟩ := ly
  have w1 := w.2.1
  have hin2 : vp_in (nI o) 2 := vp_in_nI (by omega) (by omega)
  have hin6 : vp_in (nI now) 6 := vp_in_nI hnow (by omega)
  intro m; induction m with
  | zero =>
    intro p V s b I hp hE st hB hb fh hK
    have epb : yv_pb 0 = 0 := rfl
    unfold l_md_iterate_109
    rw [hE.1.2.2.2.1, nI_clamp (by omega), hE.1.2.2.2.2.2.1]
    exact ⟨hin2, xa_t ((nI_leI (by omega) (by omega)).mpr (by omega)) (hK V s none rfl I (xa_fr_r _ _) hE st (xv_B_m hB (by omega)) fh)⟩
  | succ m ih =>
    intro p V s b I hp hE st hB hb fh hK
    have epb : yv_pb (m + 1) = yv_pb m + 3000000 := rfl
    rw [epb] at hb hK
    clear epb
    have hp1000 : p < 1000 := by clear hb hK; omega
    have hp1 : p + 1 + m = F.2.1.length := by clear hb hK; omega
    have hb1 : b + 3000000 ≤ 1000000000 := Nat.le_trans (Nat.add_le_add_left (Nat.le_add_left _ _) _) hb
    have hb2 : b + 3000000 + yv_pb m ≤ 1000000000 := by rw [Nat.add_assoc, Nat.add_comm 3000000]; exact hb
    have hb3 : b + 3000000 ≤ b + (yv_pb m + 3000000) := Nat.add_le_add_left (Nat.le_add_left _ _) _
    have hb4 : b + 3000000 + yv_pb m ≤ b + (yv_pb m + 3000000) := Nat.le_of_eq (by rw [Nat.add_assoc, Nat.add_comm 3000000])
    have epl : xg_pl F p (m + 1) = (xg_seg F.1 (xg_pe F p) (xg_pe F (p + 1)), xg_rng F.1 (xg_pe F p) (xg_pe F (p + 1) - xg_pe F p)) :: xg_pl F (p + 1) m := rfl
    have lp := l3 p (by omega)
    have po := hpo p (by omega)
    generalize xg_pe F p = a at *
    generalize xg_pe F (p + 1) = e at *
    have eps : ∀ r, xg_part (xg_seg F.1 a e) (xg_rng F.1 a (e - a)) V s = r → xg_parts (xg_pl F p (m + 1)) V s = (match r with
        | (V', s', none) => xg_parts (xg_pl F (p + 1) m) V' s'
        | (V', s', some f) => (V', s', some f)) := by
      intro r hr
      rw [epl]
      show (match xg_part (xg_seg F.1 a e) (xg_rng F.1 a (e - a)) V s with
        | (V', s', none) => xg_parts (xg_pl F (p + 1) m) V' s'
        | (V', s', some f) => (V', s', some f)) = _
      rw [hr]
    have done : ∀ V' s' r I', xg_part (xg_seg F.1 a e) (xg_rng F.1 a (e - a)) V s = (V', s', r) → xa_fr (yv_SI now) I I' → yv_E o F 0 0 I' → yv_St false I' o now F.1 V' s' → xv_B (b + 3000000) s' → yv_FH I' now r → l_md_iterate_109 (nI now) K Q (m + 1) (nI p + 1) I' R := by
      intro V' s' r I1 hpt f1 hE1 st1 hB1 fh1
      cases r with
      | none =>
        rw [nI_1]
        exact ih (p + 1) V' s' (b + 3000000) I1 hp1 hE1 st1 hB1 hb2 fh1 (fun V2 s2 h hps I' f' hE' st' hB' fh' => hK V2 s2 h (by rw [eps _ hpt]; exact hps) I' (xa_fr_t f1 f') hE' st' (xv_B_m hB' hb4) fh')
      | some f => exact yv_109s hnow ho hE1.1 fh1 (hK V' s' (some f) (eps _ hpt) I1 f1 hE1 st1 (xv_B_m hB1 hb3) fh1)
    unfold l_md_iterate_109
    rw [hE.1.2.2.2.1, nI_clamp (by omega), nI_clamp (by omega), hE.1.2.2.2.2.2.1, fh.1.1]
    refine ⟨hin2, xa_f (fun hh => by have := (nI_leI (by omega) (by omega)).mp hh; omega) ⟨hin6, xa_t' rfl ?_⟩⟩
    refine yv_first (f1 := 1) (p := p) ho w l7 hp1000 (by decide) hE.1 (fun hno => ?_) (fun n hyes hn => ?_)
    · rcases lp with ⟨c, wp⟩ | ⟨h1, h2, h3, h4⟩
      · obtain ⟨it, hg⟩ : ∃ it, F.1[a]? = some it := ⟨_, List.getElem?_eq_getElem (Nat.lt_of_lt_of_le wp.1 (Nat.le_trans wp.2.1 wp.2.2.1))⟩
        exact absurd ((wp.2.2.2.1 a _ hg).mpr ⟨Nat.le_refl _, wp.1⟩) (hno _ (List.mem_of_getElem? hg))
      · refine xa_t (by decide) ?_
        rw [hE.1.2.2.2.1, show (100 : Int32) * nI o = nI (100 * o) from pk_mul _ _]
        have efil : F.1.filter (fun it => decide (xi_k it = 3) && decide (xi_pt it = p)) = xg_seg F.1 a e := yg_all (by omega) (fun j it hg => by
          have := h3 j it hg
          simp only [Bool.and_eq_true, decide_eq_true_eq]; exact this)
        have hg : F.1[a]? = some F.1[a] := List.getElem?_eq_getElem (by omega)
        have hk3 := ((h3 a _ hg).mpr ⟨Nat.le_refl _, h1⟩).1
        have hhead : (xg_seg F.1 a e).head? = some F.1[a] := by rw [xg_seg_c hg h1]; rfl
        have hpart : xg_part (xg_seg F.1 a e) (xg_rng F.1 a (e - a)) V s = (V, xg_claims V xg_O0 true (xg_seg F.1 a e) s) := by
          unfold xg_part; rw [hhead]; simp [hk3]
        refine ⟨F.1.length + 1, yv_expL (V := V) (p := p) hnow ho w l7 (by omega) F.1.length 0 s b I (by omega) hE st hB (by omega) fh (fun s' r hc I1 f1 st1 hB1 fh1 => done V s' r I1 ?_ (yv_SI_H f1) (yv_E_H f1 hE) st1 (xv_B_m hB1 (by omega)) fh1)⟩
        rw [List.drop_zero, efil] at hc
        rw [hpart, hc]
    · rcases lp with ⟨c, wp⟩ | ⟨h1, h2, h3, h4⟩
      · refine xa_f (nI_pos (by omega)) ?_
        obtain ⟨it, hg⟩ : ∃ it, F.1[a]? = some it := ⟨_, List.getElem?_eq_getElem (Nat.lt_of_lt_of_le wp.1 (Nat.le_trans wp.2.1 wp.2.2.1))⟩
        have hk1 := ((wp.2.2.2.1 a _ hg).mpr ⟨Nat.le_refl _, wp.1⟩).1
        have hae : a < e := Nat.lt_of_lt_of_le wp.1 wp.2.1
        have hhead : (xg_seg F.1 a e).head? = some it := by rw [xg_seg_c hg hae]; rfl
        have hpart : xg_part (xg_seg F.1 a e) (xg_rng F.1 a (e - a)) V s = xg_wt (xg_seg F.1 a e) (xg_rng F.1 a (e - a)) V s := by
          unfold xg_part; rw [hhead]; simp [hk1]
        exact yv_whenThen (V := V) (b := b) hnow ho w hop l7 hp1000 wp hE st hB hb1 fh (fun V' s' r hw I1 f1 hE1 st1 hB1 fh1 => done V' s' r I1 (by rw [hpart, hw]) f1 hE1 st1 hB1 fh1)
      · obtain ⟨it, i1, i2, i3⟩ := hyes
        exact absurd ⟨i2, i3⟩ (h4 it i1)
theorem yv_zeroL {f1 : Nat} {K Q : pI → pR → Prop} (hf1 : f1 < 6) : ∀ m c I, c + m = 26 → (∀ i, i < c → I 166 (26 * f1 + i) = 0) → (∀ I', (∀ i, i < 26 → I' 166 (26 * f1 + i) = 0) → (∀ p k, ¬ (p = 166 ∧ 26 * f1 ≤ k ∧ k < 26 * f1 + 26) → I' p k = I p k) → K I' R) → l_md_iterate_60 (nI f1) K Q (m + 1) (nI c) I R := by
  intro m; induction m with
  | zero =>
    intro c I hc h hK
    unfold l_md_iterate_60
    exact xa_t ((xa_lle 26 (by omega) (by omega)).mpr (by omega)) (hK I (fun i hi => h i (by omega)) (fun _ _ _ => rfl))
  | succ m ih =>
    intro c I hc h hK
    unfold l_md_iterate_60
    rw [show (26 : Int32) * nI f1 = nI (26 * f1) from pk_mul _ _, nI_add, nI_clamp (by omega), nI_1]
    refine xa_f (fun hh => by have := (xa_lle 26 (by omega) (by omega)).mp hh; omega) ⟨vp_in_nI (by omega) (by omega), xa_a (ih (c + 1) _ (by omega) (fun i hi => ?_) (fun I' h' f' => hK I' h' (fun p k hp => by rw [f' p k hp, xa_w, if_neg (by omega)])))⟩
    rw [xa_w]
    by_cases hi' : i = c
    · rw [if_pos ⟨rfl, by omega⟩]
    · rw [if_neg (by omega)]; exact h i (by omega)
theorem yg_FE_OR {I : pI} {V : Nat → Int32} {s : xp_S} {h : xg_H} {e : Option (Nat × Nat)} (st : yv_St false I o now F.1 V s) (fe : yv_FE I now h e) : yv_OR I now (V, s, xg_fst h e, h.isSome && e.isSome, h.bind (fun f => f.2)) := by
  refine ⟨st.2.1, ⟨st.2.2.1, st.2.2.2.1⟩, ?_⟩
  cases h with
  | none => cases e with
    | none => exact ⟨fe.1, fe.2.1, fe.2.2⟩
    | some e => exact ⟨fe.1, fe.2.1, fe.2.2⟩
  | some f => cases e with
    | none => exact ⟨fe.1, fe.2.1, fe.2.2⟩
    | some e => exact ⟨fe.1, fe.2.1, fe.2.2⟩
set_option maxRecDepth 100000 in
theorem yv_iterate {I : pI} {Q : pI → pR → Prop} (hnow : now < 6) (ho : o ≤ 1) (fo : xg_FO ts L F) (ly : yg_LY F) (fm : yv_FM I o F)
    (hQ : ∀ I', xa_fr (yv_SI now) I I' → yv_OR I' now (xg_iter F now) → Q I' R) : w_md_iterate (nI now) I R Q := by
  have fo' := fo
  obtain ⟨w, hop, hpo, hpl, hpe, hpe2, hh, hh2, hrl, hrs⟩ := fo'
  have ly' := ly
  obtain ⟨l1, l2, l3, l4, l5, l6, l7⟩ := ly'
  have w1 := w.2.1
  have hin : vp_in (nI now) 6 := vp_in_nI hnow (by omega)
  unfold w_md_iterate
  rw [nI_clamp (by omega), show (2 : Int32) * nI now = nI (2 * now) from pk_mul _ _, nI_1, nI_clamp (by omega), nI_clamp (by omega)]
  refine xa_a (xa_a ⟨hin, xa_a ⟨hin, xa_a ⟨hin, xa_a ⟨hin, xa_a ⟨vp_in_nI (by omega) (by omega), xa_a ⟨vp_in_nI (by omega) (by omega), xa_a ⟨27, ?_⟩⟩⟩⟩⟩⟩⟩)
  refine yv_zeroL hnow 26 0 _ (by omega) (fun i hi => by omega) (fun I9 hz g9 => ?_)
  have g1 : ∀ p k, yv_SI now p k = false → I9 p k = I p k := fun p k hp => by
    simp only [yv_SI, Bool.or_eq_false_iff, Bool.and_eq_false_iff, beq_eq_false_iff_ne, decide_eq_false_iff_not] at hp
    rw [g9 p k (by omega), xa_w, if_neg (by omega), xa_w, if_neg (by omega), xa_w, if_neg (by omega), xa_w, if_neg (by omega), xa_w, if_neg (by omega), xa_w, if_neg (by omega), xa_w, if_neg (by omega), xa_w, if_neg (by omega)]
  have t68 : I9 121 68 = nI now := by rw [g9 _ _ (by omega), xa_p (by decide), xa_p (by decide), xa_p (by decide), xa_p (by decide), xa_p (by decide), xa_p (by decide), xa_w, if_neg (by decide), xa_w, if_pos ⟨rfl, rfl⟩]
  have t61 : I9 121 61 = 0 := by rw [g9 _ _ (by omega), xa_p (by decide), xa_p (by decide), xa_p (by decide), xa_p (by decide), xa_p (by decide), xa_p (by decide), xa_w, if_pos ⟨rfl, rfl⟩]
  have t163 : I9 163 now = 0 := by rw [g9 _ _ (by omega), xa_p (by decide), xa_p (by decide), xa_p (by decide), xa_p (by decide), xa_p (by decide), xa_w, if_pos ⟨rfl, rfl⟩]
  have t164 : I9 164 now = -1 := by rw [g9 _ _ (by omega), xa_p (by decide), xa_p (by decide), xa_p (by decide), xa_p (by decide), xa_w, if_pos ⟨rfl, rfl⟩]
  have t165 : I9 165 now = 0 := by rw [g9 _ _ (by omega), xa_p (by decide), xa_p (by decide), xa_p (by decide), xa_w, if_pos ⟨rfl, rfl⟩]; rfl
  have t168 : I9 168 now = -1 := by rw [g9 _ _ (by omega), xa_p (by decide), xa_p (by decide), xa_w, if_pos ⟨rfl, rfl⟩]
  have t167 : I9 167 (2 * now) = 0 := by rw [g9 _ _ (by omega), xa_w, if_neg (by omega), xa_w, if_pos ⟨rfl, rfl⟩]
  have t167' : I9 167 (2 * now + 1) = 0 := by rw [g9 _ _ (by omega), xa_w, if_pos ⟨rfl, rfl⟩]
  have f9 : xa_fr (yv_SI now) I I9 := g1
  clear g9 g1
  have hE9 : yv_E o F 0 0 I9 := ⟨yv_FM_I fm f9, Or.inl ⟨rfl, t61⟩⟩
  have st9 : yv_St false I9 o now F.1 xg_O0 xg_O0 := ⟨t68, fun v hv => hz v hv, t167, t167', fun hg => absurd hg (by decide)⟩
  have fh9 : yv_FH I9 now none := ⟨⟨t163, t164⟩, t165, t168⟩
  have hB9 : xv_B 0 xg_O0 := fun r => ⟨0, by omega, rfl⟩
  refine yv_steps (f1 := 8) (f2 := now) (tgf := yg_tg F.2.2.2.1) (P := fun it => decide (xi_k it = 8) && (decide (xi_pt it = now) || decide (8 ≠ 8))) (b := 0) hnow ho w (by omega) (by omega) l7 (fun _ => rfl) (fun it hi hP => ?_) hE9 st9 hB9 (by omega) fh9 (fun V1 s1 r1 hs1 I1 f1 hE1 st1 hB1 fe1 => ?_)
  · simp only [ne_eq, not_true_eq_false, decide_false, Bool.or_false, Bool.and_eq_true, decide_eq_true_eq] at hP
    obtain ⟨j, hj, hjg⟩ := List.getElem_of_mem hi
    have hg : F.1[j]? = some it := by rw [List.getElem?_eq_getElem hj, hjg]
    have hlt : now < F.2.2.2.2.length := by
      by_cases h : now < F.2.2.2.2.length
      · exact h
      · exact absurd hP (l6 now (by omega) it hi)
    have hr : F.2.2.2.2[now]? = some F.2.2.2.2[now] := List.getElem?_eq_getElem hlt
    generalize F.2.2.2.2[now] = a at hr
    have hja := ((l4 now a hr).2 j it hg).mp hP
    have htg := l5 now a (j - a) it hr (by rw [show a + (j - a) = j by omega]; exact hg) (by omega)
    have hhg : F.2.2.2.1[j - a]? = some F.2.2.2.1[j - a] := List.getElem?_eq_getElem (by omega)
    have e1 : yg_tg F.2.2.2.1 it = some F.2.2.2.1[j - a].1 := by unfold yg_tg; rw [htg]; simp [hhg]
    refine ⟨?_, fun t ht => ?_⟩
    · rw [e1]
      unfold xk_tg
      rw [if_pos hP.1, htg]
      simp only
      rw [hhg]; rfl
    · rw [e1] at ht; cases ht
      exact hh2 _ (List.mem_of_getElem? hhg)
  · rw [yg_cells fo ly] at hs1
    refine ⟨hin, ?_⟩
    have f1' := xa_fr_t f9 f1
    cases r1 with
    | some e =>
      have fe1' : yv_FH I1 now (some (e, none)) := fe1
      have hq := fe1'.1.2.2
      refine xa_f (fun h => ?_) (hQ I1 f1' ?_)
      · rw [fe1'.1.1] at h
        have := (xa_lel 0 (by have := hq.2; simp only at this; omega) (by omega)).mp h
        simp only at this hq; omega
      · have : xg_iter F now = (V1, s1, some e, false, none) := by unfold xg_iter; rw [hs1]
        rw [this]
        exact ⟨st1.2.1, ⟨st1.2.2.1, st1.2.2.2.1⟩, fe1'.1, fe1'.2.1, fe1'.2.2⟩
    | none =>
      have fh1 : yv_FH I1 now none := fe1
      refine xa_t (by rw [fh1.1.1]; decide) ?_
      have clean : ∀ V3 s3 h I5, xg_mid F V1 s1 = (V3, s3, h) → xa_fr (yv_SI now) I I5 → yv_E o F 0 0 I5 → yv_St false I5 o now F.1 V3 s3 → xv_B 200000000 s3 → yv_FH I5 now h → w_md_steps (8 : Int32) (0 : Int32) I5 R (fun I18 R9 => Q I18 R9) := by
        intro V3 s3 h I5 hm f5 hE5 st5 hB5 fh5
        refine yv_steps (f1 := 2) (f2 := 0) (tgf := xi_tg) (P := fun it => decide (xi_k it = 2) && (decide (xi_pt it = 0) || decide (2 ≠ 8))) (b := 200000000) hnow ho w (by omega) (by omega) l7 (fun _ => rfl) (fun it hi hP => ?_) hE5 st5 hB5 (by omega) fh5 (fun V4 s4 r4 hs4 I6 f6 hE6 st6 hB6 fe6 => hQ I6 (xa_fr_t f5 f6) ?_)
        · have hk : xi_k it = 2 := by simpa using hP
          refine ⟨?_, fun t ht => (w.2.2.2.2.2.2 it hi).2.2.2.2.1 (by omega) t ht⟩
          unfold xk_tg; rw [if_neg (by omega)]
          cases xi_tg it <;> rfl
        · have efil : F.1.filter (fun it => decide (xi_k it = 2) && (decide (xi_pt it = 0) || decide (2 ≠ 8))) = (xg_seg F.1 F.2.2.1 F.1.length).filter (fun it => xi_k it == 2) := by
            refine yg_fil hpe2 (fun j it hg => ?_)
            have h2 := l2 j it hg
            have hj := xa_some_lt hg
            simp only [show decide (2 ≠ 8) = true from rfl, Bool.or_true, Bool.and_true, decide_eq_true_eq, beq_iff_eq]
            constructor
            · intro h; exact ⟨h2.mp (Or.inl h), hj, h⟩
            · intro h; exact h.2.2
          rw [efil] at hs4
          rw [xg_iter_c hs1 hm hs4]
          exact yg_FE_OR st6 fe6
      refine yv_steps (f1 := 0) (f2 := 0) (tgf := xi_tg) (P := fun it => decide (xi_k it = 0) && (decide (xi_pt it = 0) || decide (0 ≠ 8))) (b := 12000) hnow ho w (by omega) (by omega) l7 (fun _ => rfl) (fun it hi hP => ?_) hE1 st1 (xv_B_m hB1 (by omega)) (by omega) fh1 (fun V2 s2 r2 hs2 I2 f2 hE2 st2 hB2 fe2 => ?_)
      · have hk : xi_k it = 0 := by simpa using hP
        refine ⟨?_, fun t ht => (w.2.2.2.2.2.2 it hi).2.2.2.2.1 (by omega) t ht⟩
        unfold xk_tg; rw [if_neg (by omega)]
        cases xi_tg it <;> rfl
      · have efil : F.1.filter (fun it => decide (xi_k it = 0) && (decide (xi_pt it = 0) || decide (0 ≠ 8))) = (xg_seg F.1 0 (xg_pe F 0)).filter (fun it => xi_k it == 0) := by
          refine yg_fil (by omega) (fun j it hg => ?_)
          have h2 := l1 j it hg
          simp only [show decide (0 ≠ 8) = true from rfl, Bool.or_true, Bool.and_true, decide_eq_true_eq, beq_iff_eq]
          constructor
          · intro h; exact ⟨by omega, h2.mp h, h⟩
          · intro h; exact h.2.2
        rw [efil] at hs2
        have emid : xg_mid F V1 s1 = (match (V2, s2, r2) with
            | (V2, s2, some e) => (V2, s2, some (e, none))
            | (V2, s2, none) => xg_parts (xg_pl F 0 F.2.1.length) V2 s2) := by
          unfold xg_mid
          show (match xg_steps (xg_A []) (xg_ds ((xg_seg F.1 0 (xg_pe F 0)).filter (fun it => xi_k it == 0))) V1 s1 with
            | (V2, s2, some e) => (V2, s2, some (e, none))
            | (V2, s2, none) => xg_parts (xg_pl F 0 F.2.1.length) V2 s2) = _
          rw [show xg_steps (xg_A []) (xg_ds ((xg_seg F.1 0 (xg_pe F 0)).filter (fun it => xi_k it == 0))) V1 s1 = (V2, s2, r2) from hs2]
        have f2' := xa_fr_t f1' f2
        have hpb := yv_pb_b F.2.1.length hpl
        refine ⟨F.2.1.length + 1, ?_⟩
        cases r2 with
        | some e => exact yv_109s hnow ho hE2.1 (show yv_FH I2 now (some (e, none)) from fe2) (clean V2 s2 (some (e, none)) I2 emid f2' hE2 st2 (xv_B_m hB2 (by omega)) fe2)
        | none => exact yv_partsL hnow ho fo ly F.2.1.length 0 V2 s2 24000 I2 (by omega) hE2 st2 (xv_B_m hB2 (by omega)) (by omega) fe2 (fun V3 s3 h hp I3 f3 hE3 st3 hB3 fh3 => clean V3 s3 h I3 (emid.trans hp) (xa_fr_t f2' f3) hE3 st3 (xv_B_m hB3 (by omega)) fh3)
end
