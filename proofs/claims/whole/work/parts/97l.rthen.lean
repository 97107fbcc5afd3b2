/-! THE REFERENCE'S CONDITIONS OF A PART -/
section
variable {g : Bool} {o now : Nat} {F : xi_F} {R : pR} {ts : List (Nat × Nat × Nat × Nat)} {L : Nat}
theorem yv_67s {f2 f3 x4 : Int32} {I : pI} {h : (Nat × Nat) × Option (Nat × Nat × List (Nat × Int32))} {K Q : pI → pR → Prop} {n : Nat} (hnow : now < 6) (h68 : I 121 68 = nI now) (fh : yv_FH I now (some h)) (hK : K I R) : l_md_whenThen_67 f2 f3 K Q (n + 1) x4 I R := by
  have := fh.1.2.2
  unfold l_md_whenThen_67
  rw [h68, nI_clamp (by omega), fh.1.1]
  exact ⟨fun _ => hK, fun _ => ⟨vp_in_nI hnow (by omega), xa_f' (xa_ne 0 (by omega)) hK⟩⟩
theorem yv_claimL {V O : Nat → Int32} {calm : Bool} {e : Nat} {f2 : Int32} {K Q : pI → pR → Prop} (hnow : now < 6) (ho : o ≤ 1) (w : xg_W ts L F.1) (he : e ≤ F.1.length) (hf2 : f2 = if calm then 0 else 3) :
    ∀ m j s b I, j + m = e → (∀ j' it, j ≤ j' → j' < e → F.1[j']? = some it → xi_k it ≠ 3 ∧ (xi_k it = 4 → yv_OG I (400 * o + (xi_G (F.1.take j')).length) (xi_x it).2.1 O)) → yv_E o F 0 0 I → yv_St g I o now F.1 V s → xv_B b s → b + 200 * m ≤ 1000000000 → yv_FH I now none →
    (∀ s' r, xg_claims V O calm (xg_seg F.1 j e) s = (s', r) → ∀ I', xa_fr (yv_SH now) I I' → yv_St g I' o now F.1 V s' → xv_B (b + 200 * m) s' → yv_FH I' now r → K I' R) →
    l_md_whenThen_67 f2 (nI (100 * o + e)) K Q (m + 1) (nI (100 * o + j)) I R := by
  have w1 := w.2.1
  intro m; induction m with
  | zero =>
    intro j s b I hj hk hE st hB hb fh hK
    unfold l_md_whenThen_67
    refine xa_t ((nI_leI (by omega) (by omega)).mpr (by omega)) (hK s none ?_ I (xa_fr_r _ _) st (xv_B_m hB (by omega)) fh)
    rw [xg_seg_n (by omega)]; rfl
  | succ m ih =>
    intro j s b I hj hk hE st hB hb fh hK
    have hg : F.1[j]? = some F.1[j] := List.getElem?_eq_getElem (by omega)
    generalize F.1[j] = it at hg
    have him := List.mem_of_getElem? hg
    have iw := w.2.2.2.2.2.2 it him
    have hkb := xk_kd_b iw.1
    have ie := (hE.1.1 j it hg).1
    have hkj := hk j it (Nat.le_refl _) (by omega) hg
    have hin : vp_in (nI (100 * o + j)) 200 := vp_in_nI (by omega) (by omega)
    rw [xg_seg_c hg (by omega)] at hK
    have kd : ∀ k, k < 9 → (nI (xk_kd (xi_k it)) = nI (xk_kd k) ↔ xi_k it = k) := fun k hk9 => by
      have := xk_kd_b hk9
      exact ⟨fun e => (xk_kd_inj iw.1 hk9).mp ((nI_eq (by omega) (by omega)).mp e), fun e => by rw [e]⟩
    have kd4 : (nI (xk_kd (xi_k it)) = (4 : Int32)) ↔ xi_k it = 4 := kd 4 (by omega)
    have kd5 : (nI (xk_kd (xi_k it)) = (5 : Int32)) ↔ xi_k it = 5 := kd 5 (by omega)
    have kd6 : (nI (xk_kd (xi_k it)) = (6 : Int32)) ↔ xi_k it = 6 := kd 6 (by omega)
    have next : ∀ s1 I1, (∀ r, xg_claims V O calm (xg_seg F.1 (j + 1) e) s1 = r → xg_claims V O calm (it :: xg_seg F.1 (j + 1) e) s = r) → xa_fr (yv_SH now) I I1 → yv_St g I1 o now F.1 V s1 → xv_B (b + 200) s1 → yv_FH I1 now none → l_md_whenThen_67 f2 (nI (100 * o + e)) K Q (m + 1) (nI (100 * o + j) + 1) I1 R := by
      intro s1 I1 hc f1 st1 hB1 fh1
      rw [nI_1]
      exact ih (j + 1) s1 (b + 200) I1 (by omega) (fun j' it' h1 h2 h3 => ⟨(hk j' it' (by omega) h2 h3).1, fun h4 => yv_OG_H ((hk j' it' (by omega) h2 h3).2 h4) f1⟩) (yv_E_H f1 hE) st1 hB1 (by omega) fh1 (fun s' r hr I' f' st' hB' fh' => hK s' r (hc _ hr) I' (xa_fr_t f1 f') st' (xv_B_m hB' (by omega)) fh')
    have skip : xi_k it ≠ 4 → xi_k it ≠ (if calm then 5 else 6) → j_md_whenThen_129 (fun y I8 R8 => l_md_whenThen_67 f2 (nI (100 * o + e)) K Q (m + 1) y I8 R8) Q f2 (nI (100 * o + e)) (nI (100 * o + j)) I R := by
      intro h4 h56
      unfold j_md_whenThen_129
      rw [nI_clamp (by omega), ie.1]
      refine ⟨hin, xa_f' (fun e => h4 (kd4.mp e)) (next s I (fun r hr => ?_) (xa_fr_r _ _) st (xv_B_m hB (by omega)) fh)⟩
      show (if xi_k it = 4 ∨ xi_k it = 3 then _ else _) = r
      rw [if_neg (by have := hkj.1; omega), if_neg h56]; exact hr
    have lose : xi_k it = (if calm then 5 else 6) → j_md_whenThen_117 (fun y I8 R8 => l_md_whenThen_67 f2 (nI (100 * o + e)) K Q (m + 1) y I8 R8) Q f2 (nI (100 * o + e)) (nI (100 * o + j)) I R := by
      intro h56
      have h4 : xi_k it ≠ 4 := by rw [h56]; split <;> omega
      unfold j_md_whenThen_117
      rw [nI_clamp (by omega), ie.2.2.2.2.2.1]
      refine ⟨hin, yv_fail1 (c := 1) hnow fh st (by omega) (fun I2 f2' g2 st2 fh2 => ?_)⟩
      unfold j_md_whenThen_129
      rw [nI_clamp (by omega), g2 _ _ (by omega) (by omega), ie.1]
      refine ⟨hin, xa_f' (fun e => h4 (kd4.mp e)) (yv_67s hnow st2.1 fh2 (hK s _ ?_ I2 f2' st2 (xv_B_m hB (by omega)) fh2))⟩
      show (if xi_k it = 4 ∨ xi_k it = 3 then _ else _) = _
      rw [if_neg (by have := hkj.1; omega), if_pos h56]
    unfold l_md_whenThen_67
    rw [st.1, nI_clamp (by omega), fh.1.1]
    refine xa_f (fun hh => by have := (nI_leI (by omega) (by omega)).mp hh; omega) ⟨vp_in_nI hnow (by omega), xa_t' rfl ⟨hin, ?_⟩⟩
    rw [nI_clamp (by omega), ie.1]
    have j100 : xi_k it ≠ 5 ∨ calm = false → j_md_whenThen_100 (fun y I8 R8 => l_md_whenThen_67 f2 (nI (100 * o + e)) K Q (m + 1) y I8 R8) Q f2 (nI (100 * o + e)) (nI (100 * o + j)) I R := by
      intro hc5
      unfold j_md_whenThen_100
      rw [nI_clamp (by omega), ie.1]
      refine ⟨hin, ?_⟩
      by_cases h6 : xi_k it = 6
      · refine xa_t' (kd6.mpr h6) ?_
        cases calm with
        | true => exact xa_f' (by rw [hf2]; decide) (skip (by omega) (by simp; omega))
        | false => exact xa_t' (by rw [hf2]; rfl) (lose (by simp; omega))
      · refine xa_f' (fun e => h6 (kd6.mp e)) ?_
        by_cases h4 : xi_k it = 4
        · unfold j_md_whenThen_129
          rw [nI_clamp (by omega), ie.1]
          refine ⟨hin, xa_t' (kd4.mpr h4) (yv_truly (V := V) (O := O) (b := b) hnow ho w hg (Or.inr h4) hkj.2 hE st hB (by omega) fh (fun s' r hh I1 f1 st1 hB1 fh1 => ?_))⟩
          have ecl : xg_claims V O calm (it :: xg_seg F.1 (j + 1) e) s = (match xg_hold V O s it with
              | (s', none) => xg_claims V O calm (xg_seg F.1 (j + 1) e) s'
              | (s', some f) => (s', some f)) := by
            show (if xi_k it = 4 ∨ xi_k it = 3 then _ else _) = _
            rw [if_pos (Or.inl h4)]
            rcases xg_hold V O s it with ⟨s', _ | f⟩ <;> rfl
          rw [hh] at ecl
          cases r with
          | none => exact next s' I1 (fun r hr => ecl.trans hr) f1 st1 hB1 fh1
          | some f => exact yv_67s hnow st1.1 fh1 (hK s' (some f) ecl I1 f1 st1 (xv_B_m hB1 (by omega)) fh1)
        · refine skip h4 ?_
          cases calm with
          | true => simp; rcases hc5 with h | h
                    · exact h
                    · cases h
          | false => simp; exact h6
    by_cases h5 : xi_k it = 5
    · refine xa_t' (kd5.mpr h5) ?_
      cases calm with
      | true => exact xa_t (by rw [hf2]; rfl) (lose (by simp; exact h5))
      | false => exact xa_f (by rw [hf2]; decide) (j100 (Or.inr rfl))
    · exact xa_f' (fun e => h5 (kd5.mp e)) (j100 (Or.inl h5))
theorem yv_metL {V : Nat → Int32} {s : xp_S} {e b : Nat} {I : pI} {K Q : pI → pR → Prop} (hnow : now < 6) (ho : o ≤ 1) (w : xg_W ts L F.1) (he : e ≤ F.1.length) (hE : yv_E o F 0 0 I) (st : yv_St true I o now F.1 V s) (hB : xv_B b s) (hb : b ≤ 1000000000) (fh : yv_FH I now none) :
    ∀ m j, j + m = e → (∀ r, xg_met s (xg_rng F.1 j m) = r → ∀ I', xa_fr (yv_SH now) I I' → yv_St true I' o now F.1 V s → yv_FH I' now r → K I' R) →
    l_md_whenThen_158 (nI (100 * o + e)) K Q (m + 1) (nI (100 * o + j)) I R := by
  have w1 := w.2.1
  intro m; induction m with
  | zero =>
    intro j hj hK
    unfold l_md_whenThen_158
    exact xa_t ((nI_leI (by omega) (by omega)).mpr (by omega)) (hK none rfl I (xa_fr_r _ _) st fh)
  | succ m ih =>
    intro j hj hK
    have hg : F.1[j]? = some F.1[j] := List.getElem?_eq_getElem (by omega)
    generalize F.1[j] = it at hg
    have him := List.mem_of_getElem? hg
    have iw := w.2.2.2.2.2.2 it him
    have hkb := xk_kd_b iw.1
    obtain ⟨ie, re⟩ := hE.1.1 j it hg
    have hin : vp_in (nI (100 * o + j)) 200 := vp_in_nI (by omega) (by omega)
    have er : xg_rng F.1 j (m + 1) = (if xi_k it = 7 then [(xi_nr (F.1.take j), it)] else []) ++ xg_rng F.1 (j + 1) m := by
      show (match F.1[j]? with
        | some it => if xi_k it = 7 then [(xi_nr (F.1.take j), it)] else []
        | none => []) ++ _ = _
      rw [hg]
    unfold l_md_whenThen_158
    rw [st.1, nI_clamp (by omega), fh.1.1]
    refine xa_f (fun hh => by have := (nI_leI (by omega) (by omega)).mp hh; omega) ⟨vp_in_nI hnow (by omega), xa_t' rfl ⟨hin, ?_⟩⟩
    rw [nI_clamp (by omega), ie.1, nI_1]
    by_cases h7 : xi_k it = 7
    · obtain ⟨r1, r2, r3, r4, r5, r6, r7⟩ := re h7
      obtain ⟨x, hx, ex⟩ := hB (xi_nr (F.1.take j))
      have hle := (iw.2.1 h7).1
      rw [if_pos h7] at er
      have em : xg_met s (xg_rng F.1 j (m + 1)) = if s (2 + xi_nr (F.1.take j)) < nI (xi_le (xi_ru it)) then some ((2, xi_fi it), none) else xg_met s (xg_rng F.1 (j + 1) m) := by rw [er]; rfl
      refine xa_t' (xa_e 7 ((xk_kd7 iw.1).mpr h7)) ⟨hin, hin, ?_⟩
      rw [r1, st.2.2.2.2 rfl j it hg h7, ex]
      rw [ex] at em
      by_cases hl : xi_le (xi_ru it) ≤ x
      · refine xa_t ((nI_leI (by omega) (by omega)).mpr hl) (ih (j + 1) (by omega) (fun r hr => hK r ?_))
        rw [em, if_neg (fun h => by have := (nI_ltI (by omega) (by omega)).mp h; omega)]; exact hr
      · refine xa_f (fun h => hl ((nI_leI (by omega) (by omega)).mp h)) ⟨hin, ?_⟩
        rw [ie.2.2.2.2.2.1]
        refine yv_fail1 (c := 2) hnow fh st (by omega) (fun I2 f2' g2 st2 fh2 => ?_)
        have k := hK _ (em.trans (if_pos ((nI_ltI (by omega) (by omega)).mpr (by omega)))) I2 f2' st2 fh2
        unfold l_md_whenThen_158
        rw [st2.1, nI_clamp (by omega), fh2.1.1]
        exact ⟨fun _ => k, fun _ => ⟨vp_in_nI hnow (by omega), xa_f' (show ¬ nI 2 = 0 by decide) k⟩⟩
    · refine xa_f' (fun e => h7 ?_) (ih (j + 1) (by omega) (fun r hr => hK r ?_))
      · exact (xk_kd7 iw.1).mp ((xa_eql 7 (by omega) (by omega)).mp e)
      · rw [er, if_neg h7]; exact hr
set_option maxRecDepth 100000 in
theorem yv_whenThen {p a c e : Nat} {V : Nat → Int32} {s : xp_S} {b : Nat} {I : pI} {Q : pI → pR → Prop} (hnow : now < 6) (ho : o ≤ 1) (w : xg_W ts L F.1) (hop : (xg_os F.1).Pairwise (fun a b => a.1 < b.1)) (hpt : ∀ it, it ∈ F.1 → xi_pt it < 1000) (hp : p < 1000) (wp : yg_WP F.1 p a c e) (hE : yv_E o F 0 0 I) (st : yv_St false I o now F.1 V s) (hB : xv_B b s) (hb : b + 3000000 ≤ 1000000000) (fh : yv_FH I now none)
    (hQ : ∀ V' s' r, xg_wt (xg_seg F.1 a e) (xg_rng F.1 a (e - a)) V s = (V', s', r) → ∀ I', xa_fr (yv_SI now) I I' → yv_E o F 0 0 I' → yv_St false I' o now F.1 V' s' → xv_B (b + 3000000) s' → yv_FH I' now r → Q I' R) : w_md_whenThen (nI p) I R Q := by
  have w1 := w.2.1
  have w6 := w.2.2.2.2.2.2
  have wp' := wp
  obtain ⟨hac, hce, hel, wh, wt, wn, wo⟩ := wp'
  have e100 : (100 : Int32) * I 121 10 = nI (100 * o + 0) := by rw [hE.1.2.2.2.1]; exact pk_mul _ _
  -- the O's
  have eos : yg_os p (F.1.drop 0) = (xg_seg F.1 a e).flatMap (fun it => (xi_x it).2.2.2.2) := by
    have e1 : F.1.filter (fun it => decide (xi_k it = 4) && decide (xi_pt it = p)) = (xg_seg F.1 a e).filter (fun it => decide (xi_k it = 4)) := by
      refine yg_fil (by omega) (fun j it hg => ?_)
      have h1 := wh j it hg
      have h2 := wt j it hg
      have h3 := wo j it hg
      simp only [Bool.and_eq_true, decide_eq_true_eq]
      constructor
      · intro ⟨x, y⟩; have := h3 (by omega) (by omega) y; exact ⟨by omega, by omega, x⟩
      · intro ⟨x, y, z⟩
        by_cases hjc : j < c
        · have := (h1.mpr ⟨x, hjc⟩).1; omega
        · exact ⟨z, (h2 (by omega) y).2⟩
    rw [List.drop_zero]
    unfold yg_os
    rw [e1]
    have key : ∀ l : List xi_I, (∀ it, it ∈ l → it ∈ F.1) → xg_os (l.filter (fun it => decide (xi_k it = 4))) = l.flatMap (fun it => (xi_x it).2.2.2.2) := by
      intro l; induction l with
      | nil => intro _; rfl
      | cons it l ih =>
        intro hl
        have i := ih (fun u hu => hl u (by simp [hu]))
        have iw := w6 it (hl it (by simp))
        by_cases h4 : xi_k it = 4
        · rw [List.filter_cons_of_pos (by simp [h4]), List.flatMap_cons, ← i]; simp [xg_os]
        · rw [List.filter_cons_of_neg (by simp [h4]), List.flatMap_cons, ← i]
          have : (xi_x it).2.2.2.2 = [] := by
            by_cases hk : xi_k it ≤ 4 ∨ xi_k it = 8
            · obtain ⟨lv, q, q', hlv, hD, _, _⟩ := iw.2.2.1 hk
              have aa := xf_all w.1 (by omega) hD
              exact (aa.2.2.2.2.1 (by simp [h4])).2.2
            · have := iw.1
              rw [(iw.2.2.2.1 (by omega)).1]; rfl
          rw [this]; rfl
    exact key _ (fun it hi => xg_seg_sub.subset hi)
  have eW : ∀ r, xg_rem V ((xg_seg F.1 a e).flatMap (fun it => (xi_x it).2.2.2.2)) xg_O0 s = r → xg_wt (xg_seg F.1 a e) (xg_rng F.1 a (e - a)) V s = (match r with
      | (_, s1, some e) => (V, s1, some (e, none))
      | (O, s1, none) => match xg_steps (xg_A (xg_rng F.1 a (e - a))) (xg_ds ((xg_seg F.1 a e).filter (fun it => xi_k it == 1))) V (xg_rs s1) with
        | (V2, s2, none) => xg_fin V2 (xg_rng F.1 a (e - a)) (xg_claims V2 O true (xg_seg F.1 a e) s2)
        | (V2, s2, some f) => if f.1 = 3 ∧ (xg_seg F.1 a e).any (fun it => xi_k it == 5) = true then xg_fin V2 (xg_rng F.1 a (e - a)) (xg_claims V2 O false (xg_seg F.1 a e) s2) else (V2, s2, some (f, none))) := by
    intro r hr
    unfold xg_wt
    rw [hr]
    rcases r with ⟨O, s1, _ | f⟩
    · simp only
      rcases xg_steps (xg_A (xg_rng F.1 a (e - a))) (xg_ds ((xg_seg F.1 a e).filter (fun it => xi_k it == 1))) V (xg_rs s1) with ⟨V2, s2, _ | f⟩ <;> rfl
    · rfl
  have ecl : ∀ V2 O calm s2, xg_claims V2 O calm (xg_seg F.1 a e) s2 = xg_claims V2 O calm (xg_seg F.1 (c - 1) e) s2 := by
    intro V2 O calm s2
    have := yg_claims_s (V := V2) (O := O) (calm := calm) (s := s2) (its := F.1) (e := e) (c - 1 - a) a (by omega) hel (fun j it h1 h2 hg => ((wh j it hg).mpr ⟨h1, by omega⟩).1)
    rw [show a + (c - 1 - a) = c - 1 by omega] at this; exact this
  have erng : xg_rng F.1 a (e - a) = xg_rng F.1 (c - 1) (e - (c - 1)) := by
    have := yg_rng_s (its := F.1) (e := e) (c - 1 - a) a (by omega) (fun j it h1 h2 hg => by have := ((wh j it hg).mpr ⟨h1, by omega⟩).1; omega)
    rw [show a + (c - 1 - a) = c - 1 by omega] at this; exact this
  have any5 : (xg_seg F.1 a e).any (fun it => xi_k it == 5) = true ↔ ∃ it, it ∈ F.1 ∧ xi_k it = 5 ∧ xi_pt it = p := by
    rw [List.any_eq_true]
    constructor
    · rintro ⟨it, hi, h5⟩
      simp only [beq_iff_eq] at h5
      obtain ⟨j, hj'⟩ := List.getElem?_of_mem hi
      have hj := xa_some_lt hj'
      have hl : (xg_seg F.1 a e).length = e - a := by unfold xg_seg; simp; omega
      have hg : F.1[a + j]? = some it := by
        unfold xg_seg at hj'
        rw [List.getElem?_take_of_lt (by omega), List.getElem?_drop] at hj'
        exact hj'
      by_cases hjc : a + j < c
      · have := ((wh _ it hg).mpr ⟨by omega, hjc⟩).1; omega
      · exact ⟨it, List.mem_of_getElem? hg, h5, (wt _ it hg (by omega) (by omega)).2⟩
    · rintro ⟨it, hi, h5, hpp⟩
      obtain ⟨j, hj, hjg⟩ := List.getElem_of_mem hi
      have hg : F.1[j]? = some it := by rw [List.getElem?_eq_getElem hj, hjg]
      have := wo j it hg (by omega) (by omega) hpp
      exact ⟨it, xg_seg_mem (by omega) this.2 hg, by simp [h5]⟩
  unfold w_md_whenThen w_md_befores
  rw [e100]
  refine ⟨F.1.length + 1, yv_befL (V := V) (p := p) hnow ho w hop hpt hp F.1.length 0 xg_O0 s b I (by omega) hE st hB (by omega) (fun O s1 hrem I1 f1 st1 hB1 og1 => xa_f' (by decide) ?_) (fun O s1 f hrem I1 f1 st1 hB1 ha hb' h23 => xa_t' rfl ?_)⟩
  · rw [eos] at hrem
    have hE1 := yv_E_M f1 hE
    have fh1 : yv_FH I1 now none := yv_FH_fr fh (fun p k hp => yv_SM_o f1 p k (by omega))
    refine yv_acted (p := p) (V := V) (s := s1) (b := b) hnow ho w hpt hp wp hE1.1 st1 (fun V2 s2 r hs I2 f2 g159 gfh hE2 st2 hB2 t62 t63 hr => ?_)
    have fh2 : yv_FH I2 now none := yv_FH_fr fh1 gfh
    have f12 := xa_fr_t (yv_SI_M f1) f2
    have after : ∀ calm : Bool, (∀ z, xg_fin V2 (xg_rng F.1 a (e - a)) (xg_claims V2 O calm (xg_seg F.1 a e) s2) = z → xg_wt (xg_seg F.1 a e) (xg_rng F.1 a (e - a)) V s = z) → (∃ n2, l_md_whenThen_67 (if calm then 0 else 3) (I2 121 63) (fun I13 R13 => (∃ n1, l_md_whenThen_158 (I2 121 63) (fun I15 R15 => Q I15 R15) Q n1 (I13 121 62) I13 R13)) Q n2 (I2 121 62) I2 R) := by
      intro calm hz
      rw [t62, t63]
      refine ⟨e - (c - 1) + 1, yv_claimL (V := V2) (O := O) (calm := calm) hnow ho w hel rfl (e - (c - 1)) (c - 1) s2 12000 I2 (by omega) (fun j' it h1 h2 hg => ⟨?_, fun h4 => ?_⟩) hE2 st2 hB2 (by omega) fh2 (fun s3 r3 hc I3 f3 st3 hB3 fh3 => ?_)⟩
      · by_cases hjc : j' < c
        · have := ((wh _ it hg).mpr ⟨by omega, hjc⟩).1; omega
        · have := (wt _ it hg (by omega) h2).1; omega
      · have hpp : xi_pt it = p := by
          by_cases hjc : j' < c
          · exact ((wh _ it hg).mpr ⟨by omega, hjc⟩).2
          · exact (wt _ it hg (by omega) h2).2
        intro i u hi hu
        rw [g159]; exact og1 j' it (by omega) hg h4 hpp i u hi hu
      · have hE3 := yv_E_H f3 hE2
        have v62 : I3 121 62 = nI (100 * o + (c - 1)) := by rw [yv_SH_o f3 _ _ (by omega)]; exact t62
        rw [v62]
        have hfin : ∀ r4, xg_fin V2 (xg_rng F.1 a (e - a)) (s3, r3) = (V2, s3, r4) → xg_wt (xg_seg F.1 a e) (xg_rng F.1 a (e - a)) V s = (V2, s3, r4) := fun r4 h4 => hz _ (by rw [ecl, hc]; exact h4)
        cases r3 with
        | none =>
          refine ⟨e - (c - 1) + 1, yv_metL (V := V2) (s := s3) (b := 12000 + 200 * (e - (c - 1))) hnow ho w hel hE3 st3 hB3 (by omega) fh3 (e - (c - 1)) (c - 1) (by omega) (fun r4 hm I4 f4 st4 fh4 => hQ V2 s3 r4 (hfin r4 ?_) I4 (xa_fr_t f12 (xa_fr_t (yv_SI_H f3) (yv_SI_H f4))) (yv_E_H f4 hE3) (yv_St_f st4) (xv_B_m hB3 (by omega)) fh4)⟩
          show (V2, s3, xg_met s3 _) = _
          rw [erng, hm]
        | some f =>
          have k := hQ V2 s3 (some f) (hfin (some f) rfl) I3 (xa_fr_t f12 (yv_SI_H f3)) hE3 (yv_St_f st3) (xv_B_m hB3 (by omega)) fh3
          refine ⟨1, ?_⟩
          have := fh3.1.2.2
          unfold l_md_whenThen_158
          rw [st3.1, nI_clamp (by omega), fh3.1.1]
          exact ⟨fun _ => k, fun _ => ⟨vp_in_nI hnow (by omega), xa_f' (xa_ne 0 (by omega)) k⟩⟩
    cases r with
    | none =>
      refine xa_f (by decide) (xa_f' (by decide) ?_)
      exact after true (fun z hz => by rw [eW _ hrem]; simp only; rw [hs]; exact hz)
    | some f =>
      obtain ⟨h60, h23⟩ := hr f rfl
      have lose : ¬ (f.1 = 3 ∧ (xg_seg F.1 a e).any (fun it => xi_k it == 5) = true) → w_md_fails (nI f.1) (I2 121 60) I2 R (fun I3 R3 => Q I3 R3) := by
        intro hn
        rw [h60]
        refine yv_fail1 hnow fh2 st2 (by omega) (fun I3 f3 g3 st3 fh3 => hQ V2 s2 (some (f, none)) ?_ I3 (xa_fr_t f12 (yv_SI_H f3)) (yv_E_H f3 hE2) (yv_St_f st3) (xv_B_m hB2 (by omega)) fh3)
        rw [eW _ hrem]; simp only; rw [hs]; simp only; rw [if_neg hn]
      show (nI f.1 = 2 → _) ∧ (¬ nI f.1 = 2 → _)
      rcases h23 with h2 | h3
      · exact xa_t (xa_e 2 h2) (lose (fun h => by omega))
      · refine xa_f (xa_ne 2 (by omega)) (xa_t' (xa_e 3 h3) ?_)
        refine yv_first (f1 := 5) (p := p) ho w hpt hp (by omega) hE2.1 (fun hno => ?_) (fun n hyes hn => ?_)
        · refine xa_f (by decide) (lose (fun h => ?_))
          obtain ⟨it, h1, h2, h4⟩ := any5.mp h.2
          exact hno it h1 ⟨h2, h4⟩
        · refine xa_t (nI_pos' (by omega)) ?_
          have := after false (fun z hz => by rw [eW _ hrem]; simp only; rw [hs]; simp only; rw [if_pos ⟨h3, any5.mpr hyes⟩]; exact hz)
          rw [show (if false = true then (0 : Int32) else 3) = nI f.1 by rw [h3]; rfl] at this
          exact this
  · rw [eos] at hrem
    have fh1 : yv_FH I1 now none := yv_FH_fr fh (fun p k hp => yv_SM_o f1 p k (by omega))
    rw [ha, hb']
    refine yv_fail1 hnow fh1 st1 (by omega) (fun I2 f2 g2 st2 fh2 => hQ V s1 (some (f, none)) ?_ I2 (xa_fr_t (yv_SI_M f1) (yv_SI_H f2)) (yv_E_H f2 (yv_E_M f1 hE)) st2 (xv_B_m hB1 (by omega)) fh2)
    rw [eW _ hrem]
end
