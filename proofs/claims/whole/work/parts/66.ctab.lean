theorem xi_prs_r {kd nm pl en : Nat → Nat} {m p q : Nat} {a a' : List xi_I} {st : List Nat} (h : xi_prt kd nm pl en st.length p a = .inr (q, a')) : xi_prs kd nm pl en (m + 1) p a st = (if kd q = 69 ∨ kd q = 87 then xi_prs kd nm pl en m q a' (st ++ [a.length]) else .inr (q, a', st ++ [a.length])) := by
  rw [xi_prs, h]
theorem xi_prs_l {kd nm pl en : Nat → Nat} {m p g : Nat} {a : List xi_I} {st : List Nat} (h : xi_prt kd nm pl en st.length p a = .inl g) : xi_prs kd nm pl en (m + 1) p a st = .inl g := by
  rw [xi_prs, h]
theorem xi_prsL {I0 : pI} {R : pR} {q L a1 a3 : Nat} {ts : List (Nat × Nat × Nat × Nat)} {K : pI → pR → Prop} {Q : Int32 → pI → pR → Prop} (cx0 : xc_CX I0 R q ts L) : ∀ m turn p its st I, turn + m = 120 → 3 * turn ≤ p → 3 * st.length ≤ p → xi_Z I0 I R q ts L p → xi_CM I q its → xi_PM I q st its.length → xi_BD ts L its p →
    (∀ p' its' st', (if xt_kd ts L p = 69 ∨ xt_kd ts L p = 87 then xi_prs (xt_kd ts L) (xt_nm ts L) (xt_pl ts L) (xt_en ts L) m p its st else .inr (p, its, st)) = .inr (p', its', st') → ∀ I', xi_Z I0 I' R q ts L p' → xi_CM I' q its' → xi_PM I' q st' its'.length → xi_BD ts L its' p' → xa_fr (xi_SP q) I I' → K I' R) →
    (∀ g, (if xt_kd ts L p = 69 ∨ xt_kd ts L p = 87 then xi_prs (xt_kd ts L) (xt_nm ts L) (xt_pl ts L) (xt_en ts L) m p its st else .inr (p, its, st)) = .inl g → ∀ I', xs_FS I0 I' q ts L g → K I' R) → l_ps_read_54 a1 a3 K Q (m + 1) (nI turn) I R := by
  have w := cx0.2.2.1
  have hT := w.2.1
  have hL := w.1
  have hq := cx0.2.2.2.2
  intro m; induction m with
  | zero => intro turn p its st I h1 h2 h3 z; have := z.2.2.2.2.2; omega
  | succ m ih =>
    intro turn p its st I h1 h2 h3 z cm pm bd hK hF
    have hp := z.2.2.2.2.2
    have hkb := xt_kd_b w (i := p)
    unfold l_ps_read_54
    refine xa_f (fun hh => by have := (xa_lle 120 (by omega) (by omega)).mp hh; omega) ?_
    have go : (xt_kd ts L p = 69 ∨ xt_kd ts L p = 87) → w_ps_part I R (fun I8 R7 => l_ps_read_54 a1 a3 K Q (m + 1) (nI turn + 1) I8 R7) := by
      intro hc
      rw [if_pos hc] at hK hF
      refine xi_prtC cx0 z cm pm bd h3 (fun p' its' h I1 z1 cm1 pm1 bd1 hpp fr1 => ?_) (fun g hg I1 f1 => ?_)
      · have e := xi_prs_r (m := m) h
        rw [e] at hK hF
        rw [nI_1]
        exact ih (turn + 1) p' its' (st ++ [its.length]) I1 (by omega) (by omega) (by simp; omega) z1 cm1 pm1 bd1 (fun p2 its2 st2 h' I' z' cm' pm' bd' fr' => hK p2 its2 st2 h' I' z' cm' pm' bd' (xa_fr_t fr1 fr')) hF
      · rw [xi_prs_l hg] at hF
        have := hF g rfl I1 f1
        unfold l_ps_read_54
        refine ⟨fun _ => this, fun _ => xs_next cx0 f1 (fun k hk hb => xa_f (xa_ne 69 (by omega)) (xs_next cx0 f1 (fun k hk hb => xa_f' (xa_ne 87 (by omega)) this)))⟩
    rw [xc_next z.1 z.2.1 (by omega)]
    by_cases c1 : xt_kd ts L p = 69
    · exact xa_t (xa_e 69 c1) (go (Or.inl c1))
    · refine xa_f (xa_ne 69 (by omega)) ?_
      rw [xc_next z.1 z.2.1 (by omega)]
      by_cases c2 : xt_kd ts L p = 87
      · exact xa_t' (xa_e 87 c2) (go (Or.inr c2))
      · rw [if_neg (fun h => h.elim c1 c2)] at hK
        exact xa_f' (xa_ne 87 (by omega)) (hK p its st rfl I z cm pm bd (xa_fr_r _ _))
/-! the table -/
theorem xi_take4 {I0 I : pI} {R : pR} {q L p : Nat} {ts : List (Nat × Nat × Nat × Nat)} {Q : Int32 → pI → pR → Prop} (k : Nat) (hk : k < 267 ∧ k ≠ 256) (z : xi_Z I0 I R q ts L p) (h1 : xt_kd ts L p = k → ∀ I', xi_Z I0 I' R q ts L (p + 1) → xi_o8 I I' → I' 108 4 = I 108 4 → Q 1 I' R) (h2 : xt_kd ts L p ≠ k → Q 0 I R) : w_ps_take (nI k) I R Q := by
  have cx := z.1
  have w := cx.2.2.1
  have := w.1; have := w.2.1
  have hkb := xt_kd_b w (i := p)
  have hp := z.2.2.2.2.2
  unfold w_ps_take
  rw [z.2.1, xc_kindAt cx (by omega)]
  by_cases h : xt_kd ts L p = k
  · have hpT := xt_kd_lt w (i := p) (by omega)
    refine xa_t (by rw [h]) ?_
    rw [z.2.1, nI_1]
    obtain ⟨z', o'⟩ := xi_Z_now (p' := p + 1) z (by omega)
    exact xa_a (h1 h _ z' o' (by rw [xa_w, if_neg (by decide)]))
  · exact xa_f (fun hh => h ((nI_eq (by omega) (by omega)).mp hh)) (h2 h)
theorem xi_bar {I0 I : pI} {R : pR} {q L p : Nat} {ts : List (Nat × Nat × Nat × Nat)} {Q : Int32 → pI → pR → Prop} (z : xi_Z I0 I R q ts L p) (h1 : (xt_kd ts L p = 124 ∨ xt_kd ts L p = 265) → ∀ I', xi_Z I0 I' R q ts L (p + 1) → xi_o8 I I' → I' 108 4 = I 108 4 → Q 1 I' R) (h2 : ¬ (xt_kd ts L p = 124 ∨ xt_kd ts L p = 265) → Q 0 I R) : w_ps_takeBar I R Q := by
  unfold w_ps_takeBar
  refine xi_take4 124 (by decide) z (fun h I1 z1 o1 e1 => xa_f' (by decide) (h1 (Or.inl h) I1 z1 o1 e1)) (fun h => xa_t' rfl ?_)
  exact xi_take4 265 (by decide) z (fun h' I1 z1 o1 e1 => xa_f (by decide) (h1 (Or.inr h') I1 z1 o1 e1)) (fun h' => xa_t rfl (h2 (fun hh => hh.elim h h')))
theorem xi_cel_r {kd nm pl en : Nat → Nat} {row m c p q : Nat} {x : xp_X} {a : List xi_I} (h : xp_P kd nm pl 64 0 3 0 false p = .inr (q, x)) : xi_cel kd nm pl en row (m + 1) c p a = (if kd q = 124 ∨ kd q = 265 then xi_cel kd nm pl en row m (c + 1) (q + 1) (a ++ [(8, row, pl p, en (q - 1), some c, x, xi_r0)]) else .inr (q, a ++ [(8, row, pl p, en (q - 1), some c, x, xi_r0)])) := by
  rw [xi_cel, h]
theorem xi_cel_l {kd nm pl en : Nat → Nat} {row m c p g : Nat} {a : List xi_I} (h : xp_P kd nm pl 64 0 3 0 false p = .inl g) : xi_cel kd nm pl en row (m + 1) c p a = .inl g := by
  rw [xi_cel, h]
theorem xi_celC {I0 : pI} {R : pR} {q L row : Nat} {ts : List (Nat × Nat × Nat × Nat)} {K Q : pI → pR → Prop} (cx0 : xc_CX I0 R q ts L) : ∀ m c p its I, c + m = 121 → 2 * c ≤ p → xi_Z I0 I R q ts L p → xi_CM I q its → I 108 4 = 0 → xi_BD ts L its p → 2 * its.length + 1 ≤ p →
    (∀ p' its', xi_cel (xt_kd ts L) (xt_nm ts L) (xt_pl ts L) (xt_en ts L) row m c p its = .inr (p', its') → ∀ I', xi_Z I0 I' R q ts L p' → xi_CM I' q its' → xi_BD ts L its' p' → p < p' → xa_fr (xi_ST q) I I' → K I' R) →
    (∀ g, xi_cel (xt_kd ts L) (xt_nm ts L) (xt_pl ts L) (xt_en ts L) row m c p its = .inl g → ∀ I', xs_FS I0 I' q ts L g → K I' R) → l_ps_row_24 q K Q m 1 (nI c) I R := by
  have w := cx0.2.2.1
  have hT := w.2.1
  have hL := w.1
  have hq := cx0.2.2.2.2
  have hR := cx0.2.2.2.1
  intro m; induction m with
  | zero => intro c p its I h1 h2 z; have := z.2.2.2.2.2; omega
  | succ m ih =>
    intro c p its I h1 h2 z cm hok bd hb1 hK hF
    have hp := z.2.2.2.2.2
    obtain ⟨sm, hct, hcd, hrm⟩ := cm
    have hl : its.length < 61 := by omega
    unfold l_ps_row_24
    refine xa_f (fun hh => by have := (xa_lle 120 (by omega) (by omega)).mp hh; omega) (xa_f (by decide) ?_)
    rw [z.2.1, xc_placeOf z.1 (by omega)]
    refine ⟨q, hR, xc_sh hq, ?_⟩
    rw [hct]
    refine xi_open (k := 8) sm hl (fun I1 sm1 fr1 => ?_)
    have z1 := xi_Z_st z fr1 (a := its.length + 1) (by omega) sm1.1
    refine xi_putd (det' := nI c) sm1 hl (fun I2 sm2 fr2 e2 => ?_)
    have z2 := xi_Z_st z1 fr2 (a := its.length + 1) (by omega) sm2.1
    have f : ∀ p k, ¬ (q + 7 ≤ p ∧ p ≤ q + 13) → I2 p k = I p k := fun p k hp => by
      rw [fr2 p k (by simp only [xi_SS, Bool.and_eq_false_iff, decide_eq_false_iff_not]; omega), fr1 p k (by simp only [xi_SS, Bool.and_eq_false_iff, decide_eq_false_iff_not]; omega)]
    have fr02 : xa_fr (xi_ST q) I I2 := xa_fr_t (xi_ST_SS fr1) (xi_ST_SS fr2)
    refine xi_chainC (lv := 3) (ok := false) (s := (xi_C its).length) z2 (by rw [f _ _ (by omega)]; exact hok) (by rw [f _ _ (by omega)]; exact hct) bd.1 (by omega) (fun p' x hx I3 z3 e3 cd3 fr3 ok3 => ?_) (fun g hg I3 f3 => ?_)
    · have hlx := xp_len w (by omega) (by omega) hx
      have f3 : ∀ p k, ¬ (p = 108 ∨ (q + 2 ≤ p ∧ p ≤ q + 6)) → I3 p k = I2 p k := fun p k hp => fr3 p k (by simp only [xc_S, Bool.or_eq_false_iff, Bool.and_eq_false_iff, beq_eq_false_iff_ne, decide_eq_false_iff_not]; omega)
      have hC : xi_C (its ++ [(8, row, xt_pl ts L p, xt_en ts L (p' - 1), some c, x, xi_r0)]) = xi_C its ++ x.1 := by rw [xi_C_app, xi_C_one]; rfl
      have bd3 : xi_BD ts L (its ++ [(8, row, xt_pl ts L p, xt_en ts L (p' - 1), some c, x, xi_r0)]) p' := xi_BD_add bd hb1 hlx.1 hlx.2.2.1 (fun h => by have h' : 8 = 7 := h; omega)
      show j_ps_statement_235 q (fun I8 R7 => w_ps_takeBar I8 R7 (fun v8 I9 R8 => l_ps_row_24 q K Q m v8 (nI c + 1) I9 R8)) (nI its.length) I3 R
      refine xi_end (it := (8, row, xt_pl ts L p, xt_en ts L (p' - 1), some c, x, xi_r0)) (det := nI c) z3 ?_ hl (by omega) rfl ?_ ?_ ?_ ?_ (fun I4 z4 cm4 fr4 => ?_)
      · exact xi_SM1_fr sm2 (fun p a b => funext (fun k => f3 p k (by omega)))
      · rw [e3, hC, List.length_append]
      · rw [hC]
        refine xc_CD_app (xc_CD_fr (I := I2) hq (fun i e hi => by rw [f _ _ (by omega), f _ _ (by omega), f _ _ (by omega), f _ _ (by omega)]; exact hcd i e hi) fr3 (by omega)) ?_
        rw [Nat.zero_add]; exact cd3
      · rw [xi_rs_n (it := (8, row, xt_pl ts L p, xt_en ts L (p' - 1), some c, x, xi_r0)) (show (8 : Nat) ≠ 7 by decide)]
        exact xi_RM_fr hrm (fun p a b => funext (fun k => by rw [f3 p k (by omega), f p k (by omega)]))
      · rfl
      · have fr04 : xa_fr (xi_ST q) I I4 := xa_fr_t fr02 (xa_fr_t (xi_ST_c fr3) (xi_ST_SS fr4))
        have hok4 : I4 108 4 = 0 := by
          rw [fr4 108 4 (by simp only [xi_SS, Bool.and_eq_false_iff, decide_eq_false_iff_not]; omega)]
          exact ok3
        refine xi_bar z4 (fun hb I5 z5 o5 ok5 => ?_) (fun hb => ?_)
        · have hp5 := z5.2.2.2.2.2
          rw [xi_cel_r hx, if_pos hb] at hK hF
          show l_ps_row_24 q K Q m 1 (nI c + 1) I5 R
          rw [nI_1]
          refine ih (c + 1) (p' + 1) _ I5 (by omega) (by omega) z5 (xi_CM_o8 hq cm4 o5) (ok5.trans hok4) (xi_BD_m w bd3 (by omega)) (by have := bd3.2.1; omega) (fun p2 its2 h I' z' cm' bd' hpp fr' => hK p2 its2 h I' z' cm' bd' (by omega) (xa_fr_t fr04 (xa_fr_t (xi_ST_o8 o5) fr'))) hF
        · rw [xi_cel_r hx, if_neg hb] at hK
          obtain ⟨m', rfl⟩ : ∃ m', m = m' + 1 := ⟨m - 1, by omega⟩
          have := hK p' _ rfl I4 z4 cm4 bd3 hlx.1 fr04
          show l_ps_row_24 q K Q (m' + 1) 0 (nI c + 1) I4 R
          unfold l_ps_row_24
          exact ⟨fun _ => this, fun _ => xa_t rfl this⟩
    · rw [xi_cel_l hg] at hF
      obtain ⟨m', rfl⟩ : ∃ m', m = m' + 1 := ⟨m - 1, by omega⟩
      show j_ps_statement_235 q (fun I8 R7 => w_ps_takeBar I8 R7 (fun v8 I9 R8 => l_ps_row_24 q K Q (m' + 1) v8 (nI c + 1) I9 R8)) (nI its.length) I3 R
      refine xs_state235 cx0 f3 (fun I4 f4 => xs_bar cx0 f4 ?_)
      have := hF g rfl I4 f4
      unfold l_ps_row_24
      exact ⟨fun _ => this, fun _ => xa_t rfl this⟩
/-! header and rows -/
def xi_HM (I : pI) (q : Nat) (h : List (Nat × Nat)) : Prop := I q 10 = nI h.length ∧ ∀ i e, h[i]? = some e → I (q + 25) i = nI e.1 ∧ I (q + 26) i = nI e.2
def xi_WM (I : pI) (q : Nat) (rw : List Nat) : Prop := I q 9 = nI rw.length ∧ ∀ i v, rw[i]? = some v → I (q + 24) i = nI v
theorem xi_HM_fr {I I' : pI} {q : Nat} {h : List (Nat × Nat)} (hm : xi_HM I q h) (f0 : I' q 10 = I q 10) (f1 : I' (q + 25) = I (q + 25)) (f2 : I' (q + 26) = I (q + 26)) : xi_HM I' q h := ⟨f0.trans hm.1, fun i e hi => by rw [f1, f2]; exact hm.2 i e hi⟩
theorem xi_WM_fr {I I' : pI} {q : Nat} {rw : List Nat} (wm : xi_WM I q rw) (f0 : I' q 9 = I q 9) (f1 : I' (q + 24) = I (q + 24)) : xi_WM I' q rw := ⟨f0.trans wm.1, fun i e hi => by rw [f1]; exact wm.2 i e hi⟩
theorem xi_rws_r {kd nm pl en : Nat → Nat} {m p q : Nat} {a a' : List xi_I} {rs : List Nat} (h : xi_cel kd nm pl en rs.length 121 0 p a = .inr (q, a')) : xi_rws kd nm pl en (m + 1) p a rs = (if kd q = 59 then xi_rws kd nm pl en m (q + 1) a' (rs ++ [a.length]) else .inr (q, a', rs ++ [a.length])) := by
  rw [xi_rws, h]
theorem xi_rws_l {kd nm pl en : Nat → Nat} {m p g : Nat} {a : List xi_I} {rs : List Nat} (h : xi_cel kd nm pl en rs.length 121 0 p a = .inl g) : xi_rws kd nm pl en (m + 1) p a rs = .inl g := by
  rw [xi_rws, h]
def xi_SW (q p k : Nat) : Bool := p == 108 || (decide (q + 2 ≤ p) && decide (p ≤ q + 22)) || p == q + 24 || (p == q && k == 9)
theorem xi_SW_ST {q : Nat} {I I' : pI} (h : xa_fr (xi_ST q) I I') : xa_fr (xi_SW q) I I' := xa_fr_m h (fun p k hp => by
  simp only [xi_ST, xi_SW, Bool.or_eq_false_iff, Bool.and_eq_false_iff, beq_eq_false_iff_ne, decide_eq_false_iff_not] at hp ⊢; omega)
theorem xi_rowC {I0 I : pI} {R : pR} {q L p : Nat} {rs : List Nat} {its : List xi_I} {ts : List (Nat × Nat × Nat × Nat)} {Q : pI → pR → Prop} (cx0 : xc_CX I0 R q ts L) (z : xi_Z I0 I R q ts L p) (cm : xi_CM I q its) (wm : xi_WM I q rs) (bd : xi_BD ts L its p) (hb1 : 2 * its.length + 1 ≤ p) (hr : 2 * rs.length ≤ p)
    (h1 : ∀ p' its', xi_cel (xt_kd ts L) (xt_nm ts L) (xt_pl ts L) (xt_en ts L) rs.length 121 0 p its = .inr (p', its') → ∀ I', xi_Z I0 I' R q ts L p' → xi_CM I' q its' → xi_WM I' q (rs ++ [its.length]) → xi_BD ts L its' p' → p < p' → xa_fr (xi_SW q) I I' → Q I' R)
    (h2 : ∀ g, xi_cel (xt_kd ts L) (xt_nm ts L) (xt_pl ts L) (xt_en ts L) rs.length 121 0 p its = .inl g → ∀ I', xs_FS I0 I' q ts L g → Q I' R) : w_ps_row I R Q := by
  have w := cx0.2.2.1
  have hT := w.2.1
  have hL := w.1
  have hq := cx0.2.2.2.2
  have hR := cx0.2.2.2.1
  have hp := z.2.2.2.2.2
  unfold w_ps_row
  refine ⟨q, hR, xc_sh hq, q, hR, xc_sh hq, ?_⟩
  unfold w_ft_addRow
  rw [wm.1, nI_clamp (by omega), cm.1.1]
  refine xa_f (fun hh => by have := (xa_lle 61 (by omega) (by omega)).mp hh; omega) ⟨vp_in_nI (by omega) (by omega), fun I1 e1 => ?_⟩
  have s1 : I1 q 9 = nI rs.length := by rw [e1, xa_p (by omega)]; exact wm.1
  rw [s1, nI_1]
  intro I2 e2
  have hI : ∀ p' k', I2 p' k' = if p' = q ∧ k' = 9 then nI (rs.length + 1) else if p' = q + 24 ∧ k' = rs.length then nI its.length else I p' k' := by
    intro p' k'; rw [e2, xa_w, e1, xa_w]
  have z2 : xi_Z I0 I2 R q ts L p := by rw [e2]; exact xi_Z_p2 (k := 9) (c := 61) (by rw [e1]; exact xi_Z_p1 (a := 24) z (by omega)) (by decide) (by omega)
  have cm2 : xi_CM I2 q its := xi_CM_p cm (fun p a b => funext (fun k => by rw [hI, if_neg (by omega), if_neg (by omega)]))
  have wm2 : xi_WM I2 q (rs ++ [its.length]) := by
    refine ⟨by rw [hI]; simp, fun i v hi => ?_⟩
    rcases xa_app hi with ⟨hi', hlt⟩ | ⟨hi', hv⟩
    · rw [hI, if_neg (by omega), if_neg (by omega)]; exact wm.2 i v hi'
    · rw [hI, if_neg (by omega), if_pos ⟨rfl, hi'⟩, hv]
  have fr2 : xa_fr (xi_SW q) I I2 := by
    intro p' k' hp'
    simp only [xi_SW, Bool.or_eq_false_iff, Bool.and_eq_false_iff, beq_eq_false_iff_ne, decide_eq_false_iff_not] at hp'
    rw [hI, if_neg (by omega), if_neg (by omega)]
  refine xa_a ?_
  obtain ⟨z3, o3⟩ := xi_Z_w4 (v := 0) z2
  refine ⟨121, xi_celC (row := rs.length) cx0 121 0 p its _ (by omega) (by omega) z3 (xi_CM_o8 hq cm2 o3) (by rw [xa_w]; simp) bd hb1 (fun p' its' h I' z' cm' bd' hpp fr' => h1 p' its' h I' z' cm' ?_ bd' hpp (xa_fr_t fr2 (xi_SW_ST (xa_fr_t (xi_ST_o8 o3) fr')))) h2⟩
  have g : ∀ p k, ¬ (p = 108 ∨ (q + 2 ≤ p ∧ p ≤ q + 22)) → I' p k = I2 p k := fun p k hp => by
    rw [fr' p k (by simp only [xi_ST, Bool.or_eq_false_iff, Bool.and_eq_false_iff, beq_eq_false_iff_ne, decide_eq_false_iff_not]; omega), o3 p (by omega)]
  exact xi_WM_fr wm2 (g _ _ (by omega)) (funext (fun k => g _ _ (by omega)))
theorem xi_rwsL {I0 : pI} {R : pR} {q L : Nat} {ts : List (Nat × Nat × Nat × Nat)} {K Q : pI → pR → Prop} (cx0 : xc_CX I0 R q ts L) : ∀ m turn p its rs I, turn + m = 120 → 2 * turn ≤ p → 2 * rs.length ≤ p → xi_Z I0 I R q ts L p → xi_CM I q its → xi_WM I q rs → xi_BD ts L its p →
    (∀ p' its' rs', (if xt_kd ts L p = 59 then xi_rws (xt_kd ts L) (xt_nm ts L) (xt_pl ts L) (xt_en ts L) m (p + 1) its rs else .inr (p, its, rs)) = .inr (p', its', rs') → ∀ I', xi_Z I0 I' R q ts L p' → xi_CM I' q its' → xi_WM I' q rs' → xa_fr (xi_SW q) I I' → K I' R) →
    (∀ g, (if xt_kd ts L p = 59 then xi_rws (xt_kd ts L) (xt_nm ts L) (xt_pl ts L) (xt_en ts L) m (p + 1) its rs else .inr (p, its, rs)) = .inl g → ∀ I', xs_FS I0 I' q ts L g → K I' R) → l_ps_where_79 K Q (m + 1) (nI turn) I R := by
  have w := cx0.2.2.1
  have hT := w.2.1
  have hL := w.1
  have hq := cx0.2.2.2.2
  intro m; induction m with
  | zero => intro turn p its rs I h1 h2 h3 z; have := z.2.2.2.2.2; omega
  | succ m ih =>
    intro turn p its rs I h1 h2 h3 z cm wm bd hK hF
    have hp := z.2.2.2.2.2
    unfold l_ps_where_79
    refine xa_f (fun hh => by have := (xa_lle 120 (by omega) (by omega)).mp hh; omega) ?_
    refine xi_take 59 (by decide) z (fun h59 I1 z1 o1 => ?_) (fun h59 => ?_)
    · refine xa_f (by decide) ?_
      rw [if_pos h59] at hK hF
      refine xi_rowC cx0 z1 (xi_CM_o8 hq cm o1) (xi_WM_fr wm (by rw [o1 _ (by omega)]) (o1 _ (by omega))) (xi_BD_m w bd (by omega)) (by have := bd.2.1; omega) (by omega) (fun p' its' h I2 z2 cm2 wm2 bd2 hpp fr2 => ?_) (fun g hg I2 f2 => ?_)
      · rw [xi_rws_r h] at hK hF
        show l_ps_where_79 _ _ _ (nI turn + 1) _ _
        rw [nI_1]
        refine ih (turn + 1) p' its' (rs ++ [its.length]) I2 (by omega) (by omega) (by simp; omega) z2 cm2 wm2 bd2 (fun p2 its2 rs2 h' I' z' cm' wm' fr' => hK p2 its2 rs2 h' I' z' cm' wm' (xa_fr_t (xi_SW_ST (xi_ST_o8 o1)) (xa_fr_t fr2 fr'))) hF
      · rw [xi_rws_l hg] at hF
        exact xs_rows cx0 f2 (hF g rfl I2 f2)
    · rw [if_neg h59] at hK
      exact xa_t rfl (hK p its rs rfl I z cm wm (xa_fr_r _ _))
theorem xi_hdL {I0 : pI} {R : pR} {q L : Nat} {ts : List (Nat × Nat × Nat × Nat)} {K Q : pI → pR → Prop} (cx0 : xc_CX I0 R q ts L) : ∀ m turn p h I, turn + m = 121 → 2 * turn ≤ p → 2 * h.length ≤ p → xi_Z I0 I R q ts L p → xi_HM I q h →
    (∀ p' h', xi_hd (xt_kd ts L) (xt_nm ts L) (xt_pl ts L) m p h = .inr (p', h') → ∀ I', xi_Z I0 I' R q ts L p' → xi_HM I' q h' → p < p' → xa_fr (fun p k => p == 108 || p == q + 25 || p == q + 26 || (p == q && k == 10)) I I' → K I' R) →
    (∀ g, xi_hd (xt_kd ts L) (xt_nm ts L) (xt_pl ts L) m p h = .inl g → ∀ I', xs_FS I0 I' q ts L g → K I' R) → l_ps_where_10 K Q m 1 (nI turn) I R := by
  have w := cx0.2.2.1
  have hT := w.2.1
  have hL := w.1
  have hq := cx0.2.2.2.2
  have hR := cx0.2.2.2.1
  intro m; induction m with
  | zero => intro turn p h I h1 h2 h3 z; have := z.2.2.2.2.2; omega
  | succ m ih =>
    intro turn p h I h1 h2 h3 z hm hK hF
    have hp := z.2.2.2.2.2
    unfold l_ps_where_10
    refine xa_f (fun hh => by have := (xa_lle 120 (by omega) (by omega)).mp hh; omega) (xa_f (by decide) ⟨q, hR, xc_sh hq, ?_⟩)
    rw [z.2.1, xc_numberOf z.1 (by omega), z.2.1, xc_placeOf z.1 (by omega)]
    unfold w_ft_addColumn
    rw [hm.1, nI_clamp (by omega)]
    refine xa_f (fun hh => by have := (xa_lle 61 (by omega) (by omega)).mp hh; omega) ⟨vp_in_nI (by omega) (by omega), fun I1 e1 => ?_⟩
    have s1 : I1 q 10 = nI h.length := by rw [e1, xa_p (by omega)]; exact hm.1
    rw [s1, nI_clamp (by omega)]
    refine ⟨vp_in_nI (by omega) (by omega), fun I2 e2 => ?_⟩
    have s2 : I2 q 10 = nI h.length := by rw [e2, xa_p (by omega)]; exact s1
    rw [s2, nI_1]
    intro I3 e3
    have hI : ∀ p' k', I3 p' k' = if p' = q ∧ k' = 10 then nI (h.length + 1) else if p' = q + 26 ∧ k' = h.length then nI (xt_pl ts L p) else if p' = q + 25 ∧ k' = h.length then nI (xt_nm ts L p) else I p' k' := by
      intro p' k'; rw [e3, xa_w, e2, xa_w, e1, xa_w]
    have z3 : xi_Z I0 I3 R q ts L p := by rw [e3]; exact xi_Z_p2 (k := 10) (c := 61) (by rw [e2]; exact xi_Z_p1 (a := 26) (by rw [e1]; exact xi_Z_p1 (a := 25) z (by omega)) (by omega)) (by decide) (by omega)
    have hm3 : xi_HM I3 q (h ++ [(xt_nm ts L p, xt_pl ts L p)]) := by
      refine ⟨by rw [hI]; simp, fun i v hi => ?_⟩
      rcases xa_app hi with ⟨hi', hlt⟩ | ⟨hi', hv⟩
      · rw [hI, if_neg (by omega), if_neg (by omega), if_neg (by omega), hI, if_neg (by omega), if_neg (by omega), if_neg (by omega)]; exact hm.2 i v hi'
      · subst hi'; rw [hv]; simp [hI]
    have fr3 : xa_fr (fun p k => p == 108 || p == q + 25 || p == q + 26 || (p == q && k == 10)) I I3 := by
      intro p' k' hp'
      simp only [Bool.or_eq_false_iff, Bool.and_eq_false_iff, beq_eq_false_iff_ne] at hp'
      rw [hI, if_neg (by omega), if_neg (by omega), if_neg (by omega)]
    have o8 : ∀ {J J' : pI}, xi_o8 J J' → xa_fr (fun p k => p == 108 || p == q + 25 || p == q + 26 || (p == q && k == 10)) J J' := fun o p k hp => by
      simp only [Bool.or_eq_false_iff, beq_eq_false_iff_ne] at hp
      rw [o p hp.1.1.1]
    have ho8 : ∀ {J J' : pI} {h}, xi_HM J q h → xi_o8 J J' → xi_HM J' q h := fun hm o => xi_HM_fr hm (by rw [o _ (by omega)]) (o _ (by omega)) (o _ (by omega))
    refine xi_need 259 (by decide) z3 (fun h259 I4 z4 o4 => ?_) (fun h259 I4 f4 => ?_)
    · have hpT := z4.2.2.2.2.2
      refine xi_bar z4 (fun hb I5 z5 o5 _ => ?_) (fun hb => ?_)
      · have e : xi_hd (xt_kd ts L) (xt_nm ts L) (xt_pl ts L) (m + 1) p h = xi_hd (xt_kd ts L) (xt_nm ts L) (xt_pl ts L) m (p + 2) (h ++ [(xt_nm ts L p, xt_pl ts L p)]) := by
          show (if _ then _ else _) = _
          rw [if_neg (fun hh => hh h259), if_pos hb]
        rw [e] at hK hF
        show l_ps_where_10 K Q m 1 (nI turn + 1) I5 R
        rw [nI_1]
        have hp5 := z5.2.2.2.2.2
        exact ih (turn + 1) (p + 2) _ I5 (by omega) (by omega) (by simp; omega) z5 (ho8 (ho8 hm3 o4) o5) (fun p' h' e' I' z' hm' hpp fr' => hK p' h' e' I' z' hm' (by omega) (xa_fr_t fr3 (xa_fr_t (o8 o4) (xa_fr_t (o8 o5) fr')))) hF
      · have e : xi_hd (xt_kd ts L) (xt_nm ts L) (xt_pl ts L) (m + 1) p h = .inr (p + 1, h ++ [(xt_nm ts L p, xt_pl ts L p)]) := by
          show (if _ then _ else _) = _
          rw [if_neg (fun hh => hh h259), if_neg hb]
        obtain ⟨m', rfl⟩ : ∃ m', m = m' + 1 := ⟨m - 1, by omega⟩
        exact xs_head (I0 := I0) (q := q) (L := L) (f := 0) (ts := ts) (hK _ _ e I4 z4 (ho8 hm3 o4) (by omega) (xa_fr_t fr3 (o8 o4)))
    · have e : xi_hd (xt_kd ts L) (xt_nm ts L) (xt_pl ts L) (m + 1) p h = .inl p := by
        show (if _ then _ else _) = _
        rw [if_pos h259]
      obtain ⟨m', rfl⟩ : ∃ m', m = m' + 1 := ⟨m - 1, by omega⟩
      exact xs_bar cx0 f4 (xs_head (I0 := I0) (q := q) (L := L) (f := 0) (ts := ts) (hF p e I4 f4))
theorem xi_tabC {I0 I : pI} {R : pR} {q L p : Nat} {its : List xi_I} {ts : List (Nat × Nat × Nat × Nat)} {Q : pI → pR → Prop} (cx0 : xc_CX I0 R q ts L) (z : xi_Z I0 I R q ts L p) (cm : xi_CM I q its) (hm : xi_HM I q []) (wm : xi_WM I q []) (bd : xi_BD ts L its p)
    (h1 : ∀ p' its' h rs, xi_tab (xt_kd ts L) (xt_nm ts L) (xt_pl ts L) (xt_en ts L) p its = .inr (p', its', h, rs) → ∀ I', xi_Z I0 I' R q ts L p' → xi_CM I' q its' → xi_HM I' q h → xi_WM I' q rs → I' q 8 = I q 8 → I' (q + 23) = I (q + 23) → I' (q + 1) = I (q + 1) → Q I' R)
    (h2 : ∀ g, xi_tab (xt_kd ts L) (xt_nm ts L) (xt_pl ts L) (xt_en ts L) p its = .inl g → ∀ I', xs_FS I0 I' q ts L g → Q I' R) : w_ps_where I R Q := by
  have w := cx0.2.2.1
  have hT := w.2.1
  have hL := w.1
  have hq := cx0.2.2.2.2
  have hR := cx0.2.2.2.1
  have hp := z.2.2.2.2.2
  unfold w_ps_where
  refine xi_need 58 (by decide) z (fun h58 I1 z1 o1 => ⟨121, ?_⟩) (fun h58 I1 f1 => ?_)
  · refine xi_hdL cx0 121 0 (p + 1) [] I1 (by omega) (by omega) (by simp) z1 (xi_HM_fr hm (by rw [o1 _ (by omega)]) (o1 _ (by omega)) (o1 _ (by omega))) (fun p2 h hh I2 z2 hm2 hpp fr2 => ?_) (fun g hg I2 f2 => ?_)
    · have g2 : ∀ p k, ¬ (p = 108 ∨ p = q + 25 ∨ p = q + 26 ∨ (p = q ∧ k = 10)) → I2 p k = I p k := fun p k hp => by
        rw [fr2 p k (by simp only [Bool.or_eq_false_iff, Bool.and_eq_false_iff, beq_eq_false_iff_ne]; omega), o1 p (by omega)]
      have cm2 : xi_CM I2 q its := xi_CM_p cm (fun p a b => funext (fun k => g2 p k (by omega)))
      have wm2 : xi_WM I2 q [] := xi_WM_fr wm (g2 _ _ (by omega)) (funext (fun k => g2 _ _ (by omega)))
      have hp2 := z2.2.2.2.2.2
      refine xi_need 59 (by decide) z2 (fun h59 I3 z3 o3 => ?_) (fun h59 I3 f3 => ?_)
      · have e0 : xi_tab (xt_kd ts L) (xt_nm ts L) (xt_pl ts L) (xt_en ts L) p its = (match xi_rws (xt_kd ts L) (xt_nm ts L) (xt_pl ts L) (xt_en ts L) 121 (p2 + 1) its [] with
            | .inl f => .inl f
            | .inr (q', a', rs) => .inr (q', a', h, rs)) := by
          unfold xi_tab
          rw [if_neg (fun hh => hh h58), hh]
          show (if _ then _ else _) = _
          rw [if_neg (fun hh => hh h59)]
          rcases xi_rws (xt_kd ts L) (xt_nm ts L) (xt_pl ts L) (xt_en ts L) 121 (p2 + 1) its [] with f | ⟨q', a', rs⟩ <;> rfl
        have bd3 := xi_BD_m w bd (show p ≤ p2 + 1 by omega)
        refine xi_rowC cx0 z3 (xi_CM_o8 hq cm2 o3) (xi_WM_fr wm2 (by rw [o3 _ (by omega)]) (o3 _ (by omega))) bd3 (by have := bd.2.1; omega) (by simp) (fun p4 its4 h4 I4 z4 cm4 wm4 bd4 hpp4 fr4 => ?_) (fun g hg I4 f4 => ?_)
        · have e4 := xi_rws_r (m := 120) h4
          refine ⟨121, xi_rwsL cx0 120 0 p4 its4 _ I4 (by omega) (by omega) (by simp; omega) z4 cm4 wm4 bd4 (fun p5 its5 rs5 h5 I5 z5 cm5 wm5 fr5 => ?_) (fun g hg I5 f5 => ?_)⟩
          · have g5 : ∀ p k, ¬ (p = 108 ∨ (q + 2 ≤ p ∧ p ≤ q + 22) ∨ p = q + 24 ∨ (p = q ∧ k = 9)) → I5 p k = I2 p k := fun p k hp => by
              rw [fr5 p k (by simp only [xi_SW, Bool.or_eq_false_iff, Bool.and_eq_false_iff, beq_eq_false_iff_ne, decide_eq_false_iff_not]; omega), fr4 p k (by simp only [xi_SW, Bool.or_eq_false_iff, Bool.and_eq_false_iff, beq_eq_false_iff_ne, decide_eq_false_iff_not]; omega), o3 p (by omega)]
            refine h1 p5 its5 h rs5 ?_ I5 z5 cm5 (xi_HM_fr hm2 (g5 _ _ (by omega)) (funext (fun k => g5 _ _ (by omega))) (funext (fun k => g5 _ _ (by omega)))) wm5 ?_ ?_ ?_
            · rw [e0, show (121 : Nat) = 120 + 1 from rfl, e4, h5]
            · rw [g5 _ _ (by omega), g2 _ _ (by omega)]
            · exact funext (fun k => by rw [g5 _ _ (by omega), g2 _ _ (by omega)])
            · exact funext (fun k => by rw [g5 _ _ (by omega), g2 _ _ (by omega)])
          · exact h2 g (by rw [e0, show (121 : Nat) = 120 + 1 from rfl, e4, hg]) I5 f5
        · have := h2 g (by rw [e0, show (121 : Nat) = 120 + 1 from rfl, xi_rws_l hg]) I4 f4
          exact ⟨1, xs_rows cx0 f4 this⟩
      · have e0 : xi_tab (xt_kd ts L) (xt_nm ts L) (xt_pl ts L) (xt_en ts L) p its = .inl p2 := by
          unfold xi_tab
          rw [if_neg (fun hh => hh h58), hh]
          show (if _ then _ else _) = _
          rw [if_pos h59]
        exact xs_row cx0 f3 (fun I4 f4 => ⟨1, xs_rows cx0 f4 (h2 p2 e0 I4 f4)⟩)
    · have e0 : xi_tab (xt_kd ts L) (xt_nm ts L) (xt_pl ts L) (xt_en ts L) p its = .inl g := by
        unfold xi_tab
        rw [if_neg (fun hh => hh h58), hg]
      exact xs_whereR cx0 f2 (h2 g e0)
  · have e0 : xi_tab (xt_kd ts L) (xt_nm ts L) (xt_pl ts L) (xt_en ts L) p its = .inl p := by
      unfold xi_tab; rw [if_pos h58]
    -- failed before the header
    obtain ⟨p1, hp1, hn1, hbad1, hw1⟩ := xs_pos f1
    have cx1 := xs_cx cx0 f1
    refine ⟨2, ?_⟩
    unfold l_ps_where_10
    refine xa_f (by decide) (xa_f (by decide) ⟨q, hR, xc_sh hq, ?_⟩)
    rw [hn1, xc_numberOf cx1 (by omega), hn1, xc_placeOf cx1 (by omega)]
    exact xs_column hq f1 (fun I2 f2 => xs_need 259 (by decide) cx0 f2 (fun I3 f3 => xs_bar cx0 f3 (xs_head (I0 := I0) (q := q) (L := L) (f := p) (ts := ts) (xs_whereR cx0 f3 (h2 p e0)))))
