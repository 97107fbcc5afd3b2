theorem xi_sts_r {kd nm pl en : Nat → Nat} {part k m p q : Nat} {it : xi_I} {a : List xi_I} (h : xi_st kd nm pl en part k p = .inr (q, it)) : xi_sts kd nm pl en part k (m + 1) p a = (if kd q = 59 then xi_sts kd nm pl en part k m (q + 1) (a ++ [it]) else .inr (q, a ++ [it])) := by
  rw [xi_sts, h]
theorem xi_sts_l {kd nm pl en : Nat → Nat} {part k m p g : Nat} {a : List xi_I} (h : xi_st kd nm pl en part k p = .inl g) : xi_sts kd nm pl en part k (m + 1) p a = .inl g := by
  rw [xi_sts, h]
theorem xi_st_len {ts : List (Nat × Nat × Nat × Nat)} {L p p' k part : Nat} {it : xi_I} (w : xt_WF ts L) (hp : p ≤ ts.length) (hk : k ≤ 4) (h : xi_st (xt_kd ts L) (xt_nm ts L) (xt_pl ts L) (xt_en ts L) part k p = .inr (p', it)) :
    p < p' ∧ p' ≤ ts.length ∧ (xi_x it).1.length + xt_pl ts L p ≤ xt_pl ts L p' ∧ (xi_x it).2.1.length + xt_pl ts L p ≤ xt_pl ts L p' ∧ (xi_k it = 7 → p + 6 + 2 * (xi_an (xi_ru it)).length ≤ p') := by
  have mono := fun i j h => xt_pl_mono w i j h
  unfold xi_st at h
  by_cases c1 : k = 4 ∧ xt_kd ts L p = 88
  · rw [if_pos c1] at h; cases h
    have := xt_kd_lt w (i := p) (by omega)
    have m := mono p (p + 1) (by omega)
    refine ⟨by omega, by omega, ?_, ?_, fun h => by have h' : 5 = 7 := h; omega⟩ <;> (show 0 + _ ≤ _; omega)
  rw [if_neg c1] at h
  by_cases c2 : k = 4 ∧ xt_kd ts L p = 33 ∧ xt_kd ts L (p + 1) = 88
  · rw [if_pos c2] at h; cases h
    have := xt_kd_lt w (i := p + 1) (by omega)
    have m := mono p (p + 2) (by omega)
    refine ⟨by omega, by omega, ?_, ?_, fun h => by have h' : 6 = 7 := h; omega⟩ <;> (show 0 + _ ≤ _; omega)
  rw [if_neg c2] at h
  by_cases c3 : k = 4 ∧ xi_isR (xt_kd ts L) p = true
  · rw [if_pos c3] at h
    cases hr : xi_rul (xt_kd ts L) (xt_nm ts L) p with
    | inl g => rw [hr] at h; cases h
    | inr z =>
      obtain ⟨q, ru⟩ := z
      rw [hr] at h; cases h
      have hl := xi_rul_len w hp hr
      have m := mono p p' (by omega)
      refine ⟨by omega, by omega, ?_, ?_, fun _ => hl.1⟩ <;> (show 0 + _ ≤ _; omega)
  rw [if_neg c3] at h
  by_cases c4 : k ≤ 2 ∧ xt_kd ts L p = 259 ∧ xt_kd ts L (p + 1) = 61
  · rw [if_pos c4] at h
    cases hx : xp_P (xt_kd ts L) (xt_nm ts L) (xt_pl ts L) 64 0 0 0 false (p + 2) with
    | inl g => rw [hx] at h; cases h
    | inr z =>
      obtain ⟨q, x⟩ := z
      rw [hx] at h; cases h
      have hl := xp_len w (by omega) (by omega) hx
      have m := mono p (p + 2) (by omega)
      refine ⟨by omega, by omega, ?_, ?_, fun h7 => absurd (show k = 7 from h7) (by omega)⟩
      · show x.1.length + _ ≤ _; omega
      · show x.2.1.length + _ ≤ _; omega
  · rw [if_neg c4] at h
    cases hx : xp_P (xt_kd ts L) (xt_nm ts L) (xt_pl ts L) 64 0 0 0 (decide (k = 4)) p with
    | inl g => rw [hx] at h; cases h
    | inr z =>
      obtain ⟨q, x⟩ := z
      rw [hx] at h; cases h
      have hl := xp_len w (by omega) (by omega) hx
      refine ⟨by omega, by omega, ?_, ?_, fun h7 => absurd (show k = 7 from h7) (by omega)⟩
      · show x.1.length + _ ≤ _; omega
      · show x.2.1.length + _ ≤ _; omega
theorem xi_BD_m {ts : List (Nat × Nat × Nat × Nat)} {L p p' : Nat} {its : List xi_I} (w : xt_WF ts L) (bd : xi_BD ts L its p) (h : p ≤ p') : xi_BD ts L its p' := by
  obtain ⟨a, b, c, d⟩ := bd
  have := xt_pl_mono w p p' h
  exact ⟨by omega, by omega, by omega, by omega⟩
theorem xi_BD_add {ts : List (Nat × Nat × Nat × Nat)} {L p p' : Nat} {it : xi_I} {its : List xi_I} (bd : xi_BD ts L its p) (h1 : 2 * its.length + 1 ≤ p) (hlt : p < p') (hx : (xi_x it).1.length + xt_pl ts L p ≤ xt_pl ts L p') (h7 : xi_k it = 7 → p + 6 + 2 * (xi_an (xi_ru it)).length ≤ p') : xi_BD ts L (its ++ [it]) p' := by
  obtain ⟨a, b, c, d⟩ := bd
  refine ⟨?_, ?_, ?_, ?_⟩
  · rw [xi_C_app, xi_C_one, List.length_append]; omega
  · rw [List.length_append, List.length_singleton]; omega
  · by_cases h : xi_k it = 7
    · rw [xi_rs_y h, List.length_append, List.length_singleton]; have := h7 h; omega
    · rw [xi_rs_n h]; omega
  · by_cases h : xi_k it = 7
    · rw [xi_rs_y h, List.flatMap_append, List.length_append]; have := h7 h; simp; simp at d; omega
    · rw [xi_rs_n h]; omega
theorem xi_blkL {I0 : pI} {R : pR} {q L k part : Nat} {ts : List (Nat × Nat × Nat × Nat)} {K Q : pI → pR → Prop} (cx0 : xc_CX I0 R q ts L) (hk : k ≤ 4) : ∀ m turn p its I, turn + m = 120 → 2 * turn ≤ p → xi_Z I0 I R q ts L p → xi_CM I q its → xi_BD ts L its p →
    (∀ p' its', (if xt_kd ts L p = 59 then xi_sts (xt_kd ts L) (xt_nm ts L) (xt_pl ts L) (xt_en ts L) part k m (p + 1) its else .inr (p, its)) = .inr (p', its') → ∀ I', xi_Z I0 I' R q ts L p' → xi_CM I' q its' → xi_BD ts L its' p' → p ≤ p' → xa_fr (xi_ST q) I I' → K I' R) →
    (∀ g, (if xt_kd ts L p = 59 then xi_sts (xt_kd ts L) (xt_nm ts L) (xt_pl ts L) (xt_en ts L) part k m (p + 1) its else .inr (p, its)) = .inl g → ∀ I', xs_FS I0 I' q ts L g → K I' R) → l_ps_block_13 (nI k) K Q (m + 1) (nI turn) I R := by
  have w := cx0.2.2.1
  have hT := w.2.1
  have hL := w.1
  have hq := cx0.2.2.2.2
  intro m; induction m with
  | zero => intro turn p its I h1 h2 z; have := z.2.2.2.2.2; omega
  | succ m ih =>
    intro turn p its I h1 h2 z cm bd hK hF
    have hp := z.2.2.2.2.2
    unfold l_ps_block_13
    refine xa_f (fun hh => by have := (xa_lle 120 (by omega) (by omega)).mp hh; omega) ?_
    refine xi_take 59 (by decide) z (fun h59 I1 z1 o1 => ?_) (fun h59 => ?_)
    · refine xa_f (by decide) ?_
      rw [if_pos h59] at hK hF
      have cm1 : xi_CM I1 q its := by
        obtain ⟨⟨a1, a2⟩, b, c, d⟩ := cm
        refine ⟨⟨by rw [o1 _ (by omega)]; exact a1, xi_SO_fr a2 (fun p k h1 h2 _ => by rw [o1 p (by omega)])⟩, by rw [o1 _ (by omega)]; exact b, fun i e hi => ?_, xi_RM_o8 hq d o1⟩
        rw [o1 _ (by omega), o1 _ (by omega), o1 _ (by omega), o1 _ (by omega)]; exact c i e hi
      have bd1 := xi_BD_m w bd (show p ≤ p + 1 by omega)
      have hp1 := z1.2.2.2.2.2
      refine xi_stC (part := part) cx0 z1 cm1 hk bd1 (fun p' it hit I2 z2 cm2 fr2 => ?_) (fun g hg I2 f2 => ?_)
      · have hl := xi_st_len w hp1 hk hit
        have bd2 := xi_BD_add bd1 (by have := bd.2.1; omega) hl.1 hl.2.2.1 hl.2.2.2.2
        show l_ps_block_13 _ _ _ _ (nI turn + 1) _ _
        rw [nI_1]
        have e : xi_sts (xt_kd ts L) (xt_nm ts L) (xt_pl ts L) (xt_en ts L) part k (m + 1) (p + 1) its = (if xt_kd ts L p' = 59 then xi_sts (xt_kd ts L) (xt_nm ts L) (xt_pl ts L) (xt_en ts L) part k m (p' + 1) (its ++ [it]) else .inr (p', its ++ [it])) := xi_sts_r hit
        rw [e] at hK hF
        exact ih (turn + 1) p' (its ++ [it]) I2 (by omega) (by omega) z2 cm2 bd2 (fun p2 its2 h I' z' cm' bd' hpp fr' => hK p2 its2 h I' z' cm' bd' (by omega) (xa_fr_t (xi_ST_o8 o1) (xa_fr_t fr2 fr'))) hF
      · have e : xi_sts (xt_kd ts L) (xt_nm ts L) (xt_pl ts L) (xt_en ts L) part k (m + 1) (p + 1) its = .inl g := xi_sts_l hg
        rw [e] at hF
        unfold l_ps_block_13
        have := hF g rfl I2 f2
        exact ⟨fun _ => this, fun _ => xs_take 59 (by decide) cx0 f2 (xa_t rfl this)⟩
    · rw [if_neg h59] at hK
      exact xa_t rfl (hK p its rfl I z cm bd (Nat.le_refl _) (xa_fr_r _ _))
theorem xi_CM_o8 {I I' : pI} {q : Nat} {its : List xi_I} (hq : q = 54 ∨ q = 81) (cm : xi_CM I q its) (o1 : xi_o8 I I') : xi_CM I' q its := by
  obtain ⟨⟨a1, a2⟩, b, c, d⟩ := cm
  refine ⟨⟨by rw [o1 _ (by omega)]; exact a1, xi_SO_fr a2 (fun p k h1 h2 _ => by rw [o1 p (by omega)])⟩, by rw [o1 _ (by omega)]; exact b, fun i e hi => ?_, xi_RM_o8 hq d o1⟩
  rw [o1 _ (by omega), o1 _ (by omega), o1 _ (by omega), o1 _ (by omega)]; exact c i e hi
theorem xi_blkC {I0 I : pI} {R : pR} {q L k part p : Nat} {its : List xi_I} {ts : List (Nat × Nat × Nat × Nat)} {Q : pI → pR → Prop} (cx0 : xc_CX I0 R q ts L) (hk : k ≤ 4) (z : xi_Z I0 I R q ts L p) (cm : xi_CM I q its) (bd : xi_BD ts L its p)
    (h1 : ∀ p' its', xi_blk (xt_kd ts L) (xt_nm ts L) (xt_pl ts L) (xt_en ts L) part k p its = .inr (p', its') → ∀ I', xi_Z I0 I' R q ts L p' → xi_CM I' q its' → xi_BD ts L its' p' → p + 2 ≤ p' → xa_fr (xi_ST q) I I' → Q I' R)
    (h2 : ∀ g, xi_blk (xt_kd ts L) (xt_nm ts L) (xt_pl ts L) (xt_en ts L) part k p its = .inl g → ∀ I', xs_FS I0 I' q ts L g → Q I' R) : w_ps_block (nI k) I R Q := by
  have w := cx0.2.2.1
  have hT := w.2.1
  have hL := w.1
  have hq := cx0.2.2.2.2
  have hp := z.2.2.2.2.2
  unfold w_ps_block
  refine xi_need 58 (by decide) z (fun h58 I1 z1 o1 => ?_) (fun h58 I1 f1 => ?_)
  · have cm1 := xi_CM_o8 hq cm o1
    have bd1 := xi_BD_m w bd (show p ≤ p + 1 by omega)
    have hp1 := z1.2.2.2.2.2
    have e0 : xi_blk (xt_kd ts L) (xt_nm ts L) (xt_pl ts L) (xt_en ts L) part k p its = xi_sts (xt_kd ts L) (xt_nm ts L) (xt_pl ts L) (xt_en ts L) part k 121 (p + 1) its := by
      unfold xi_blk; rw [if_neg (fun hh => hh h58)]
    rw [e0] at h1 h2
    refine xi_stC (part := part) cx0 z1 cm1 hk bd1 (fun p' it hit I2 z2 cm2 fr2 => ?_) (fun g hg I2 f2 => ?_)
    · have hl := xi_st_len w hp1 hk hit
      have bd2 := xi_BD_add bd1 (by have := bd.2.1; omega) hl.1 hl.2.2.1 hl.2.2.2.2
      have e : xi_sts (xt_kd ts L) (xt_nm ts L) (xt_pl ts L) (xt_en ts L) part k 121 (p + 1) its = (if xt_kd ts L p' = 59 then xi_sts (xt_kd ts L) (xt_nm ts L) (xt_pl ts L) (xt_en ts L) part k 120 (p' + 1) (its ++ [it]) else .inr (p', its ++ [it])) := xi_sts_r hit
      rw [e] at h1 h2
      exact ⟨121, xi_blkL (part := part) cx0 hk 120 0 p' (its ++ [it]) I2 (by omega) (by omega) z2 cm2 bd2 (fun p2 its2 h I' z' cm' bd' hpp fr' => h1 p2 its2 h I' z' cm' bd' (by omega) (xa_fr_t (xi_ST_o8 o1) (xa_fr_t fr2 fr'))) h2⟩
    · have e : xi_sts (xt_kd ts L) (xt_nm ts L) (xt_pl ts L) (xt_en ts L) part k 121 (p + 1) its = .inl g := xi_sts_l hg
      rw [e] at h2
      refine ⟨1, ?_⟩
      unfold l_ps_block_13
      have := h2 g rfl I2 f2
      exact ⟨fun _ => this, fun _ => xs_take 59 (by decide) cx0 f2 (xa_t rfl this)⟩
  · have e0 : xi_blk (xt_kd ts L) (xt_nm ts L) (xt_pl ts L) (xt_en ts L) part k p its = .inl p := by
      unfold xi_blk; rw [if_pos h58]
    refine xs_statement cx0 f1 (fun I2 f2 => ⟨1, ?_⟩)
    unfold l_ps_block_13
    have := h2 p e0 I2 f2
    exact ⟨fun _ => this, fun _ => xs_take 59 (by decide) cx0 f2 (xa_t rfl this)⟩
/-! parts -/
def xi_PM (I : pI) (q : Nat) (st : List Nat) (e : Nat) : Prop := I q 8 = nI st.length ∧ (∀ i v, st[i]? = some v → I (q + 23) i = nI v) ∧ I (q + 23) st.length = nI e
theorem xi_PM_fr {I I' : pI} {q e : Nat} {st : List Nat} (h : xi_PM I q st e) (f0 : I' q 8 = I q 8) (f : I' (q + 23) = I (q + 23)) : xi_PM I' q st e := ⟨f0.trans h.1, fun i v hi => by rw [f]; exact h.2.1 i v hi, by rw [f]; exact h.2.2⟩
def xi_SP (q p k : Nat) : Bool := p == 108 || (decide (q + 2 ≤ p) && decide (p ≤ q + 23)) || (p == q && k == 8)
theorem xi_SP_ST {q : Nat} {I I' : pI} (h : xa_fr (xi_ST q) I I') : xa_fr (xi_SP q) I I' := xa_fr_m h (fun p k hp => by
  simp only [xi_ST, xi_SP, Bool.or_eq_false_iff, Bool.and_eq_false_iff, beq_eq_false_iff_ne, decide_eq_false_iff_not] at hp ⊢; omega)
theorem xi_CM_p {I I' : pI} {q : Nat} {its : List xi_I} (cm : xi_CM I q its) (o1 : ∀ p, q + 2 ≤ p → p ≤ q + 22 → I' p = I p) : xi_CM I' q its := by
  obtain ⟨⟨a1, a2⟩, b, c, d⟩ := cm
  refine ⟨⟨by rw [o1 _ (by omega) (by omega)]; exact a1, xi_SO_fr a2 (fun p k h1 h2 _ => by rw [o1 p (by omega) (by omega)])⟩, by rw [o1 _ (by omega) (by omega)]; exact b, fun i e hi => ?_, xi_RM_fr d (fun p h1 h2 => o1 p (by omega) h2)⟩
  rw [o1 _ (by omega) (by omega), o1 _ (by omega) (by omega), o1 _ (by omega) (by omega), o1 _ (by omega) (by omega)]; exact c i e hi
theorem xi_Z_p1 {I0 I : pI} {R : pR} {q L p a k : Nat} {v : Int32} {ts : List (Nat × Nat × Nat × Nat)} (z : xi_Z I0 I R q ts L p) (ha : 23 ≤ a ∧ a ≤ 26) : xi_Z I0 (pw_wI I (q + a) k v) R q ts L p := by
  obtain ⟨cx, h1, h2, h3, h4, h5⟩ := z
  have hq := cx.2.2.2.2
  have fr : xa_fr (xs_S q) I (pw_wI I (q + a) k v) := xa_fr_w (xa_fr_r _ _) (by simp only [xs_S, Bool.or_eq_true, Bool.and_eq_true, decide_eq_true_eq]; omega)
  refine ⟨xc_CX_fr cx fr (xs_S_tk hq), by rw [xa_p (by omega)]; exact h1, by rw [xa_p (by omega)]; exact h2, fun e he => ?_, xa_fr_t h4 fr, h5⟩
  have := xs_caps_lt e he
  rw [xa_p (by omega)]; exact h3 e he
theorem xi_Z_p2 {I0 I : pI} {R : pR} {q L p k c s : Nat} {ts : List (Nat × Nat × Nat × Nat)} (z : xi_Z I0 I R q ts L p) (he : (0, k, c) ∈ xs_caps) (hs : s ≤ c) : xi_Z I0 (pw_wI I q k (nI s)) R q ts L p := by
  obtain ⟨cx, h1, h2, h3, h4, h5⟩ := z
  have hq := cx.2.2.2.2
  have fr : xa_fr (xs_S q) I (pw_wI I q k (nI s)) := xa_fr_w (xa_fr_r _ _) (by simp only [xs_S, Bool.or_eq_true, Bool.and_eq_true, decide_eq_true_eq]; omega)
  refine ⟨xc_CX_fr cx fr (xs_S_tk hq), by rw [xa_p (by omega)]; exact h1, by rw [xa_p (by omega)]; exact h2, fun e he' => ?_, xa_fr_t h4 fr, h5⟩
  rw [xa_w]
  by_cases hh : q + e.1 = q ∧ e.2.1 = k
  · rw [if_pos hh]
    refine ⟨s, ?_, rfl⟩
    have key : ∀ e1, e1 ∈ xs_caps → ∀ e2, e2 ∈ xs_caps → e1.1 = e2.1 → e1.2.1 = e2.2.1 → e1.2.2 = e2.2.2 := by decide
    have := key _ he' _ he (show e.1 = 0 by omega) hh.2
    rw [this]; exact hs
  · rw [if_neg hh]; exact h3 e he'
theorem xi_prtC {I0 I : pI} {R : pR} {q L p e : Nat} {st : List Nat} {its : List xi_I} {ts : List (Nat × Nat × Nat × Nat)} {Q : pI → pR → Prop} (cx0 : xc_CX I0 R q ts L) (z : xi_Z I0 I R q ts L p) (cm : xi_CM I q its) (pm : xi_PM I q st e) (bd : xi_BD ts L its p) (h3 : 3 * st.length ≤ p)
    (h1 : ∀ p' its', xi_prt (xt_kd ts L) (xt_nm ts L) (xt_pl ts L) (xt_en ts L) st.length p its = .inr (p', its') → ∀ I', xi_Z I0 I' R q ts L p' → xi_CM I' q its' → xi_PM I' q (st ++ [its.length]) its'.length → xi_BD ts L its' p' → p + 3 ≤ p' → xa_fr (xi_SP q) I I' → Q I' R)
    (h2 : ∀ g, xi_prt (xt_kd ts L) (xt_nm ts L) (xt_pl ts L) (xt_en ts L) st.length p its = .inl g → ∀ I', xs_FS I0 I' q ts L g → Q I' R) : w_ps_part I R Q := by
  have w := cx0.2.2.1
  have hT := w.2.1
  have hL := w.1
  have hq := cx0.2.2.2.2
  have hR := cx0.2.2.2.1
  have hp := z.2.2.2.2.2
  unfold w_ps_part w_ft_openPart
  refine ⟨q, hR, xc_sh hq, ?_⟩
  rw [pm.1, cm.1.1]
  refine xc_put (by decide) (by omega) ?_
  have z1 := xi_Z_p1 (a := 23) (k := st.length) (v := nI its.length) z (by omega)
  have hP : ∀ p' k', (pw_wI I (q + 23) st.length (nI its.length)) p' k' = if p' = q + 23 ∧ k' = st.length then nI its.length else I p' k' := fun p' k' => xa_w _ _ _ _ _ _
  have cm1 : xi_CM (pw_wI I (q + 23) st.length (nI its.length)) q its := xi_CM_p cm (fun p a b => xa_p (by omega))
  have fr1 : xa_fr (xi_SP q) I (pw_wI I (q + 23) st.length (nI its.length)) := xa_fr_w (xa_fr_r _ _) (by simp [xi_SP])
  generalize pw_wI I (q + 23) st.length (nI its.length) = I1 at z1 hP cm1 fr1 ⊢
  have clo : ∀ p' its' I2, xi_prt (xt_kd ts L) (xt_nm ts L) (xt_pl ts L) (xt_en ts L) st.length p its = .inr (p', its') → p + 3 ≤ p' → xi_Z I0 I2 R q ts L p' → xi_CM I2 q its' → xi_BD ts L its' p' → xa_fr (xi_ST q) I1 I2 → w_ft_closePart q I2 R Q := by
    intro p' its' I2 he hpp z2 cm2 bd2 fr2
    have hp2 := z2.2.2.2.2.2
    have g8 : I2 q 8 = nI st.length := by
      rw [fr2 _ _ (by simp only [xi_ST, Bool.or_eq_false_iff, Bool.and_eq_false_iff, beq_eq_false_iff_ne, decide_eq_false_iff_not]; omega), hP, if_neg (by omega)]; exact pm.1
    have g23 : ∀ k, I2 (q + 23) k = I1 (q + 23) k := fun k => fr2 _ _ (by simp only [xi_ST, Bool.or_eq_false_iff, Bool.and_eq_false_iff, beq_eq_false_iff_ne, decide_eq_false_iff_not]; omega)
    unfold w_ft_closePart
    rw [g8, nI_1]
    refine xa_f (fun hh => by have := (xa_lle 41 (by omega) (by omega)).mp hh; omega) (xa_a ?_)
    have z3 := xi_Z_p2 (k := 8) (c := 41) (s := st.length + 1) z2 (by decide) (by omega)
    have cm3 : xi_CM (pw_wI I2 q 8 (nI (st.length + 1))) q its' := xi_CM_p cm2 (fun p a b => xa_p (by omega))
    rw [show (pw_wI I2 q 8 (nI (st.length + 1))) q 8 = nI (st.length + 1) by rw [xa_w]; simp, cm3.1.1]
    refine xc_put (by decide) (by omega) ?_
    refine h1 p' its' he _ (xi_Z_p1 (a := 23) z3 (by omega)) (xi_CM_p cm3 (fun p a b => xa_p (by omega))) ⟨?_, fun i v hi => ?_, ?_⟩ bd2 hpp (xa_fr_t fr1 (xa_fr_t (xi_SP_ST fr2) (xa_fr_w (xa_fr_w (xa_fr_r _ _) (by simp [xi_SP])) (by simp [xi_SP]))))
    · rw [xa_w, if_neg (by omega), xa_w]; simp
    · rw [xa_w]
      rcases xa_app hi with ⟨hi', hlt⟩ | ⟨hi', hv⟩
      · rw [if_neg (by omega), xa_w, if_neg (by omega), g23, hP, if_neg (by omega)]; exact pm.2.1 i v hi'
      · rw [if_neg (by omega), xa_w, if_neg (by omega), g23, hP, if_pos ⟨rfl, hi'⟩, hv]
    · rw [xa_w]; simp
  refine xi_take 69 (by decide) z1 (fun h69 I2 z2 o2 => ?_) (fun h69 => ?_)
  · refine xa_f (by decide) ?_
    have e : xi_prt (xt_kd ts L) (xt_nm ts L) (xt_pl ts L) (xt_en ts L) st.length p its = xi_blk (xt_kd ts L) (xt_nm ts L) (xt_pl ts L) (xt_en ts L) st.length 3 (p + 1) its := by
      unfold xi_prt; rw [if_pos h69]
    refine xi_blkC (part := st.length) (k := 3) cx0 (by omega) z2 (xi_CM_o8 hq cm1 o2) (xi_BD_m w bd (by omega)) (fun p' its' h I3 z3 cm3 bd3 hpp fr3 => ?_) (fun g hg I3 f3 => ?_)
    · exact ⟨q, hR, xc_sh hq, clo p' its' I3 (e.trans h) (by omega) z3 cm3 bd3 (xa_fr_t (xi_ST_o8 o2) fr3)⟩
    · exact ⟨q, hR, xc_sh hq, xs_closePart hq f3 (h2 g (e.trans hg))⟩
  · refine xa_t rfl ?_
    refine xi_need 87 (by decide) z1 (fun h87 I2 z2 o2 => ?_) (fun h87 I2 f2 => ?_)
    · refine xi_blkC (part := st.length) (k := 1) cx0 (by omega) z2 (xi_CM_o8 hq cm1 o2) (xi_BD_m w bd (by omega)) (fun p' its' h I3 z3 cm3 bd3 hpp fr3 => ?_) (fun g hg I3 f3 => ?_)
      · have hp3 := z3.2.2.2.2.2
        refine xi_need 84 (by decide) z3 (fun h84 I4 z4 o4 => ?_) (fun h84 I4 f4 => ?_)
        · have e : xi_prt (xt_kd ts L) (xt_nm ts L) (xt_pl ts L) (xt_en ts L) st.length p its = xi_blk (xt_kd ts L) (xt_nm ts L) (xt_pl ts L) (xt_en ts L) st.length 4 (p' + 1) its' := by
            unfold xi_prt; rw [if_neg h69, if_neg (fun hh => hh h87), h]
            show (if _ then _ else _) = _
            rw [if_neg (fun hh => hh h84)]
          refine xi_blkC (part := st.length) (k := 4) cx0 (by omega) z4 (xi_CM_o8 hq cm3 o4) (xi_BD_m w bd3 (by omega)) (fun p2 its2 h' I5 z5 cm5 bd5 hpp5 fr5 => ?_) (fun g hg I5 f5 => ?_)
          · exact ⟨q, hR, xc_sh hq, clo p2 its2 I5 (e.trans h') (by omega) z5 cm5 bd5 (xa_fr_t (xi_ST_o8 o2) (xa_fr_t fr3 (xa_fr_t (xi_ST_o8 o4) fr5)))⟩
          · exact ⟨q, hR, xc_sh hq, xs_closePart hq f5 (h2 g (e.trans hg))⟩
        · have e : xi_prt (xt_kd ts L) (xt_nm ts L) (xt_pl ts L) (xt_en ts L) st.length p its = .inl p' := by
            unfold xi_prt; rw [if_neg h69, if_neg (fun hh => hh h87), h]
            show (if _ then _ else _) = _
            rw [if_pos h84]
          exact xs_block cx0 f4 (fun I5 f5 => ⟨q, hR, xc_sh hq, xs_closePart hq f5 (h2 p' e)⟩)
      · have e : xi_prt (xt_kd ts L) (xt_nm ts L) (xt_pl ts L) (xt_en ts L) st.length p its = .inl g := by
          unfold xi_prt; rw [if_neg h69, if_neg (fun hh => hh h87), hg]
        exact xs_need 84 (by decide) cx0 f3 (fun I4 f4 => xs_block cx0 f4 (fun I5 f5 => ⟨q, hR, xc_sh hq, xs_closePart hq f5 (h2 g e)⟩))
    · have e : xi_prt (xt_kd ts L) (xt_nm ts L) (xt_pl ts L) (xt_en ts L) st.length p its = .inl p := by
        unfold xi_prt; rw [if_neg h69, if_pos h87]
      exact xs_block cx0 f2 (fun I3 f3 => xs_need 84 (by decide) cx0 f3 (fun I4 f4 => xs_block cx0 f4 (fun I5 f5 => ⟨q, hR, xc_sh hq, xs_closePart hq f5 (h2 p e)⟩)))
