theorem xi_ans_len {ts : List (Nat × Nat × Nat × Nat)} {L : Nat} (w : xt_WF ts L) : ∀ m p a p' a', p ≤ ts.length → xi_ans (xt_kd ts L) (xt_nm ts L) m p a = .inr (p', a') → 2 * a'.length + p ≤ p' + 2 * a.length + 1 ∧ p ≤ p' ∧ p' ≤ ts.length := by
  intro m; induction m with
  | zero => intro p a p' a' hp h; cases h; omega
  | succ m ih =>
    intro p a p' a' hp h
    unfold xi_ans at h
    have hy : p ≤ (if xt_kd ts L p = 45 then p + 1 else p) := by split <;> omega
    generalize (if xt_kd ts L p = 45 then p + 1 else p) = y at h hy
    generalize (if xt_kd ts L p = 45 then (-1 : Int32) else 1) = sg at h
    by_cases h258 : xt_kd ts L y ≠ 258
    · rw [if_pos h258] at h; cases h
    · rw [if_neg h258] at h
      have hyT := xt_kd_lt w (i := y) (by omega)
      by_cases h44 : xt_kd ts L (y + 1) = 44
      · rw [if_pos h44] at h
        have hyT2 := xt_kd_lt w (i := y + 1) (by omega)
        have := ih _ _ _ _ (by omega) h
        rw [List.length_append, List.length_singleton] at this
        omega
      · rw [if_neg h44] at h; cases h
        rw [List.length_append, List.length_singleton]; omega
theorem xi_rul3_len {ts : List (Nat × Nat × Nat × Nat)} {L le wh ft fg p p' : Nat} {mo : Option Nat} {ru : xi_R} (w : xt_WF ts L) (h : xi_rul3 (xt_kd ts L) (xt_nm ts L) le mo wh ft fg p = .inr (p', ru)) : p + 1 + 2 * (xi_an ru).length ≤ p' ∧ p' ≤ ts.length := by
  unfold xi_rul3 at h
  by_cases h41 : xt_kd ts L p ≠ 41
  · rw [if_pos h41] at h; cases h
  · rw [if_neg h41] at h
    have hT := xt_kd_lt w (i := p) (by omega)
    by_cases h266 : xt_kd ts L (p + 1) = 266
    · rw [if_pos h266] at h
      have hT2 := xt_kd_lt w (i := p + 1) (by omega)
      cases ha : xi_ans (xt_kd ts L) (xt_nm ts L) 121 (p + 2) [] with
      | inl g => rw [ha] at h; cases h
      | inr zz =>
        obtain ⟨p5, a'⟩ := zz
        rw [ha] at h; cases h
        have := xi_ans_len w _ _ _ _ _ (by omega) ha
        simp only [List.length_nil] at this
        show p + 1 + 2 * a'.length ≤ p' ∧ p' ≤ ts.length
        omega
    · rw [if_neg h266] at h; cases h
      show p + 1 + 2 * 0 ≤ p + 1 ∧ _
      omega
theorem xi_rul2_len {ts : List (Nat × Nat × Nat × Nat)} {L le p p' : Nat} {mo : Option Nat} {ru : xi_R} (w : xt_WF ts L) (h : xi_rul2 (xt_kd ts L) (xt_nm ts L) le mo p = .inr (p', ru)) : p + 5 + 2 * (xi_an ru).length ≤ p' ∧ p' ≤ ts.length := by
  unfold xi_rul2 at h
  by_cases a1 : xt_kd ts L p ≠ 42
  · rw [if_pos a1] at h; cases h
  rw [if_neg a1] at h
  by_cases a2 : xt_kd ts L (p + 1) ≠ 77 ∧ xt_kd ts L (p + 1) ≠ 78
  · rw [if_pos a2] at h; cases h
  rw [if_neg a2] at h
  by_cases a3 : xt_kd ts L (p + 2) ≠ 40
  · rw [if_pos a3] at h; cases h
  rw [if_neg a3] at h
  by_cases a4 : xt_kd ts L (p + 3) = 95
  · rw [if_pos a4] at h; have := xi_rul3_len w h; omega
  rw [if_neg a4] at h
  by_cases a5 : xt_kd ts L (p + 3) = 33
  · rw [if_pos a5] at h
    by_cases a6 : xt_kd ts L (p + 4) ≠ 258
    · rw [if_pos a6] at h; cases h
    · rw [if_neg a6] at h; have := xi_rul3_len w h; omega
  rw [if_neg a5] at h
  by_cases a6 : xt_kd ts L (p + 3) ≠ 258
  · rw [if_pos a6] at h; cases h
  · rw [if_neg a6] at h; have := xi_rul3_len w h; omega
theorem xi_rul_len {ts : List (Nat × Nat × Nat × Nat)} {L p p' : Nat} {ru : xi_R} (w : xt_WF ts L) (hp : p ≤ ts.length) (h : xi_rul (xt_kd ts L) (xt_nm ts L) p = .inr (p', ru)) : p + 6 + 2 * (xi_an ru).length ≤ p' ∧ p' ≤ ts.length := by
  unfold xi_rul at h
  split at h
  · have := xi_rul2_len w h; omega
  · have := xi_rul2_len w h; omega
theorem xi_Z_w4 {I0 I : pI} {R : pR} {q L p : Nat} {v : Int32} {ts : List (Nat × Nat × Nat × Nat)} (z : xi_Z I0 I R q ts L p) : xi_Z I0 (pw_wI I 108 4 v) R q ts L p ∧ xi_o8 I (pw_wI I 108 4 v) := by
  obtain ⟨cx, h1, h2, h3, h4, h5⟩ := z
  have hq := cx.2.2.2.2
  refine ⟨⟨xc_CX_fr cx (xc_fr_now (q := q) (s := 0)) (xc_S_tk hq), by rw [xa_w, if_neg (by decide)]; exact h1, by rw [xa_w, if_neg (by decide)]; exact h2, fun e he => ?_, xa_fr_w h4 rfl, h5⟩, fun p hp => xa_p hp⟩
  have := xs_caps_lt e he
  rw [xa_p (by omega)]; exact h3 e he
theorem xi_rs_n {its : List xi_I} {it : xi_I} (h : xi_k it ≠ 7) : xi_rs (its ++ [it]) = xi_rs its := by simp [xi_rs, h]
theorem xi_rs_y {its : List xi_I} {it : xi_I} (h : xi_k it = 7) : xi_rs (its ++ [it]) = xi_rs its ++ [xi_ru it] := by simp [xi_rs, h]
theorem xi_C_one (it : xi_I) : xi_C [it] = (xi_x it).1 := by simp [xi_C]
theorem xi_expC {I0 I : pI} {R : pR} {q L p p0 k part : Nat} {tg : Option Nat} {ok : Bool} {det : Int32} {its : List xi_I} {ts : List (Nat × Nat × Nat × Nat)} {Q : pI → pR → Prop} (z : xi_Z I0 I R q ts L p) (sm : xi_SM1 I q its k (xt_pl ts L p0) (xi_C its).length det) (hl : its.length < 61) (hct : I (q + 2) 4 = nI (xi_C its).length) (hcd : xc_CD I q 0 (xi_C its)) (hrm : xi_RM I q (xi_rs its)) (hok : I 108 4 = (if ok = true then 1 else 0)) (hsp : (xi_C its).length ≤ xt_pl ts L p) (hk : k ≠ 7) (hdet : det = match tg with
      | some v => nI v
      | none => -1)
    (h1 : ∀ p' it, xi_ex (xt_pl ts L) (xt_en ts L) k part p0 tg (xp_P (xt_kd ts L) (xt_nm ts L) (xt_pl ts L) 64 0 0 0 ok p) = .inr (p', it) → ∀ I', xi_Z I0 I' R q ts L p' → xi_CM I' q (its ++ [it]) → xa_fr (xi_ST q) I I' → Q I' R)
    (h2 : ∀ g, xi_ex (xt_pl ts L) (xt_en ts L) k part p0 tg (xp_P (xt_kd ts L) (xt_nm ts L) (xt_pl ts L) 64 0 0 0 ok p) = .inl g → ∀ I', xs_FS I0 I' q ts L g → Q I' R) : j_ps_statement_229 q Q (nI its.length) I R := by
  have cx := z.1
  have w := cx.2.2.1
  have hq := cx.2.2.2.2
  have cx0 : xc_CX I R q ts L := cx
  unfold j_ps_statement_229
  refine xi_chainC (lv := 0) z hok hct hsp (by omega) (fun p' x hx I1 z1 e1 cd1 fr1 _ => ?_) (fun g hg I1 f1 => ?_)
  · have hlx := xp_len w (by omega) (by omega) hx
    have f : ∀ p k, ¬ (p = 108 ∨ (q + 2 ≤ p ∧ p ≤ q + 6)) → I1 p k = I p k := fun p k hp => fr1 p k (by simp only [xc_S, Bool.or_eq_false_iff, Bool.and_eq_false_iff, beq_eq_false_iff_ne, decide_eq_false_iff_not]; omega)
    have hC : xi_C (its ++ [(k, part, xt_pl ts L p0, xt_en ts L (p' - 1), tg, x, xi_r0)]) = xi_C its ++ x.1 := by rw [xi_C_app, xi_C_one]; rfl
    refine xi_end (it := (k, part, xt_pl ts L p0, xt_en ts L (p' - 1), tg, x, xi_r0)) (det := det) z1 ?_ hl (by omega) rfl ?_ ?_ ?_ ?_ (fun I2 z2 cm2 fr2 => h1 p' _ ?_ I2 z2 cm2 (xa_fr_t (xi_ST_c fr1) (xi_ST_SS fr2)))
    · exact xi_SM1_fr sm (fun p a b => funext (fun k => f p k (by omega)))
    · rw [e1, hC, List.length_append]
    · rw [hC]
      refine xc_CD_app (xc_CD_fr hq hcd fr1 (by omega)) ?_
      rw [Nat.zero_add]; exact cd1
    · rw [xi_rs_n (show xi_k (k, part, xt_pl ts L p0, xt_en ts L (p' - 1), tg, x, xi_r0) ≠ 7 from hk)]
      exact xi_RM_fr hrm (fun p a b => funext (fun k => f p k (by omega)))
    · rw [hdet]
      unfold xi_det
      rw [if_neg (show ¬ xi_k (k, part, xt_pl ts L p0, xt_en ts L (p' - 1), tg, x, xi_r0) = 7 from hk)]
      rfl
    · rw [hx]; rfl
  · have cxx := z.1
    have := z.2.2.2.2.1
    -- failed: only the tail is left
    have f0 : xs_FS I0 I1 q ts L g := f1
    unfold j_ps_statement_235
    exact xc_endOf_any (fun v => ⟨q, cx.2.2.2.1, xc_sh hq, xs_close hq f0 (fun I2 f2 => h2 g (by rw [hg]; rfl) I2 f2)⟩)
theorem xi_ruleNext {I0 I : pI} {R : pR} {q L p : Nat} {ts : List (Nat × Nat × Nat × Nat)} {Q : Int32 → pI → pR → Prop} (z : xi_Z I0 I R q ts L p) (h1 : xi_isR (xt_kd ts L) p = true → Q 1 I R) (h2 : ¬ xi_isR (xt_kd ts L) p = true → Q 0 I R) : w_ps_ruleIsNext I R Q := by
  have cx := z.1
  have w := cx.2.2.1
  have hT := w.2.1
  have hL := w.1
  have hp := z.2.2.2.2.2
  have kb := fun i => xt_kd_b w (i := i)
  have go : ∀ s, (xi_isR (xt_kd ts L) p = (decide (xt_kd ts L s = 42) && (decide (xt_kd ts L (s + 1) = 77) || decide (xt_kd ts L (s + 1) = 78)))) → s < 200 → j_ps_ruleIsNext_80 Q (nI s) I R := by
    intro s he hs
    unfold j_ps_ruleIsNext_80
    rw [nI_1, xc_kindAt cx (by omega), xc_kindAt cx (by omega)]
    have k1 := kb s
    have k2 := kb (s + 1)
    by_cases h42 : xt_kd ts L s = 42
    · refine xa_t' (xa_e 42 h42) ?_
      by_cases h77 : xt_kd ts L (s + 1) = 77
      · exact xa_t (xa_e 77 h77) (h1 (by rw [he]; simp [h42, h77]))
      · refine xa_f (xa_ne 77 (by omega)) ?_
        by_cases h78 : xt_kd ts L (s + 1) = 78
        · exact xa_t' (xa_e 78 h78) (h1 (by rw [he]; simp [h42, h78]))
        · exact xa_f' (xa_ne 78 (by omega)) (h2 (by rw [he]; simp [h77, h78]))
    · exact xa_f' (xa_ne 42 (by omega)) (h2 (by rw [he]; simp [h42]))
  have k0 := kb p
  have k1 := kb (p + 1)
  have k2 := kb (p + 2)
  unfold w_ps_ruleIsNext
  rw [xc_next cx z.2.1 (by omega)]
  by_cases h258 : xt_kd ts L p = 258
  · refine xa_t (xa_e 258 h258) ?_
    rw [z.2.1, nI_1, xc_kindAt cx (by omega)]
    by_cases h45 : xt_kd ts L (p + 1) = 45
    · refine xa_t' (xa_e 45 h45) ?_
      rw [z.2.1, show nI p + 2 = nI (p + 2) from nI_add p 2, xc_kindAt cx (by omega)]
      by_cases h95 : xt_kd ts L (p + 2) = 95
      · exact xa_t' (xa_e 95 h95) (h1 (by unfold xi_isR; simp [h258, h45, h95]))
      · refine xa_f' (xa_ne 95 (by omega)) ?_
        rw [z.2.1, show nI p + 2 = nI (p + 2) from nI_add p 2, xc_kindAt cx (by omega)]
        by_cases h2' : xt_kd ts L (p + 2) = 258
        · refine xa_t (xa_e 258 h2') ?_
          rw [z.2.1, show nI p + 3 = nI (p + 3) from nI_add p 3]
          exact go (p + 3) (by unfold xi_isR; simp [h258, h45, h2']) (by omega)
        · exact xa_f (xa_ne 258 (by omega)) (h2 (by unfold xi_isR; simp [h258, h45, h95, h2']))
    · refine xa_f' (xa_ne 45 (by omega)) ?_
      exact go (p + 1) (by unfold xi_isR; simp [h258, h45]) (by omega)
  · exact xa_f (xa_ne 258 (by omega)) (h2 (by unfold xi_isR; simp [h258]))
/-- how far items may have come at a token -/
def xi_BD (ts : List (Nat × Nat × Nat × Nat)) (L : Nat) (its : List xi_I) (p : Nat) : Prop := (xi_C its).length ≤ xt_pl ts L p ∧ 2 * its.length ≤ p ∧ 6 * (xi_rs its).length ≤ p ∧ 2 * ((xi_rs its).flatMap xi_an).length ≤ p
set_option maxHeartbeats 1000000 in
theorem xi_stC {I0 I : pI} {R : pR} {q L p k part : Nat} {its : List xi_I} {ts : List (Nat × Nat × Nat × Nat)} {Q : pI → pR → Prop} (cx0 : xc_CX I0 R q ts L) (z : xi_Z I0 I R q ts L p) (cm : xi_CM I q its) (hk : k ≤ 4) (bd : xi_BD ts L its p)
    (h1 : ∀ p' it, xi_st (xt_kd ts L) (xt_nm ts L) (xt_pl ts L) (xt_en ts L) part k p = .inr (p', it) → ∀ I', xi_Z I0 I' R q ts L p' → xi_CM I' q (its ++ [it]) → xa_fr (xi_ST q) I I' → Q I' R)
    (h2 : ∀ g, xi_st (xt_kd ts L) (xt_nm ts L) (xt_pl ts L) (xt_en ts L) part k p = .inl g → ∀ I', xs_FS I0 I' q ts L g → Q I' R) : w_ps_statement (nI k) I R Q := by
  obtain ⟨sm, hct, hcd, hrm⟩ := cm
  obtain ⟨bd1, bd2, bd3, bd4⟩ := bd
  have cx := z.1
  have w := cx.2.2.1
  have hT := w.2.1
  have hL := w.1
  have hq := cx.2.2.2.2
  have hp := z.2.2.2.2.2
  have hl : its.length < 61 := by omega
  have kb := fun i => xt_kd_b w (i := i)
  have k0 := kb p
  have k1 := kb (p + 1)
  unfold w_ps_statement
  refine ⟨q, cx.2.2.2.1, xc_sh hq, ?_⟩
  rw [z.2.1, xc_placeOf cx (by omega)]
  refine ⟨q, cx.2.2.2.1, xc_sh hq, ?_⟩
  rw [hct]
  refine xi_open sm hl (fun I1 sm1 fr1 => ?_)
  have z1 := xi_Z_st z fr1 (a := its.length + 1) (by omega) sm1.1
  have f : ∀ p k, ¬ (q + 7 ≤ p ∧ p ≤ q + 13) → I1 p k = I p k := fun p k hp => fr1 p k (by simp only [xi_SS, Bool.and_eq_false_iff, decide_eq_false_iff_not]; omega)
  have hct1 : I1 (q + 2) 4 = nI (xi_C its).length := by rw [f _ _ (by omega)]; exact hct
  have hcd1 : xc_CD I1 q 0 (xi_C its) := by
    intro i e hi
    rw [f _ _ (by omega), f _ _ (by omega), f _ _ (by omega), f _ _ (by omega)]
    exact hcd i e hi
  have hrm1 : xi_RM I1 q (xi_rs its) := xi_RM_fr hrm (fun p a b => funext (fun k => f p k (by omega)))
  have tr : ∀ {J J' : pI}, xi_o8 J J' → xi_SM1 J q its k (xt_pl ts L p) (xi_C its).length (-1) → J (q + 2) 4 = nI (xi_C its).length → xc_CD J q 0 (xi_C its) → xi_RM J q (xi_rs its) → (xi_SM1 J' q its k (xt_pl ts L p) (xi_C its).length (-1) ∧ J' (q + 2) 4 = nI (xi_C its).length ∧ xc_CD J' q 0 (xi_C its) ∧ xi_RM J' q (xi_rs its)) := by
    intro J J' o a b c d
    refine ⟨xi_SM1_fr a (fun p h1 h2 => o p (by omega)), by rw [o _ (by omega)]; exact b, fun i e hi => ?_, xi_RM_o8 hq d o⟩
    rw [o _ (by omega), o _ (by omega), o _ (by omega), o _ (by omega)]
    exact c i e hi
  -- what comes behind the tests for claims
  have go167 : ∀ I2, (¬ (k = 4 ∧ xt_kd ts L p = 88)) → (¬ (k = 4 ∧ xt_kd ts L p = 33 ∧ xt_kd ts L (p + 1) = 88)) → (¬ (k = 4 ∧ xi_isR (xt_kd ts L) p = true)) → xi_Z I0 I2 R q ts L p → xi_o8 I1 I2 → I2 108 4 = (if k = 4 then 1 else 0) → j_ps_statement_167 q Q (nI k) (nI its.length) I2 R := by
    intro I2 c1 c2 c3 z2 o2 hok
    obtain ⟨sm2, hct2, hcd2, hrm2⟩ := tr o2 sm1 hct1 hcd1 hrm1
    have fr02 : xa_fr (xi_ST q) I I2 := xa_fr_t (xi_ST_SS fr1) (xi_ST_o8 o2)
    have hpl : j_ps_statement_229 q Q (nI its.length) I2 R ∨ (k ≤ 2 ∧ xt_kd ts L p = 259 ∧ xt_kd ts L (p + 1) = 61) := by
      by_cases c4 : k ≤ 2 ∧ xt_kd ts L p = 259 ∧ xt_kd ts L (p + 1) = 61
      · exact Or.inr c4
      · left
        have e : xi_st (xt_kd ts L) (xt_nm ts L) (xt_pl ts L) (xt_en ts L) part k p = xi_ex (xt_pl ts L) (xt_en ts L) k part p none (xp_P (xt_kd ts L) (xt_nm ts L) (xt_pl ts L) 64 0 0 0 (decide (k = 4)) p) := by
          unfold xi_st; rw [if_neg c1, if_neg c2, if_neg c3, if_neg c4]
        refine xi_expC (part := part) (tg := none) (ok := decide (k = 4)) z2 sm2 hl hct2 hcd2 hrm2 ?_ bd1 (by omega) rfl (fun p' it h => ?_) (fun g h => ?_)
        · rw [hok]; simp
        · exact fun I' z' cm' fr' => h1 p' it (e.trans h) I' z' cm' (xa_fr_t fr02 fr')
        · exact h2 g (e.trans h)
    unfold j_ps_statement_167
    rcases hpl with hpl | c4
    · refine ⟨fun _ => hpl, fun _ => ?_⟩
      rw [xc_next z2.1 z2.2.1 (by omega)]
      refine ⟨fun _ => hpl, fun h259 => ?_⟩
      rw [z2.2.1, nI_1, xc_kindAt z2.1 (by omega)]
      refine ⟨fun _ => hpl, fun h61 => ?_⟩
      rename_i hle
      have a1 : xt_kd ts L p = 259 := (xa_eql 259 (by omega) (by omega)).mp h259
      have a2 : xt_kd ts L (p + 1) = 61 := (xa_eql 61 (by omega) (by omega)).mp h61
      have a3 : k ≤ 2 := by
        rcases Nat.lt_or_ge 2 k with h | h
        · exact absurd ((xa_llt 2 (by omega) (by omega)).mpr h) hle
        · exact h
      clear hle
      rw [z2.2.1, xc_numberOf z2.1 (by omega)]
      refine xi_putd sm2 hl (fun I3 sm3 fr3 e7 => ?_)
      have z3 := xi_Z_st z2 fr3 (a := its.length + 1) (by omega) sm3.1
      have f3 : ∀ p k, ¬ (q + 7 ≤ p ∧ p ≤ q + 13) → I3 p k = I2 p k := fun p k hp => fr3 p k (by simp only [xi_SS, Bool.and_eq_false_iff, decide_eq_false_iff_not]; omega)
      have hpT1 := xt_kd_lt w (i := p + 1) (by omega)
      rw [z3.2.1, show nI p + 2 = nI (p + 2) from nI_add p 2]
      refine xa_a ?_
      obtain ⟨z4, o4⟩ := xi_Z_now (p' := p + 2) z3 (by omega)
      have hok4 : (pw_wI I3 108 2 (nI (p + 2))) 108 4 = (if k = 4 then 1 else 0) := by rw [xa_w, if_neg (by decide), f3 _ _ (by omega)]; exact hok
      generalize pw_wI I3 108 2 (nI (p + 2)) = I4 at z4 o4 hok4 ⊢
      have e : xi_st (xt_kd ts L) (xt_nm ts L) (xt_pl ts L) (xt_en ts L) part k p = xi_ex (xt_pl ts L) (xt_en ts L) k part p (some (xt_nm ts L p)) (xp_P (xt_kd ts L) (xt_nm ts L) (xt_pl ts L) 64 0 0 0 false (p + 2)) := by
        unfold xi_st; rw [if_neg c1, if_neg c2, if_neg c3, if_pos ⟨a3, a1, a2⟩]
      have hmono := xt_pl_mono w p (p + 2) (by omega)
      refine xi_expC (part := part) (tg := some (xt_nm ts L p)) (ok := false) z4 (xi_SM1_fr sm3 (fun p h1 h2 => o4 p (by omega))) hl (by rw [o4 _ (by omega), f3 _ _ (by omega)]; exact hct2) (fun i e hi => by rw [o4 _ (by omega), o4 _ (by omega), o4 _ (by omega), o4 _ (by omega), f3 _ _ (by omega), f3 _ _ (by omega), f3 _ _ (by omega), f3 _ _ (by omega)]; exact hcd2 i e hi) (xi_RM_o8 hq (xi_RM_fr hrm2 (fun p a b => funext (fun k => f3 p k (by omega)))) o4) (by rw [hok4, if_neg (by omega)]; rfl) (by omega) (by omega) rfl (fun p' it h => ?_) (fun g h => ?_)
      · exact fun I' z' cm' fr' => h1 p' it (e.trans h) I' z' cm' (xa_fr_t fr02 (xa_fr_t (xi_ST_SS fr3) (xa_fr_t (xi_ST_o8 o4) fr')))
      · exact h2 g (e.trans h)
    · obtain ⟨a3, a1, a2⟩ := c4
      refine xa_f (fun h => by have := (xa_llt 2 (by omega) (by omega)).mp h; omega) ?_
      rw [xc_next z2.1 z2.2.1 (by omega)]
      refine xa_t' (xa_e 259 a1) ?_
      rw [z2.2.1, nI_1, xc_kindAt z2.1 (by omega)]
      refine xa_t' (xa_e 61 a2) ?_
      rw [z2.2.1, xc_numberOf z2.1 (by omega)]
      refine xi_putd sm2 hl (fun I3 sm3 fr3 e7 => ?_)
      have z3 := xi_Z_st z2 fr3 (a := its.length + 1) (by omega) sm3.1
      have f3 : ∀ p k, ¬ (q + 7 ≤ p ∧ p ≤ q + 13) → I3 p k = I2 p k := fun p k hp => fr3 p k (by simp only [xi_SS, Bool.and_eq_false_iff, decide_eq_false_iff_not]; omega)
      have hpT1 := xt_kd_lt w (i := p + 1) (by omega)
      rw [z3.2.1, show nI p + 2 = nI (p + 2) from nI_add p 2]
      refine xa_a ?_
      obtain ⟨z4, o4⟩ := xi_Z_now (p' := p + 2) z3 (by omega)
      have hok4 : (pw_wI I3 108 2 (nI (p + 2))) 108 4 = (if k = 4 then 1 else 0) := by rw [xa_w, if_neg (by decide), f3 _ _ (by omega)]; exact hok
      generalize pw_wI I3 108 2 (nI (p + 2)) = I4 at z4 o4 hok4 ⊢
      have e : xi_st (xt_kd ts L) (xt_nm ts L) (xt_pl ts L) (xt_en ts L) part k p = xi_ex (xt_pl ts L) (xt_en ts L) k part p (some (xt_nm ts L p)) (xp_P (xt_kd ts L) (xt_nm ts L) (xt_pl ts L) 64 0 0 0 false (p + 2)) := by
        unfold xi_st; rw [if_neg c1, if_neg c2, if_neg c3, if_pos ⟨a3, a1, a2⟩]
      have hmono := xt_pl_mono w p (p + 2) (by omega)
      refine xi_expC (part := part) (tg := some (xt_nm ts L p)) (ok := false) z4 (xi_SM1_fr sm3 (fun p h1 h2 => o4 p (by omega))) hl (by rw [o4 _ (by omega), f3 _ _ (by omega)]; exact hct2) (fun i e hi => by rw [o4 _ (by omega), o4 _ (by omega), o4 _ (by omega), o4 _ (by omega), f3 _ _ (by omega), f3 _ _ (by omega), f3 _ _ (by omega), f3 _ _ (by omega)]; exact hcd2 i e hi) (xi_RM_o8 hq (xi_RM_fr hrm2 (fun p a b => funext (fun k => f3 p k (by omega)))) o4) (by rw [hok4, if_neg (by omega)]; rfl) (by omega) (by omega) rfl (fun p' it h => ?_) (fun g h => ?_)
      · exact fun I' z' cm' fr' => h1 p' it (e.trans h) I' z' cm' (xa_fr_t fr02 (xa_fr_t (xi_ST_SS fr3) (xa_fr_t (xi_ST_o8 o4) fr')))
      · exact h2 g (e.trans h)
  -- X, or ! X: a kind, and the end
  have goX : ∀ I2 p' k', xi_Z I0 I2 R q ts L p' → xi_o8 I1 I2 → p < p' → k' ≠ 7 → xi_st (xt_kd ts L) (xt_nm ts L) (xt_pl ts L) (xt_en ts L) part k p = .inr (p', (k', part, xt_pl ts L p, xt_en ts L (p' - 1), none, xi_x0, xi_r0)) → w_sr_put (q + 8) 61 (nI its.length) (nI k') I2 R (fun I19 R16 => j_ps_statement_235 q Q (nI its.length) I19 R16) := by
    intro I2 p' k' z2 o2 hp' hk' he
    obtain ⟨sm2, hct2, hcd2, hrm2⟩ := tr o2 sm1 hct1 hcd1 hrm1
    refine xi_putk sm2 hl (fun I3 sm3 fr3 e7 => ?_)
    have z3 := xi_Z_st z2 fr3 (a := its.length + 1) (by omega) sm3.1
    have f3 : ∀ p k, ¬ (q + 7 ≤ p ∧ p ≤ q + 13) → I3 p k = I2 p k := fun p k hp => fr3 p k (by simp only [xi_SS, Bool.and_eq_false_iff, decide_eq_false_iff_not]; omega)
    have hC : xi_C (its ++ [(k', part, xt_pl ts L p, xt_en ts L (p' - 1), none, xi_x0, xi_r0)]) = xi_C its := by rw [xi_C_app, xi_C_one]; exact List.append_nil _
    refine xi_end (it := (k', part, xt_pl ts L p, xt_en ts L (p' - 1), none, xi_x0, xi_r0)) (det := -1) z3 sm3 hl (by omega) rfl ?_ ?_ ?_ ?_ (fun I4 z4 cm4 fr4 => h1 p' _ he I4 z4 cm4 (xa_fr_t (xi_ST_SS fr1) (xa_fr_t (xi_ST_o8 o2) (xa_fr_t (xi_ST_SS fr3) (xi_ST_SS fr4)))))
    · rw [hC, f3 _ _ (by omega)]; exact hct2
    · rw [hC]; intro i e hi
      rw [f3 _ _ (by omega), f3 _ _ (by omega), f3 _ _ (by omega), f3 _ _ (by omega)]; exact hcd2 i e hi
    · rw [xi_rs_n (show xi_k (k', part, xt_pl ts L p, xt_en ts L (p' - 1), none, xi_x0, xi_r0) ≠ 7 from hk')]
      exact xi_RM_fr hrm2 (fun p a b => funext (fun k => f3 p k (by omega)))
    · unfold xi_det
      rw [if_neg (show ¬ xi_k (k', part, xt_pl ts L p, xt_en ts L (p' - 1), none, xi_x0, xi_r0) = 7 from hk')]
      rfl
  by_cases hk4 : k = 4
  · subst hk4
    refine xa_t' rfl ?_
    unfold j_ps_statement_46
    refine ⟨Or.inr rfl, xa_a ?_⟩
    obtain ⟨z2, o2⟩ := xi_Z_w4 (v := 1) z1
    have hok2 : (pw_wI I1 108 4 1) 108 4 = (if 4 = 4 then 1 else 0) := by rw [xa_w]; simp
    generalize pw_wI I1 108 4 1 = I2 at z2 o2 hok2 ⊢
    refine xa_t' rfl ?_
    refine xi_take 88 (by decide) z2 (fun h88 I3 z3 o3 => ?_) (fun h88 => ?_)
    · refine xa_f (by decide) (goX I3 (p + 1) 5 z3 (xi_o8_t o2 o3) (by omega) (by omega) ?_)
      unfold xi_st; rw [if_pos ⟨rfl, h88⟩]; rfl
    · refine xa_t rfl ?_
      have c1 : ¬ (4 = 4 ∧ xt_kd ts L p = 88) := fun h => h88 h.2
      unfold j_ps_statement_75
      refine xa_t' rfl ?_
      have go130 : ¬ (4 = 4 ∧ xt_kd ts L p = 33 ∧ xt_kd ts L (p + 1) = 88) → j_ps_statement_130 q Q (nI 4) (nI its.length) I2 R := by
        intro c2
        unfold j_ps_statement_130
        refine xa_t' rfl ?_
        refine xi_ruleNext z2 (fun hR => ?_) (fun hR => ?_)
        · refine xa_f (by decide) ?_
          obtain ⟨sm2, hct2, hcd2, hrm2⟩ := tr o2 sm1 hct1 hcd1 hrm1
          refine xi_putk (k' := 7) sm2 hl (fun I3 sm3 fr3 e7 => ?_)
          have z3 := xi_Z_st z2 fr3 (a := its.length + 1) (by omega) sm3.1
          have f3 : ∀ p k, ¬ (q + 7 ≤ p ∧ p ≤ q + 13) → I3 p k = I2 p k := fun p k hp => fr3 p k (by simp only [xi_SS, Bool.and_eq_false_iff, decide_eq_false_iff_not]; omega)
          have e : ∀ r, xi_rul (xt_kd ts L) (xt_nm ts L) p = r → xi_st (xt_kd ts L) (xt_nm ts L) (xt_pl ts L) (xt_en ts L) part 4 p = (match r with
              | .inl f => .inl f
              | .inr (q, ru) => .inr (q, (7, part, xt_pl ts L p, xt_en ts L (q - 1), none, xi_x0, ru))) := by
            intro r hr; unfold xi_st; rw [if_neg c1, if_neg c2, if_pos ⟨rfl, hR⟩, hr]
            rcases r with f | ⟨q, ru⟩ <;> rfl
          refine xi_ruleC cx0 z3 (xi_RM_fr hrm2 (fun p a b => funext (fun k => f3 p k (by omega)))) hR (by omega) (by omega) (fun p' ru hru I4 z4 rm4 fr4 => ?_) (fun g hg v I4 f4 => ?_)
          · have f4 : ∀ p k, ¬ (p = 108 ∨ (q + 14 ≤ p ∧ p ≤ q + 22)) → I4 p k = I3 p k := fun p k hp => fr4 p k (by simp only [xi_SX, Bool.or_eq_false_iff, Bool.and_eq_false_iff, beq_eq_false_iff_ne, decide_eq_false_iff_not]; omega)
            refine xi_putd (xi_SM1_fr sm3 (fun p a b => funext (fun k => f4 p k (by omega)))) hl (fun I5 sm5 fr5 e8 => ?_)
            have z5 := xi_Z_st z4 fr5 (a := its.length + 1) (by omega) sm5.1
            have f5 : ∀ p k, ¬ (q + 7 ≤ p ∧ p ≤ q + 13) → I5 p k = I4 p k := fun p k hp => fr5 p k (by simp only [xi_SS, Bool.and_eq_false_iff, decide_eq_false_iff_not]; omega)
            have hC : xi_C (its ++ [(7, part, xt_pl ts L p, xt_en ts L (p' - 1), none, xi_x0, ru)]) = xi_C its := by rw [xi_C_app, xi_C_one]; exact List.append_nil _
            have hpp : 0 < p' := by have := xi_rul_len w hp hru; omega
            refine xi_end (it := (7, part, xt_pl ts L p, xt_en ts L (p' - 1), none, xi_x0, ru)) (det := nI (xi_rs its).length) z5 sm5 hl hpp rfl ?_ ?_ ?_ ?_ (fun I6 z6 cm6 fr6 => h1 p' _ (e _ hru) I6 z6 cm6 (xa_fr_t (xi_ST_SS fr1) (xa_fr_t (xi_ST_o8 o2) (xa_fr_t (xi_ST_SS fr3) (xa_fr_t (xi_ST_SX fr4) (xa_fr_t (xi_ST_SS fr5) (xi_ST_SS fr6)))))))
            · rw [hC, f5 _ _ (by omega), f4 _ _ (by omega), f3 _ _ (by omega)]; exact hct2
            · rw [hC]; intro i e hi
              rw [f5 _ _ (by omega), f5 _ _ (by omega), f5 _ _ (by omega), f5 _ _ (by omega), f4 _ _ (by omega), f4 _ _ (by omega), f4 _ _ (by omega), f4 _ _ (by omega), f3 _ _ (by omega), f3 _ _ (by omega), f3 _ _ (by omega), f3 _ _ (by omega)]; exact hcd2 i e hi
            · rw [xi_rs_y (show xi_k (7, part, xt_pl ts L p, xt_en ts L (p' - 1), none, xi_x0, ru) = 7 from rfl)]
              exact xi_RM_fr rm4 (fun p a b => funext (fun k => f5 p k (by omega)))
            · unfold xi_det
              rw [if_pos (show xi_k (7, part, xt_pl ts L p, xt_en ts L (p' - 1), none, xi_x0, ru) = 7 from rfl), xa_take1, xi_rs_len]
          · exact xs_put 13 61 (by omega) (by omega) hq f4 (fun I5 f5 => xs_state235 cx0 f5 (h2 g (e _ hg)))
        · exact xa_t rfl (go167 I2 c1 c2 (fun h => hR h.2) z2 o2 hok2)
      rw [xc_next z2.1 z2.2.1 (by omega)]
      by_cases h33 : xt_kd ts L p = 33
      · refine xa_t' (xa_e 33 h33) ?_
        rw [z2.2.1, nI_1, xc_kindAt z2.1 (by omega)]
        by_cases hx : xt_kd ts L (p + 1) = 88
        · refine xa_t' (xa_e 88 hx) ?_
          have hpT1 := xt_kd_lt w (i := p + 1) (by omega)
          rw [z2.2.1, show nI p + 2 = nI (p + 2) from nI_add p 2]
          refine xa_a ?_
          obtain ⟨z3, o3⟩ := xi_Z_now (p' := p + 2) z2 (by omega)
          refine goX _ (p + 2) 6 z3 (xi_o8_t o2 o3) (by omega) (by omega) ?_
          unfold xi_st; rw [if_neg c1, if_pos ⟨rfl, h33, hx⟩]; rfl
        · exact xa_f' (xa_ne 88 (by omega)) (go130 (fun h => hx h.2.2))
      · exact xa_f' (xa_ne 33 (by omega)) (go130 (fun h => h33 h.2.1))
  · refine xa_f' (xa_ne 4 (by omega)) ?_
    unfold j_ps_statement_46
    refine ⟨Or.inl rfl, xa_a ?_⟩
    obtain ⟨z2, o2⟩ := xi_Z_w4 (v := 0) z1
    have hok2 : (pw_wI I1 108 4 0) 108 4 = (if k = 4 then 1 else 0) := by rw [xa_w, if_neg hk4]; simp
    generalize pw_wI I1 108 4 0 = I2 at z2 o2 hok2 ⊢
    refine xa_f' (xa_ne 4 (by omega)) ?_
    unfold j_ps_statement_75
    refine xa_f' (xa_ne 4 (by omega)) ?_
    unfold j_ps_statement_130
    refine xa_f' (xa_ne 4 (by omega)) ?_
    exact go167 I2 (fun h => hk4 h.1) (fun h => hk4 h.1) (fun h => hk4 h.1) z2 o2 hok2
