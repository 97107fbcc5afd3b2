/-! THE CLASS READS A FEATURE -/
abbrev xi_F : Type := List xi_I × List Nat × Nat × List (Nat × Nat) × List Nat
def xi_FM (I : pI) (q : Nat) (F : xi_F) : Prop := xi_CM I q F.1 ∧ xi_PM I q F.2.1 F.2.2.1 ∧ xi_HM I q F.2.2.2.1 ∧ xi_WM I q F.2.2.2.2
theorem xs_fin103 {I0 I : pI} {R : pR} {q L f a1 a3 : Nat} {ts : List (Nat × Nat × Nat × Nat)} {Q : Int32 → pI → pR → Prop} (cx : xc_CX I0 R q ts L) (fs : xs_FS I0 I q ts L f) (h : ∀ I', xa_fr (xs_S q) I0 I' → Q (nI (xt_pl ts L f)) I' R) : j_ps_read_103 a1 a3 Q I R := by
  unfold j_ps_read_103
  refine xs_take 68 (by decide) cx fs (xa_t rfl ?_)
  have cx1 := xs_cx cx fs
  have w := cx.2.2.1
  have := w.1; have := w.2.1
  have hq := cx.2.2.2.2
  have hpb := xt_pl_b w (i := f)
  obtain ⟨h1, h2, h3, h4⟩ := fs
  rcases h2 with ⟨a, b⟩ | ⟨a, b, c⟩
  · rw [xc_next cx1 a (by omega)]
    have e : xt_kd ts L ts.length = 256 := by unfold xt_kd; rw [xt_at_ge (Nat.le_refl _)]
    rw [e]
    refine xa_t rfl ?_
    rw [b]; exact h I h4
  · rw [xc_next cx1 a (by omega)]
    have hkb := xt_kd_b w (i := f)
    have hb2 := xp_lev2 (Or.inr c)
    refine xa_f (xa_ne 256 ⟨xp_lev_ne (by omega), by omega, by omega⟩) ?_
    refine xc_fail1 cx1 a h1 b (fun I' a1 a2 a3 => ?_)
    rw [a2]; exact h I' (xa_fr_t h4 (xa_fr_m a3 xs_S8_of))
theorem xs_fin89 {I0 I : pI} {R : pR} {q L f a1 a3 : Nat} {ts : List (Nat × Nat × Nat × Nat)} {Q : Int32 → pI → pR → Prop} (cx : xc_CX I0 R q ts L) (fs : xs_FS I0 I q ts L f) (h : ∀ I', xa_fr (xs_S q) I0 I' → Q (nI (xt_pl ts L f)) I' R) : j_ps_read_89 a1 a3 Q I R := by
  unfold j_ps_read_89
  exact xs_take 67 (by decide) cx fs (xa_t rfl (xs_fin103 cx fs h))
theorem xi_read103 {I0 I : pI} {R : pR} {q L p pe a1 a3 : Nat} {st : List Nat} {its : List xi_I} {ts : List (Nat × Nat × Nat × Nat)} {Q : Int32 → pI → pR → Prop} (cx0 : xc_CX I0 R q ts L) (z : xi_Z I0 I R q ts L p) (cm : xi_CM I q its) (pm : xi_PM I q st pe) (hm : xi_HM I q []) (wm : xi_WM I q []) (bd : xi_BD ts L its p)
    (h1 : ∀ F, xi_fea3 (xt_kd ts L) (xt_nm ts L) (xt_pl ts L) (xt_en ts L) p its st pe = .inr F → ∀ I', xi_FM I' q F → xa_fr (xs_S q) I0 I' → I' (q + 1) = I (q + 1) → Q (-1) I' R)
    (h2 : ∀ g, xi_fea3 (xt_kd ts L) (xt_nm ts L) (xt_pl ts L) (xt_en ts L) p its st pe = .inl g → ∀ I', xa_fr (xs_S q) I0 I' → Q (nI (xt_pl ts L g)) I' R) : j_ps_read_103 a1 a3 Q I R := by
  have w := cx0.2.2.1
  have hT := w.2.1
  have hL := w.1
  have hq := cx0.2.2.2.2
  have hp := z.2.2.2.2.2
  unfold j_ps_read_103
  refine xi_take 68 (by decide) z (fun h68 I1 z1 o1 => ?_) (fun h68 => ?_)
  · refine xa_f (by decide) ?_
    refine xi_tabC cx0 z1 (xi_CM_o8 hq cm o1) (xi_HM_fr hm (by rw [o1 _ (by omega)]) (o1 _ (by omega)) (o1 _ (by omega))) (xi_WM_fr wm (by rw [o1 _ (by omega)]) (o1 _ (by omega))) (xi_BD_m w bd (by omega)) (fun p2 its2 h rs e I2 z2 cm2 hm2 wm2 e8 e23 e1 => ?_) (fun g hg I2 f2 => ?_)
    · have hp2 := z2.2.2.2.2.2
      have hkb := xt_kd_b w (i := p2)
      rw [xc_next z2.1 z2.2.1 (by omega)]
      by_cases hE : xt_kd ts L p2 = 256
      · refine xa_t (xa_e 256 hE) ?_
        rw [z2.2.2.1]
        refine h1 (its2, st, pe, h, rs) ?_ I2 ⟨cm2, xi_PM_fr pm (by rw [e8, o1 _ (by omega)]) (by rw [e23, o1 _ (by omega)]), hm2, wm2⟩ z2.2.2.2.2.1 (by rw [e1, o1 _ (by omega)])
        unfold xi_fea3
        rw [if_pos h68, e]; simp [hE]
      · have e0 : xi_fea3 (xt_kd ts L) (xt_nm ts L) (xt_pl ts L) (xt_en ts L) p its st pe = .inl p2 := by
          unfold xi_fea3; rw [if_pos h68, e]; simp [hE]
        refine xa_f (xa_ne 256 (by omega)) (xc_fail1 z2.1 z2.2.1 hp2 z2.2.2.1 (fun I' a1 a2 a3 => ?_))
        rw [a2]; exact h2 p2 e0 I' (xa_fr_t z2.2.2.2.2.1 (xa_fr_m a3 xs_S8_of))
    · have e0 : xi_fea3 (xt_kd ts L) (xt_nm ts L) (xt_pl ts L) (xt_en ts L) p its st pe = .inl g := by
        unfold xi_fea3; rw [if_pos h68, hg]
      have h2' := h2 g e0
      have cx2 := xs_cx cx0 f2
      obtain ⟨a, b, c, d⟩ := f2
      have hpb := xt_pl_b w (i := g)
      rcases b with ⟨b1, b2⟩ | ⟨b1, b2, b3⟩
      · rw [xc_next cx2 b1 (by omega)]
        have e : xt_kd ts L ts.length = 256 := by unfold xt_kd; rw [xt_at_ge (Nat.le_refl _)]
        rw [e]
        refine xa_t rfl ?_
        rw [b2]; exact h2' I2 d
      · rw [xc_next cx2 b1 (by omega)]
        have hkb := xt_kd_b w (i := g)
        refine xa_f (xa_ne 256 ⟨xp_lev_ne (by omega), by omega, by omega⟩) ?_
        refine xc_fail1 cx2 b1 a b2 (fun I' a1 a2 a3 => ?_)
        rw [a2]; exact h2' I' (xa_fr_t d (xa_fr_m a3 xs_S8_of))
  · refine xa_t rfl ?_
    have hkb := xt_kd_b w (i := p)
    rw [xc_next z.1 z.2.1 (by omega)]
    by_cases hE : xt_kd ts L p = 256
    · refine xa_t (xa_e 256 hE) ?_
      rw [z.2.2.1]
      refine h1 (its, st, pe, [], []) ?_ I ⟨cm, pm, hm, wm⟩ z.2.2.2.2.1 rfl
      unfold xi_fea3
      rw [if_neg h68, if_pos hE]
    · refine xa_f (xa_ne 256 (by omega)) ?_
      have e0 : xi_fea3 (xt_kd ts L) (xt_nm ts L) (xt_pl ts L) (xt_en ts L) p its st pe = .inl p := by
        unfold xi_fea3; rw [if_neg h68, if_neg hE]
      refine xc_fail1 z.1 z.2.1 hp z.2.2.1 (fun I' a1 a2 a3 => ?_)
      rw [a2]; exact h2 p e0 I' (xa_fr_t z.2.2.2.2.1 (xa_fr_m a3 xs_S8_of))
theorem xi_read89 {I0 I : pI} {R : pR} {q L p a1 a3 : Nat} {st : List Nat} {its : List xi_I} {ts : List (Nat × Nat × Nat × Nat)} {Q : Int32 → pI → pR → Prop} (cx0 : xc_CX I0 R q ts L) (z : xi_Z I0 I R q ts L p) (cm : xi_CM I q its) (pm : xi_PM I q st its.length) (hm : xi_HM I q []) (wm : xi_WM I q []) (bd : xi_BD ts L its p)
    (h1 : ∀ F, (if xt_kd ts L p = 67 then (match xi_blk (xt_kd ts L) (xt_nm ts L) (xt_pl ts L) (xt_en ts L) st.length 2 (p + 1) its with
        | .inl f => .inl f
        | .inr (q2, a2) => xi_fea3 (xt_kd ts L) (xt_nm ts L) (xt_pl ts L) (xt_en ts L) q2 a2 st its.length)
      else xi_fea3 (xt_kd ts L) (xt_nm ts L) (xt_pl ts L) (xt_en ts L) p its st its.length) = .inr F → ∀ I', xi_FM I' q F → xa_fr (xs_S q) I0 I' → I' (q + 1) = I (q + 1) → Q (-1) I' R)
    (h2 : ∀ g, (if xt_kd ts L p = 67 then (match xi_blk (xt_kd ts L) (xt_nm ts L) (xt_pl ts L) (xt_en ts L) st.length 2 (p + 1) its with
        | .inl f => .inl f
        | .inr (q2, a2) => xi_fea3 (xt_kd ts L) (xt_nm ts L) (xt_pl ts L) (xt_en ts L) q2 a2 st its.length)
      else xi_fea3 (xt_kd ts L) (xt_nm ts L) (xt_pl ts L) (xt_en ts L) p its st its.length) = .inl g → ∀ I', xa_fr (xs_S q) I0 I' → Q (nI (xt_pl ts L g)) I' R) : j_ps_read_89 a1 a3 Q I R := by
  have w := cx0.2.2.1
  have hT := w.2.1
  have hL := w.1
  have hq := cx0.2.2.2.2
  have hp := z.2.2.2.2.2
  unfold j_ps_read_89
  refine xi_take 67 (by decide) z (fun h67 I1 z1 o1 => ?_) (fun h67 => ?_)
  · rw [if_pos h67] at h1 h2
    refine xa_f (by decide) ?_
    refine xi_blkC (part := st.length) (k := 2) cx0 (by omega) z1 (xi_CM_o8 hq cm o1) (xi_BD_m w bd (by omega)) (fun p2 its2 e I2 z2 cm2 bd2 hpp fr2 => ?_) (fun g hg I2 f2 => ?_)
    · rw [e] at h1 h2
      have g2 : ∀ p k, ¬ (p = 108 ∨ (q + 2 ≤ p ∧ p ≤ q + 22)) → I2 p k = I p k := fun p k hp => by
        rw [fr2 p k (by simp only [xi_ST, Bool.or_eq_false_iff, Bool.and_eq_false_iff, beq_eq_false_iff_ne, decide_eq_false_iff_not]; omega), o1 p (by omega)]
      refine xi_read103 cx0 z2 cm2 (xi_PM_fr pm (g2 _ _ (by omega)) (funext (fun k => g2 _ _ (by omega)))) (xi_HM_fr hm (g2 _ _ (by omega)) (funext (fun k => g2 _ _ (by omega))) (funext (fun k => g2 _ _ (by omega)))) (xi_WM_fr wm (g2 _ _ (by omega)) (funext (fun k => g2 _ _ (by omega)))) bd2 (fun F hF I' fm fr e1 => h1 F hF I' fm fr (by rw [e1]; exact funext (fun k => g2 _ _ (by omega)))) h2
    · rw [hg] at h2
      exact xs_fin103 cx0 f2 (h2 g rfl)
  · rw [if_neg h67] at h1 h2
    exact xa_t rfl (xi_read103 cx0 z cm pm hm wm bd h1 h2)
theorem xi_readP {I0 I : pI} {R : pR} {q L p a1 a3 : Nat} {its : List xi_I} {ts : List (Nat × Nat × Nat × Nat)} {Q : Int32 → pI → pR → Prop} (cx0 : xc_CX I0 R q ts L) (z : xi_Z I0 I R q ts L p) (cm : xi_CM I q its) (pm : xi_PM I q [] 0) (hm : xi_HM I q []) (wm : xi_WM I q []) (bd : xi_BD ts L its p)
    (h1 : ∀ F, xi_fea2 (xt_kd ts L) (xt_nm ts L) (xt_pl ts L) (xt_en ts L) p its = .inr F → ∀ I', xi_FM I' q F → xa_fr (xs_S q) I0 I' → I' (q + 1) = I (q + 1) → Q (-1) I' R)
    (h2 : ∀ g, xi_fea2 (xt_kd ts L) (xt_nm ts L) (xt_pl ts L) (xt_en ts L) p its = .inl g → ∀ I', xa_fr (xs_S q) I0 I' → Q (nI (xt_pl ts L g)) I' R) :
    w_ps_part I R (fun I6 R5 => (∃ n1, l_ps_read_54 a1 a3 (fun I11 R10 => (j_ps_read_89 a1 a3 Q I11 R10)) Q n1 (0 : Int32) I6 R5)) := by
  have w := cx0.2.2.1
  have hq := cx0.2.2.2.2
  refine xi_prtC cx0 z cm pm bd (by simp) (fun p1 its1 e1 I1 z1 cm1 pm1 bd1 hpp1 fr1 => ⟨121, ?_⟩) (fun g hg I1 f1 => ⟨1, ?_⟩)
  · have e := xi_prs_r (m := 120) e1
    refine xi_prsL cx0 120 0 p1 its1 _ I1 (by omega) (by omega) (by simp; omega) z1 cm1 pm1 bd1 (fun p2 its2 st2 e2 I2 z2 cm2 pm2 bd2 fr2 => ?_) (fun g hg I2 f2 => ?_)
    · have g2 : ∀ p k, ¬ (p = 108 ∨ (q + 2 ≤ p ∧ p ≤ q + 23) ∨ (p = q ∧ k = 8)) → I2 p k = I p k := fun p k hp => by
        rw [fr2 p k (by simp only [xi_SP, Bool.or_eq_false_iff, Bool.and_eq_false_iff, beq_eq_false_iff_ne, decide_eq_false_iff_not]; omega), fr1 p k (by simp only [xi_SP, Bool.or_eq_false_iff, Bool.and_eq_false_iff, beq_eq_false_iff_ne, decide_eq_false_iff_not]; omega)]
      have ef : xi_fea2 (xt_kd ts L) (xt_nm ts L) (xt_pl ts L) (xt_en ts L) p its = (if xt_kd ts L p2 = 67 then (match xi_blk (xt_kd ts L) (xt_nm ts L) (xt_pl ts L) (xt_en ts L) st2.length 2 (p2 + 1) its2 with
          | .inl f => .inl f
          | .inr (q2, a2) => xi_fea3 (xt_kd ts L) (xt_nm ts L) (xt_pl ts L) (xt_en ts L) q2 a2 st2 its2.length)
        else xi_fea3 (xt_kd ts L) (xt_nm ts L) (xt_pl ts L) (xt_en ts L) p2 its2 st2 its2.length) := by
        unfold xi_fea2
        rw [show (121 : Nat) = 120 + 1 from rfl, e, e2]
        dsimp only
        rcases xi_blk (xt_kd ts L) (xt_nm ts L) (xt_pl ts L) (xt_en ts L) st2.length 2 (p2 + 1) its2 with f | ⟨q2, a2⟩ <;> rfl
      rw [ef] at h1 h2
      exact xi_read89 cx0 z2 cm2 pm2 (xi_HM_fr hm (g2 _ _ (by omega)) (funext (fun k => g2 _ _ (by omega))) (funext (fun k => g2 _ _ (by omega)))) (xi_WM_fr wm (g2 _ _ (by omega)) (funext (fun k => g2 _ _ (by omega)))) bd2 (fun F hF I' fm fr e1 => h1 F hF I' fm fr (by rw [e1]; exact funext (fun k => g2 _ _ (by omega)))) h2
    · have ef : xi_fea2 (xt_kd ts L) (xt_nm ts L) (xt_pl ts L) (xt_en ts L) p its = .inl g := by
        unfold xi_fea2
        rw [show (121 : Nat) = 120 + 1 from rfl, e, hg]
      exact xs_fin89 cx0 f2 (h2 g ef)
  · have ef : xi_fea2 (xt_kd ts L) (xt_nm ts L) (xt_pl ts L) (xt_en ts L) p its = .inl g := by
      unfold xi_fea2
      rw [show (121 : Nat) = 120 + 1 from rfl, xi_prs_l hg]
    have hfin := xs_fin89 (a1 := a1) (a3 := a3) (Q := Q) cx0 f1 (h2 g ef)
    unfold l_ps_read_54
    exact ⟨fun _ => hfin, fun _ => xs_next cx0 f1 (fun k hk hb => xa_f (xa_ne 69 (by omega)) (xs_next cx0 f1 (fun k hk hb => xa_f' (xa_ne 87 (by omega)) hfin)))⟩
def xi_SA (q p k : Nat) : Bool := (decide (108 ≤ p) && decide (p ≤ 113)) || (decide (q ≤ p) && decide (p ≤ q + 26))
set_option maxHeartbeats 1000000 in
theorem xi_readC {I : pI} {R : pR} {q L : Nat} {x : Nat → Nat} {Q : Int32 → pI → pR → Prop} (hq : q = 54 ∨ q = 81) (ok : xt_Ok x L) (tx : xt_Tx I 1 x L)
    (h1 : ∀ F, xi_fea (xt_kd (xt_tk x L 120 0) L) (xt_nm (xt_tk x L 120 0) L) (xt_pl (xt_tk x L 120 0) L) (xt_en (xt_tk x L 120 0) L) = .inr F → ∀ I', xi_FM I' q F → xa_fr (xi_SA q) I I' → xt_Tx I' (q + 1) x L → Q (-1) I' (pw_wR R 108 1 (some q)))
    (h2 : ∀ g, xi_fea (xt_kd (xt_tk x L 120 0) L) (xt_nm (xt_tk x L 120 0) L) (xt_pl (xt_tk x L 120 0) L) (xt_en (xt_tk x L 120 0) L) = .inl g → ∀ I', xa_fr (xi_SA q) I I' → Q (nI (xt_pl (xt_tk x L 120 0) L g)) I' (pw_wR R 108 1 (some q))) : w_ps_read 1 q (nI L) I R Q := by
  have hL := ok.1
  have w := xt_tk_WF ok
  unfold w_ps_read
  refine xa_ra ?_
  have hR : (pw_wR R 108 1 (some q)) 108 1 = some q := by unfold pw_wR; simp [va_up]
  generalize pw_wR R 108 1 (some q) = R1 at hR h1 h2 ⊢
  refine ⟨q, hR, xc_sh hq, ?_⟩
  unfold w_ft_begin
  have e1 : (if (120 : Int32) < (Int32.ofNat 120) then (120 : Int32) else (Int32.ofNat 120)) = nI 120 := by decide
  have e2 : (if nI 120 < nI L then nI 120 else nI L) = nI L := by rw [if_neg]; exact nI_nlt hL (by omega)
  have e3 : (if (0 : Int32) < nI L then nI L else (0 : Int32)) = nI L := by
    by_cases h0 : 0 < L
    · rw [if_pos]; exact (xa_llt 0 (by omega) (by omega)).mpr h0
    · rw [if_neg]
      · have : L = 0 := by omega
        subst this; rfl
      · intro h; exact h0 ((xa_llt 0 (by omega) (by omega)).mp h)
  rw [e1, e2, e3, nI_clamp (by omega), show ((0 : Int32)).toNatClampNeg = 0 from rfl]
  refine ⟨⟨by decide, by decide, nI_pos (by omega), ?_, ?_, fun i hi => ?_⟩, ?_⟩
  · rw [nI_clamp (by omega)]; show 0 + L ≤ 120; omega
  · rw [nI_clamp (by omega)]; show 0 + L ≤ 120; omega
  · rw [nI_clamp (by omega)] at hi
    show fits .char (.int (I 1 (0 + i))) = true
    rw [Nat.zero_add, tx i hi]
    exact (pk_charN (by have := (ok.2 i hi).2; omega)).2
  · refine xa_a (xa_a (xa_a (xa_a (xa_a (xa_a (xa_a (xa_a ⟨vp_in_nI (n := 0) (by decide) (by decide), xa_a ?_⟩)))))))
    have hI : ∀ p' k', (pw_wI (pw_wI (pw_wI (pw_wI (pw_wI (pw_wI (pw_wI (pw_wI (pw_cp I 1 (q + 1) 0 0 L) (q + 2) 4 0) (q + 7) 6 0) (q + 14) 8 0) (q + 14) 9 0) q 8 0) q 9 0) q 10 0) (q + 23) 0 0) p' k' = (if p' = q + 23 ∧ k' = 0 then 0 else if p' = q ∧ k' = 10 then 0 else if p' = q ∧ k' = 9 then 0 else if p' = q ∧ k' = 8 then 0 else if p' = q + 14 ∧ k' = 9 then 0 else if p' = q + 14 ∧ k' = 8 then 0 else if p' = q + 7 ∧ k' = 6 then 0 else if p' = q + 2 ∧ k' = 4 then 0 else if p' = q + 1 ∧ k' < L then I 1 k' else I p' k') := by
      intro p' k'
      rw [xa_w, xa_w, xa_w, xa_w, xa_w, xa_w, xa_w, xa_w]
      congr 8
      unfold pw_cp va_cpy
      by_cases hp : p' = q + 1
      · subst hp; simp
      · simp [hp]
    generalize pw_wI (pw_wI (pw_wI (pw_wI (pw_wI (pw_wI (pw_wI (pw_wI (pw_cp I 1 (q + 1) 0 0 L) (q + 2) 4 0) (q + 7) 6 0) (q + 14) 8 0) (q + 14) 9 0) q 8 0) q 9 0) q 10 0) (q + 23) 0 0 = I1 at hI ⊢
    have f1 : ∀ p k, ¬ (q ≤ p ∧ p ≤ q + 26) → I1 p k = I p k := fun p k hp => by
      rw [hI, if_neg (by omega), if_neg (by omega), if_neg (by omega), if_neg (by omega), if_neg (by omega), if_neg (by omega), if_neg (by omega), if_neg (by omega), if_neg (by omega)]
    refine xt_read ok (by decide) (fun i hi => by rw [f1 _ _ (by omega)]; exact tx i hi) (fun I2 tc2 ag2 hL2 => ?_)
    refine xa_a (xa_a ?_)
    have hJ : ∀ p' k', (pw_wI (pw_wI I2 108 2 0) 108 3 (-1)) p' k' = (if p' = 108 ∧ k' = 3 then -1 else if p' = 108 ∧ k' = 2 then 0 else I2 p' k') := by
      intro p' k'; rw [xa_w, xa_w]
    generalize pw_wI (pw_wI I2 108 2 0) 108 3 (-1) = I4 at hJ ⊢
    have f4 : ∀ p k, ¬ (108 ≤ p ∧ p ≤ 113) → I4 p k = I1 p k := fun p k hp => by
      rw [hJ, if_neg (by omega), if_neg (by omega), ag2 p (by omega)]
    have f40 : xa_fr (xi_SA q) I I4 := by
      intro p k hp
      simp only [xi_SA, Bool.or_eq_false_iff, Bool.and_eq_false_iff, decide_eq_false_iff_not] at hp
      rw [f4 p k (by omega), f1 p k (by omega)]
    have cx : xc_CX I4 R1 q (xt_tk x L 120 0) L := by
      refine ⟨⟨by rw [hJ]; simpa using tc2.1, fun i t ht => ?_⟩, by rw [hJ]; simpa using hL2, w, hR, hq⟩
      have := tc2.2 i t ht
      simp only [hJ]; simpa using this
    have z : xi_Z I4 I4 R1 q (xt_tk x L 120 0) L 0 := by
      refine ⟨cx, by rw [hJ]; simp; rfl, by rw [hJ]; simp, fun e he => ?_, xa_fr_r _ _, Nat.zero_le _⟩
      refine ⟨0, Nat.zero_le _, ?_⟩
      have h5 := xs_caps_lt e he
      rw [f4 _ _ (by omega), hI]
      have key : ∀ e, e ∈ xs_caps → (e.1 = 2 ∧ e.2.1 = 4) ∨ (e.1 = 7 ∧ e.2.1 = 6) ∨ (e.1 = 14 ∧ e.2.1 = 8) ∨ (e.1 = 14 ∧ e.2.1 = 9) ∨ (e.1 = 0 ∧ e.2.1 = 8) ∨ (e.1 = 0 ∧ e.2.1 = 9) ∨ (e.1 = 0 ∧ e.2.1 = 10) := by decide
      rcases key e he with ⟨a, b⟩ | ⟨a, b⟩ | ⟨a, b⟩ | ⟨a, b⟩ | ⟨a, b⟩ | ⟨a, b⟩ | ⟨a, b⟩ <;> (rw [a, b]; simp; rfl)
    have cm : xi_CM I4 q [] := by
      refine ⟨⟨?_, fun j it hj => by simp at hj⟩, ?_, xc_CD_nil, ?_, ?_, fun r ru hr => by simp [xi_rs] at hr, fun i a hi => by simp [xi_rs] at hi⟩
      · rw [f4 _ _ (by omega), hI]; simp; rfl
      · rw [f4 _ _ (by omega), hI]; simp [xi_C]; rfl
      · rw [f4 _ _ (by omega), hI]; simp [xi_rs]; rfl
      · rw [f4 _ _ (by omega), hI]; simp [xi_rs]; rfl
    have pm : xi_PM I4 q [] 0 := by
      refine ⟨?_, fun i v hi => by simp at hi, ?_⟩
      · rw [f4 _ _ (by omega), hI]; simp; rfl
      · rw [f4 _ _ (by omega), hI]; simp; rfl
    have hm : xi_HM I4 q [] := ⟨by rw [f4 _ _ (by omega), hI]; simp; rfl, fun i v hi => by simp at hi⟩
    have wm : xi_WM I4 q [] := ⟨by rw [f4 _ _ (by omega), hI]; simp; rfl, fun i v hi => by simp at hi⟩
    have tx4 : xt_Tx I4 (q + 1) x L := by
      intro i hi
      rw [f4 _ _ (by omega), hI]
      simp [hi]
      exact tx i hi
    have bd : xi_BD (xt_tk x L 120 0) L [] 0 := by
      refine ⟨?_, ?_, ?_, ?_⟩ <;> simp [xi_C, xi_rs]
    have fin1 : ∀ F, xi_fea (xt_kd (xt_tk x L 120 0) L) (xt_nm (xt_tk x L 120 0) L) (xt_pl (xt_tk x L 120 0) L) (xt_en (xt_tk x L 120 0) L) = .inr F → ∀ I', xi_FM I' q F → xa_fr (xs_S q) I4 I' → I' (q + 1) = I4 (q + 1) → Q (-1) I' R1 := by
      intro F hF I' fm fr e1
      refine h1 F hF I' fm (xa_fr_t f40 (xa_fr_m fr (fun p k hp => ?_))) (fun i hi => by rw [e1]; exact tx4 i hi)
      simp only [xi_SA, xs_S, Bool.or_eq_false_iff, Bool.and_eq_false_iff, beq_eq_false_iff_ne, decide_eq_false_iff_not] at hp ⊢; omega
    have fin2 : ∀ g, xi_fea (xt_kd (xt_tk x L 120 0) L) (xt_nm (xt_tk x L 120 0) L) (xt_pl (xt_tk x L 120 0) L) (xt_en (xt_tk x L 120 0) L) = .inl g → ∀ I', xa_fr (xs_S q) I4 I' → Q (nI (xt_pl (xt_tk x L 120 0) L g)) I' R1 := by
      intro g hg I' fr
      refine h2 g hg I' (xa_fr_t f40 (xa_fr_m fr (fun p k hp => ?_)))
      simp only [xi_SA, xs_S, Bool.or_eq_false_iff, Bool.and_eq_false_iff, beq_eq_false_iff_ne, decide_eq_false_iff_not] at hp ⊢; omega
    refine xi_take 71 (by decide) z (fun h71 I5 z5 o5 => ?_) (fun h71 => ?_)
    · refine xa_f (by decide) ?_
      refine xi_blkC (part := 0) (k := 0) cx (by omega) z5 (xi_CM_o8 hq cm o5) (xi_BD_m w bd (by omega)) (fun p6 its6 e6 I6 z6 cm6 bd6 hpp6 fr6 => ?_) (fun g hg I6 f6 => ?_)
      · have g6 : ∀ p k, ¬ (p = 108 ∨ (q + 2 ≤ p ∧ p ≤ q + 22)) → I6 p k = I4 p k := fun p k hp => by
          rw [fr6 p k (by simp only [xi_ST, Bool.or_eq_false_iff, Bool.and_eq_false_iff, beq_eq_false_iff_ne, decide_eq_false_iff_not]; omega), o5 p (by omega)]
        have ef : xi_fea (xt_kd (xt_tk x L 120 0) L) (xt_nm (xt_tk x L 120 0) L) (xt_pl (xt_tk x L 120 0) L) (xt_en (xt_tk x L 120 0) L) = xi_fea2 (xt_kd (xt_tk x L 120 0) L) (xt_nm (xt_tk x L 120 0) L) (xt_pl (xt_tk x L 120 0) L) (xt_en (xt_tk x L 120 0) L) p6 its6 := by
          unfold xi_fea; rw [if_pos h71, e6]
        exact xi_readP cx z6 cm6 (xi_PM_fr pm (g6 _ _ (by omega)) (funext (fun k => g6 _ _ (by omega)))) (xi_HM_fr hm (g6 _ _ (by omega)) (funext (fun k => g6 _ _ (by omega))) (funext (fun k => g6 _ _ (by omega)))) (xi_WM_fr wm (g6 _ _ (by omega)) (funext (fun k => g6 _ _ (by omega)))) bd6 (fun F hF I' fm fr e1 => fin1 F (ef.trans hF) I' fm fr (by rw [e1]; exact funext (fun k => g6 _ _ (by omega)))) (fun g hg => fin2 g (ef.trans hg))
      · have ef : xi_fea (xt_kd (xt_tk x L 120 0) L) (xt_nm (xt_tk x L 120 0) L) (xt_pl (xt_tk x L 120 0) L) (xt_en (xt_tk x L 120 0) L) = .inl g := by
          unfold xi_fea; rw [if_pos h71, hg]
        refine xs_part cx f6 (fun I7 f7 => ⟨1, ?_⟩)
        have hfin := xs_fin89 (a1 := 1) (a3 := q) (Q := Q) cx f7 (fin2 g ef)
        unfold l_ps_read_54
        exact ⟨fun _ => hfin, fun _ => xs_next cx f7 (fun k hk hb => xa_f (xa_ne 69 (by omega)) (xs_next cx f7 (fun k hk hb => xa_f' (xa_ne 87 (by omega)) hfin)))⟩
    · refine xa_t rfl ?_
      have ef : xi_fea (xt_kd (xt_tk x L 120 0) L) (xt_nm (xt_tk x L 120 0) L) (xt_pl (xt_tk x L 120 0) L) (xt_en (xt_tk x L 120 0) L) = xi_fea2 (xt_kd (xt_tk x L 120 0) L) (xt_nm (xt_tk x L 120 0) L) (xt_pl (xt_tk x L 120 0) L) (xt_en (xt_tk x L 120 0) L) 0 [] := by
        unfold xi_fea; rw [if_neg h71]
      exact xi_readP cx z cm pm hm wm bd (fun F hF I' fm fr e1 => fin1 F (ef.trans hF) I' fm fr e1) (fun g hg => fin2 g (ef.trans hg))
