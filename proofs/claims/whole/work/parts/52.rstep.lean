/-! THE REFERENCE'S READER: steps of the loop -/
theorem xp_lev_le (k : Nat) : xp_lev k ≤ 4 ∨ xp_lev k = 9 := by
  unfold xp_lev
  repeat' split
  all_goals decide
theorem xp_L_nx {kd pl : Nat → Nat} {f : Nat → Nat ⊕ (Nat × xp_X)} {lv T : Nat} (hlv : lv ≤ 4) (hf : ∀ p q y, f p = .inr (q, y) → p < q ∧ q ≤ T ∧ (xp_lev (kd q) < lv + 1 ∨ xp_lev (kd q) = 9)) : ∀ m q x q' x', T < q + m → q ≤ T → (xp_lev (kd q) < lv + 1 ∨ xp_lev (kd q) = 9) → xp_L kd pl f lv m q x = .inr (q', x') → xp_lev (kd q') < lv ∨ xp_lev (kd q') = 9 := by
  intro m; induction m with
  | zero => intro q x q' x' h1 h2; omega
  | succ m ih =>
    intro q x q' x' h1 h2 h3 e
    unfold xp_L at e
    by_cases hl : xp_lev (kd q) = lv
    · rw [if_pos hl] at e
      cases hq : f (q + 1) with
      | inl g => rw [hq] at e; cases e
      | inr z =>
        obtain ⟨q2, y⟩ := z
        rw [hq] at e
        have hy := hf _ _ _ hq
        simp only at e
        by_cases hl2 : lv = 2
        · rw [if_pos hl2] at e
          split at e
          · cases e
          · cases e; omega
        · rw [if_neg hl2] at e
          exact ih _ _ _ _ (by omega) hy.2.1 hy.2.2 e
    · rw [if_neg hl] at e; cases e; omega
theorem xp_nx {ts : List (Nat × Nat × Nat × Nat)} {L : Nat} (w : xt_WF ts L) : ∀ n lv dp ok p q x, lv ≤ 5 → xp_P (xt_kd ts L) (xt_nm ts L) (xt_pl ts L) n 0 lv dp ok p = .inr (q, x) → xp_lev (xt_kd ts L q) < lv ∨ xp_lev (xt_kd ts L q) = 9 := by
  intro n; induction n with
  | zero => intro lv dp ok p q x _ h; cases h
  | succ n ih =>
    intro lv dp ok p q x hlv h
    by_cases h4 : 4 < lv
    · have := xp_lev_le (xt_kd ts L q); omega
    · unfold xp_P at h
      rw [if_pos rfl, if_neg h4] at h
      cases hq : xp_P (xt_kd ts L) (xt_nm ts L) (xt_pl ts L) n 0 (lv + 1) dp ok p with
      | inl g => rw [hq] at h; cases h
      | inr z =>
        obtain ⟨q2, y⟩ := z
        rw [hq] at h
        have hl := xp_len w (by omega) (by omega) hq
        refine xp_L_nx (T := ts.length) (by omega) (fun p q y e => ?_) 121 q2 y q x (by have := w.1; have := w.2.1; omega) hl.2.1 (ih _ _ _ _ _ _ (by omega) hq) h
        have hl := xp_len w (by omega) (by omega) e
        exact ⟨hl.1, hl.2.1, ih _ _ _ _ _ _ (by omega) e⟩
theorem xr_pt_mid (A B : List xp_I) (o a d s : Nat) : xr_pt A.length (A ++ (o, a, d, s) :: B) = A ++ (o, a, B.length + 1, s) :: B := by
  unfold xr_pt
  have e : (A ++ (o, a, d, s) :: B)[A.length]? = some (o, a, d, s) := by simp
  rw [e]
  simp
def xr_LP (f1 f2 : Int32) (K : pI → pR → Prop) (Q : Int32 → pI → pR → Prop) (R : pR) (T p : Nat) (I : pI) : Prop := ∀ m, T + 2 ≤ p + m → l_md_expression_27 f1 f2 K Q m 1 I R
def xr_uv (rc : Int32) (u : List (Nat × Nat)) : List (Nat × Nat × Nat × Int32) := u.map (fun e => ((if rc < 0 then 0 else 1), e.1, e.2, rc))
theorem xr_tok {I : pI} {L p : Nat} {ts : List (Nat × Nat × Nat × Nat)} (tk : xr_TK I ts L) (hp : p ≤ ts.length) : I 123 p = nI (xt_ka (xt_kd ts L p)) ∧ (xt_kd ts L p ≠ 257 → I 124 p = nI (xt_nm ts L p)) ∧ I 125 p = nI (xt_pl ts L p) ∧ I 126 p = nI (xt_en ts L p) := tk.2 p (by omega)
theorem xt_ka_b {k : Nat} (h : k < 267) : xt_ka k < 300 := by
  unfold xt_ka
  repeat' split
  all_goals omega
theorem xt_ka_eq {ts : List (Nat × Nat × Nat × Nat)} {L p : Nat} (w : xt_WF ts L) (c : Nat) (hc : 33 ≤ c ∧ c < 127) : xt_ka (xt_kd ts L p) = c ↔ xt_kd ts L p = c := by
  have h : xt_kd ts L p = 256 ∨ xt_kd ts L p < 127 ∨ (257 ≤ xt_kd ts L p ∧ xt_kd ts L p ≤ 266) := by
    by_cases hi : p < ts.length
    · have := (w.2.2 p hi).1
      unfold xt_kd; unfold xt_gd at this; omega
    · left; unfold xt_kd; rw [xt_at_ge (by omega)]
  generalize xt_kd ts L p = k at h ⊢
  unfold xt_ka
  repeat' split
  all_goals omega
theorem xt_ka_1 {ts : List (Nat × Nat × Nat × Nat)} {L p : Nat} (w : xt_WF ts L) : (xt_ka (xt_kd ts L p) = 1 ↔ xt_kd ts L p = 258) ∧ (xt_ka (xt_kd ts L p) = 2 ↔ xt_kd ts L p = 259) ∧ (xt_ka (xt_kd ts L p) = 0 ↔ xt_kd ts L p = 256) := by
  have h : xt_kd ts L p = 256 ∨ (33 ≤ xt_kd ts L p ∧ xt_kd ts L p < 127) ∨ (257 ≤ xt_kd ts L p ∧ xt_kd ts L p ≤ 266) := by
    by_cases hi : p < ts.length
    · have := (w.2.2 p hi).1
      unfold xt_kd; unfold xt_gd at this; omega
    · left; unfold xt_kd; rw [xt_at_ge (by omega)]
  generalize xt_kd ts L p = k at h ⊢
  unfold xt_ka
  refine ⟨?_, ?_, ?_⟩ <;> (repeat' split) <;> omega
theorem xr_side1 {f1 f2 : Int32} {K : pI → pR → Prop} {Q : Int32 → pI → pR → Prop} {I : pI} {R : pR} {L b p dp mk ib m : Nat} {ts : List (Nat × Nat × Nat × Nat)} {W : List (Nat × Nat × Nat)} {G : List xp_I} {ev : List (Nat × Nat × Nat × Int32)} (tk : xr_TK I ts L) (st : xr_ST I b p W G dp mk ib 1 ev) (hp : p ≤ ts.length)
    (h : w_md_operand f2 I R (fun v10 I28 R21 => ((¬ v10 = 0 → l_md_expression_27 f1 f2 K Q m 1 I28 R21) ∧ (v10 = 0 → Q (0 : Int32) I28 R21)))) : l_md_expression_27 f1 f2 K Q (m + 1) 1 I R := by
  have := tk.1.1; have := tk.1.2.1
  have hkb := xt_ka_b (xt_kd_b tk.1 (i := p))
  unfold l_md_expression_27
  refine xa_f (by decide) ?_
  rw [st.1, nI_clamp (by omega), (xr_tok tk hp).1]
  refine ⟨vp_in_nI (by omega) (by omega), ?_⟩
  rw [xr_rank (by omega)]
  exact xa_f (by rw [st.2.2.2.2.2.2.2.2.1]; decide) h
/-- a number or a variable -/
theorem xr_opd65 {I : pI} {R : pR} {L b p dp mk ib o : Nat} {ts : List (Nat × Nat × Nat × Nat)} {S W : List (Nat × Nat × Nat)} {G : List xp_I} {ev : List (Nat × Nat × Nat × Int32)} {Q : Int32 → pI → pR → Prop} (hb4 : b ≤ 400) (tk : xr_TK I ts L) (st : xr_ST I b p (S ++ W) G dp mk ib 1 ev) (hp : p < ts.length) (hk : xt_kd ts L p ≠ 257)
    (hW : ∀ e W', W = e :: W' → e.1 ≠ 203 ∧ e.1 ≠ 204 ∧ e.1 < 300) (hs : ∀ e, e ∈ S → e.1 = 203 ∨ e.1 = 204) (hl : (S ++ W).length ≤ 64) (hb : b + G.length + 1 + S.length ≤ b + 400) (hd : S.length ≤ dp)
    (h : ∀ I', xr_ST I' b (p + 1) W (G ++ [(o, xt_nm ts L p, 0, xt_pl ts L p)] ++ xr_sg S) (dp - S.length) mk ib 0 ev → xa_fr (xr_S b) I I' → Q 1 I' R) : j_md_operand_65 Q (nI o) (nI (xt_pl ts L p)) I R := by
  have := tk.1.1; have := tk.1.2.1
  unfold j_md_operand_65
  rw [st.1, nI_clamp (by omega), (xr_tok tk (by omega)).2.1 hk]
  refine ⟨vp_in_nI (by omega) (by omega), xr_emit hb4 st (by omega) (fun I1 st1 fr1 => ?_)⟩
  rw [st1.1, nI_1]
  refine xa_a ?_
  obtain ⟨st2, fr2⟩ := xr_w7 (p + 1) st1
  exact xr_signs hb4 st2 hW hs hl (by simp; omega) hd (fun I' a b => h I' a (xa_fr_t fr1 (xa_fr_t fr2 b)))
theorem xr_opd30 {I : pI} {R : pR} {L b p dp mk ib : Nat} {rc f2 : Int32} {ts : List (Nat × Nat × Nat × Nat)} {S W : List (Nat × Nat × Nat)} {G : List xp_I} {ev : List (Nat × Nat × Nat × Int32)} {Q : Int32 → pI → pR → Prop} (hb4 : b ≤ 400) (tk : xr_TK I ts L) (hrc : I 121 52 = rc) (st : xr_ST I b p (S ++ W) G dp mk ib 1 ev) (hk : xt_kd ts L p = 258 ∨ xt_kd ts L p = 259)
    (hW : ∀ e W', W = e :: W' → e.1 ≠ 203 ∧ e.1 ≠ 204 ∧ e.1 < 300) (hs : ∀ e, e ∈ S → e.1 = 203 ∨ e.1 = 204) (hl : (S ++ W).length ≤ 64) (hb : b + G.length + 1 + S.length ≤ b + 400) (hd : S.length ≤ dp) (hev : ev.length < 170)
    (h : ∀ I', xr_ST I' b (p + 1) W (G ++ (if xt_kd ts L p = 258 then xp_num (xt_nm ts L p) (xt_pl ts L p) else xp_var (xt_nm ts L p) (xt_pl ts L p)).2.1 ++ xr_sg S) (dp - S.length) mk ib 0 (ev ++ xr_uv rc (if xt_kd ts L p = 258 then xp_num (xt_nm ts L p) (xt_pl ts L p) else xp_var (xt_nm ts L p) (xt_pl ts L p)).2.2.2.1) → xa_fr (xr_S b) I I' → Q 1 I' R) : w_md_operand f2 I R Q := by
  have := tk.1.1; have := tk.1.2.1
  have hp := xt_kd_lt tk.1 (i := p) (by omega)
  unfold w_md_operand
  rw [st.1, nI_clamp (by omega), (xr_tok tk (by omega)).1, (xr_tok tk (by omega)).2.2.1]
  refine ⟨vp_in_nI (by omega) (by omega), vp_in_nI (by omega) (by omega), ?_⟩
  by_cases h8 : xt_kd ts L p = 258
  · rw [if_pos h8] at h
    rw [(xt_ka_1 tk.1).1.mpr h8]
    refine xa_t rfl ?_
    unfold j_md_operand_30
    refine xa_f' (by decide) ?_
    refine xr_opd65 hb4 tk st hp (by omega) hW hs hl hb hd (fun I' a b => h I' ?_ b)
    simpa [xp_num, xr_uv] using a
  · have h9 := hk.resolve_left h8
    rw [if_neg h8] at h
    rw [(xt_ka_1 tk.1).2.1.mpr h9]
    refine xa_f (by decide) (xa_t' rfl ?_)
    unfold j_md_operand_30
    refine xa_t' rfl ?_
    rw [hrc]
    have hgo : ∀ t, t = (if rc < 0 then 0 else 1) → j_md_operand_48 Q (nI 2) (nI (xt_pl ts L p)) (nI t) I R := by
      intro t ht
      unfold j_md_operand_48
      rw [st.1, nI_clamp (by omega), (xr_tok tk (by omega)).2.1 (by omega), hrc]
      refine ⟨vp_in_nI (by omega) (by omega), xr_note st hev (fun I1 st1 fr1 => ?_)⟩
      refine xr_opd65 hb4 (xr_TK_fr tk fr1 xr_S_tk) st1 hp (by omega) hW hs hl hb hd (fun I' a b => h I' ?_ (xa_fr_t fr1 b))
      subst ht
      simpa [xp_var, xr_uv] using a
    by_cases hr : rc < 0
    · exact xa_t hr (hgo 0 (by rw [if_pos hr]))
    · exact xa_f hr (hgo 1 (by rw [if_neg hr]))
/-- a sign -/
theorem xr_opd108 {I : pI} {R : pR} {L b p dp mk ib : Nat} {f2 : Int32} {ts : List (Nat × Nat × Nat × Nat)} {W : List (Nat × Nat × Nat)} {G : List xp_I} {ev : List (Nat × Nat × Nat × Int32)} {Q : Int32 → pI → pR → Prop} (tk : xr_TK I ts L) (st : xr_ST I b p W G dp mk ib 1 ev) (hk : xt_kd ts L p = 45 ∨ xt_kd ts L p = 33) (hl : W.length < 64) (hd : dp ≤ 4)
    (h : dp < 4 → ∀ I', xr_ST I' b (p + 1) ((if xt_kd ts L p = 45 then 203 else 204, xt_pl ts L p, 0) :: W) G (dp + 1) mk ib 1 ev → xa_fr (xr_S b) I I' → Q 1 I' R)
    (h2 : ¬ dp < 4 → ∀ I', I' 121 8 = nI (xt_pl ts L p) → xa_fr (xr_S b) I I' → Q 0 I' R) : w_md_operand f2 I R Q := by
  have := tk.1.1; have := tk.1.2.1
  have hp := xt_kd_lt tk.1 (i := p) (by omega)
  have hkb := xt_ka_b (xt_kd_b tk.1 (i := p))
  have e1 : xt_ka (xt_kd ts L p) = xt_kd ts L p := xt_ka_lt (by omega)
  unfold w_md_operand
  rw [st.1, nI_clamp (by omega), (xr_tok tk (by omega)).1, (xr_tok tk (by omega)).2.2.1, e1]
  refine ⟨vp_in_nI (by omega) (by omega), vp_in_nI (by omega) (by omega), ?_⟩
  have hgo : j_md_operand_108 Q (nI (xt_kd ts L p)) (nI (xt_pl ts L p)) I R := by
    unfold j_md_operand_108
    refine xr_deeper tk st hd (by omega) (fun h4 I1 st1 fr1 => ?_) (fun h4 I1 e fr1 => ?_)
    · refine xa_f' (by decide) ?_
      by_cases h45 : xt_kd ts L p = 45
      · rw [if_pos h45] at h
        refine xa_t' (xa_e 45 h45) ?_
        refine xr_push (o := 203) (f := 0) st1 hl (fun I2 st2 fr2 => ?_)
        rw [st2.1, nI_1]
        refine xa_a ?_
        obtain ⟨st3, fr3⟩ := xr_w7 (p + 1) st2
        exact h h4 _ st3 (xa_fr_t fr1 (xa_fr_t fr2 fr3))
      · rw [if_neg h45] at h
        refine xa_f' (xa_ne 45 (by omega)) ?_
        refine xr_push (o := 204) (f := 0) st1 hl (fun I2 st2 fr2 => ?_)
        rw [st2.1, nI_1]
        refine xa_a ?_
        obtain ⟨st3, fr3⟩ := xr_w7 (p + 1) st2
        exact h h4 _ st3 (xa_fr_t fr1 (xa_fr_t fr2 fr3))
    · exact xa_t' rfl (h2 h4 I1 e fr1)
  refine xa_f (xa_ne 1 (by omega)) (xa_f' (xa_ne 2 (by omega)) ?_)
  by_cases h45 : xt_kd ts L p = 45
  · exact xa_t (xa_e 45 h45) hgo
  · exact xa_f (xa_ne 45 (by omega)) (xa_t' (xa_e 33 (hk.resolve_left h45)) hgo)
