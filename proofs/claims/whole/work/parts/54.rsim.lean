theorem xr_HW_lt {k k' : Nat} {W : List (Nat × Nat × Nat)} (h : xr_HW k W) (hk : k < k') : ∀ e W', W = e :: W' → xr_rk e.1 < k' ∧ e.1 < 300 := fun e W' he => ⟨Nat.lt_of_le_of_lt (h e W' he).1 hk, (h e W' he).2.2.2⟩
theorem xr_HW_ns {k : Nat} {W : List (Nat × Nat × Nat)} (h : xr_HW k W) : ∀ e W', W = e :: W' → e.1 ≠ 203 ∧ e.1 ≠ 204 ∧ e.1 < 300 := fun e W' he => (h e W' he).2
theorem xr_HW_m {k k' : Nat} {W : List (Nat × Nat × Nat)} (h : xr_HW k W) (hk : k ≤ k') : xr_HW k' W := fun e W' he => ⟨Nat.le_trans (h e W' he).1 hk, (h e W' he).2⟩
theorem xr_opstep {F1 : Nat} {f2 : Int32} {K : pI → pR → Prop} {Q : Int32 → pI → pR → Prop} {I : pI} {R : pR} {L b p dp mk ib m lv : Nat} {ts : List (Nat × Nat × Nat × Nat)} {E W : List (Nat × Nat × Nat)} {G : List xp_I} {ev : List (Nat × Nat × Nat × Int32)} (hb4 : b ≤ 400) (tk : xr_TK I ts L) (st : xr_ST I b p (E ++ W) G dp mk ib 0 ev) (hl : xp_lev (xt_kd ts L p) = lv) (hlv : lv ≤ 4) (eo : xr_EO (if lv = 2 then 4 else lv + 1) b G.length E) (hw : xr_HW lv W) (hlen : (E ++ W).length ≤ 64) (hlen2 : W.length < 64) (hb : b + G.length + E.length + 1 ≤ b + 400) (hF : F1 ≤ 10) (hm : 0 < mk ∨ F1 ≤ lv + 1) (hmk : mk ≤ 10)
    (h : ∀ I', xr_ST I' b (p + 1) ((xt_ka (xt_kd ts L p), xt_pl ts L p, b + (xr_red b E G).length) :: W) (xr_red b E G ++ (if lv < 2 then [(205, 0, 0, xt_pl ts L p)] else [])) dp mk ib 1 ev → xa_fr (xr_S b) I I' → l_md_expression_27 (nI F1) f2 K Q m 1 I' R) : l_md_expression_27 (nI F1) f2 K Q (m + 1) 1 I R := by
  have h1 := tk.1.1; have h2 := tk.1.2.1
  have hp := xt_kd_lt tk.1 (i := p) (xp_lev_ne (by omega))
  have hkb := xt_ka_b (xt_kd_b tk.1 (i := p))
  have hrl := xr_red_len b E G
  have hr : xr_rk (xt_ka (xt_kd ts L p)) = lv + 1 := by rw [xr_rk_ka tk.1, hl, if_neg (by omega)]
  unfold l_md_expression_27
  refine xa_f (by decide) ?_
  rw [st.1, nI_clamp (by omega), (xr_tok tk (by omega)).1]
  refine ⟨vp_in_nI (by omega) (by omega), ?_⟩
  rw [xr_rank (by omega), hr]
  refine xa_t (by rw [st.2.2.2.2.2.2.2.2.1]) (xa_f (fun hh => by have := (xa_lel 0 (by omega) (by omega)).mp hh; omega) ?_)
  have h132 : ∀ I1, xr_ST I1 b p W (xr_red b E G) dp mk ib 0 ev → xa_fr (xr_S b) I I1 → j_md_expression_132 (fun y I' R' => l_md_expression_27 (nI F1) f2 K Q m y I' R') Q (nI F1) f2 1 (nI (lv + 1)) I1 R := by
    intro I1 st1 fr1
    have tk1 := xr_TK_fr tk fr1 xr_S_tk
    unfold j_md_expression_132
    rw [st1.1, nI_clamp (by omega), (xr_tok tk1 (by omega)).1, (xr_tok tk1 (by omega)).2.2.1, st1.2.2.2.1]
    refine ⟨vp_in_nI (by omega) (by omega), vp_in_nI (by omega) (by omega), xr_push st1 hlen2 (fun I2 st2 fr2 => ?_)⟩
    have h181 : ∀ I3 G3, xr_ST I3 b p ((xt_ka (xt_kd ts L p), xt_pl ts L p, b + (xr_red b E G).length) :: W) G3 dp mk ib 0 ev → G3 = xr_red b E G ++ (if lv < 2 then [(205, 0, 0, xt_pl ts L p)] else []) → xa_fr (xr_S b) I I3 → j_md_expression_181 (fun y I' R' => l_md_expression_27 (nI F1) f2 K Q m y I' R') Q (nI F1) f2 1 I3 R := by
      intro I3 G3 st3 e3 fr3
      unfold j_md_expression_181
      refine xa_a ?_
      obtain ⟨st4, fr4⟩ := xr_w46 1 st3
      rw [st4.1, nI_1]
      refine xa_a ?_
      obtain ⟨st5, fr5⟩ := xr_w7 (p + 1) st4
      subst e3
      exact h _ st5 (xa_fr_t fr3 (xa_fr_t fr4 fr5))
    by_cases h3 : lv < 2
    · refine xa_f (fun hh => by have := (xa_lle 3 (by omega) (by omega)).mp hh; omega) ?_
      have tk2 := xr_TK_fr tk1 fr2 xr_S_tk
      rw [st2.1, nI_clamp (by omega), (xr_tok tk2 (by omega)).2.2.1]
      refine ⟨vp_in_nI (by omega) (by omega), xr_emit hb4 (o := 205) (a := 0) st2 (by omega) (fun I3 st3 fr3 => ?_)⟩
      exact h181 I3 _ st3 (by rw [if_pos h3]) (xa_fr_t fr1 (xa_fr_t fr2 fr3))
    · refine xa_t ((xa_lle 3 (by omega) (by omega)).mpr (by omega)) ?_
      exact h181 I2 _ st2 (by rw [if_neg h3, List.append_nil]) (xa_fr_t fr1 fr2)
  have h80 : j_md_expression_80 (fun y I' R' => l_md_expression_27 (nI F1) f2 K Q m y I' R') Q (nI F1) f2 1 (nI (lv + 1)) I R := by
    unfold j_md_expression_80
    by_cases h3 : lv = 2
    · rw [if_pos h3] at eo
      refine xa_t' (xa_e 3 (by omega)) ?_
      unfold j_md_expression_93
      refine xr_reduce hb4 (k := 4) st (by omega) (xr_HW_lt hw (by omega)) eo hlen (by omega) (fun I1 st1 fr1 => ?_)
      refine xa_t' (xa_e 3 (by omega)) ?_
      rw [st1.2.1]
      cases W with
      | nil => exact xa_t (by decide) (h132 I1 st1 fr1)
      | cons e W =>
        have he := hw e W rfl
        have e0 : nI (e :: W).length - 1 = nI W.length := nI_pred _
        simp only [List.length_cons] at hlen2
        refine xa_f ?_ ?_
        · intro hh; have := (xa_lel 0 (by simp; omega) (by omega)).mp hh; simp at this
        · rw [e0, nI_clamp (by omega), st1.2.2.1.1]
          refine ⟨vp_in_nI (by omega) (by omega), ?_⟩
          rw [xr_rank (by omega)]
          exact xa_f' (xa_ne 3 (by omega)) (h132 I1 st1 fr1)
    · rw [if_neg h3] at eo
      refine xa_f' (xa_ne 3 (by omega)) ?_
      unfold j_md_expression_93
      refine xr_reduce hb4 (k := lv + 1) st (by omega) (xr_HW_lt hw (by omega)) eo hlen (by omega) (fun I1 st1 fr1 => ?_)
      exact xa_f' (xa_ne 3 (by omega)) (h132 I1 st1 fr1)
  rw [st.2.2.2.2.2.2.1]
  by_cases h0 : 0 < mk
  · exact xa_t ((xa_llt 0 (by omega) (by omega)).mpr h0) h80
  · refine xa_f (fun hh => h0 ((xa_llt 0 (by omega) (by omega)).mp hh)) (xa_f (fun hh => by have := (nI_ltI (by omega) (by omega)).mp hh; omega) h80)
theorem xr_cmpfail {F1 : Nat} {f2 : Int32} {K : pI → pR → Prop} {Q : Int32 → pI → pR → Prop} {I : pI} {R : pR} {L b p dp mk ib m : Nat} {ts : List (Nat × Nat × Nat × Nat)} {e : Nat × Nat × Nat} {E W : List (Nat × Nat × Nat)} {G : List xp_I} {ev : List (Nat × Nat × Nat × Int32)} (hb4 : b ≤ 400) (tk : xr_TK I ts L) (st : xr_ST I b p (E ++ e :: W) G dp mk ib 0 ev) (hl : xp_lev (xt_kd ts L p) = 2) (eo : xr_EO 4 b G.length E) (he : xr_rk e.1 = 3 ∧ e.1 < 300) (hlen : (E ++ e :: W).length ≤ 64) (hb : b + G.length + E.length ≤ b + 400) (hF : F1 ≤ 10) (hm : 0 < mk ∨ F1 ≤ 3) (hmk : mk ≤ 10)
    (h : ∀ I', I' 121 8 = nI (xt_pl ts L p) → xa_fr (xr_S b) I I' → Q 0 I' R) : l_md_expression_27 (nI F1) f2 K Q (m + 1) 1 I R := by
  have h1 := tk.1.1; have h2 := tk.1.2.1
  have hp := xt_kd_lt tk.1 (i := p) (xp_lev_ne (by omega))
  have hkb := xt_ka_b (xt_kd_b tk.1 (i := p))
  have hr : xr_rk (xt_ka (xt_kd ts L p)) = 3 := by rw [xr_rk_ka tk.1, hl]; rfl
  have hlw : W.length < 64 := by simp at hlen; omega
  unfold l_md_expression_27
  refine xa_f (by decide) ?_
  rw [st.1, nI_clamp (by omega), (xr_tok tk (by omega)).1]
  refine ⟨vp_in_nI (by omega) (by omega), ?_⟩
  rw [xr_rank (by omega), hr]
  refine xa_t (by rw [st.2.2.2.2.2.2.2.2.1]) (xa_f (by decide) ?_)
  have h80 : j_md_expression_80 (fun y I' R' => l_md_expression_27 (nI F1) f2 K Q m y I' R') Q (nI F1) f2 1 (nI 3) I R := by
    unfold j_md_expression_80
    refine xa_t' rfl ?_
    unfold j_md_expression_93
    refine xr_reduce hb4 (k := 4) st (by omega) (fun e' W' h' => by cases h'; omega) eo hlen hb (fun I1 st1 fr1 => ?_)
    refine xa_t' rfl ?_
    have e0 : nI (e :: W).length - 1 = nI W.length := nI_pred _
    rw [st1.2.1]
    refine xa_f ?_ ?_
    · intro hh; have := (xa_lel 0 (by simp; omega) (by omega)).mp hh; simp at this
    · rw [e0, nI_clamp (by omega), st1.2.2.1.1]
      refine ⟨vp_in_nI (by omega) (by omega), ?_⟩
      rw [xr_rank (by omega), he.1]
      refine xa_t' rfl ?_
      refine xr_fail (xr_TK_fr tk fr1 xr_S_tk) st1.1 (by omega) (h _ ?_ (xa_fr_t fr1 (xa_fr_w (xa_fr_r _ _) rfl)))
      rw [xa_w]; simp
  rw [st.2.2.2.2.2.2.1]
  by_cases h0 : 0 < mk
  · exact xa_t ((xa_llt 0 (by omega) (by omega)).mpr h0) h80
  · refine xa_f (fun hh => h0 ((xa_llt 0 (by omega) (by omega)).mp hh)) (xa_f (fun hh => by have := (nI_ltI (by omega) (by omega)).mp hh; omega) h80)
theorem xr_rpar {F1 : Nat} {f2 : Int32} {K : pI → pR → Prop} {Q : Int32 → pI → pR → Prop} {I : pI} {R : pR} {L b p dp mk ib m : Nat} {ts : List (Nat × Nat × Nat × Nat)} {W : List (Nat × Nat × Nat)} {G : List xp_I} {ev : List (Nat × Nat × Nat × Int32)} (tk : xr_TK I ts L) (st : xr_ST I b p W G dp mk ib 0 ev) (hp : p ≤ ts.length) (hl : xp_lev (xt_kd ts L p) = 9) (hm : 0 < mk) (hmk : mk ≤ 10)
    (h1 : xt_kd ts L p = 41 → w_md_close I R (fun I9 R4 => l_md_expression_27 (nI F1) f2 K Q m 1 I9 R4))
    (h2 : xt_kd ts L p ≠ 41 → ∀ I', I' 121 8 = nI (xt_pl ts L p) → xa_fr (xr_S b) I I' → Q 0 I' R) : l_md_expression_27 (nI F1) f2 K Q (m + 1) 1 I R := by
  have h3 := tk.1.1; have h4 := tk.1.2.1
  have hkb := xt_ka_b (xt_kd_b tk.1 (i := p))
  have hr : xr_rk (xt_ka (xt_kd ts L p)) = 0 := by rw [xr_rk_ka tk.1, hl]; rfl
  unfold l_md_expression_27
  refine xa_f (by decide) ?_
  rw [st.1, nI_clamp (by omega), (xr_tok tk (by omega)).1]
  refine ⟨vp_in_nI (by omega) (by omega), ?_⟩
  rw [xr_rank (by omega), hr]
  refine xa_t (by rw [st.2.2.2.2.2.2.2.2.1]) (xa_t (by decide) ?_)
  unfold j_md_expression_199
  have hn : ¬ nI mk ≤ 0 := fun hh => by have := (xa_lel 0 (by omega) (by omega)).mp hh; omega
  rw [st.2.2.2.2.2.2.1]
  refine xa_f hn ?_
  rw [st.1, nI_clamp (by omega), (xr_tok tk (by omega)).1]
  refine ⟨vp_in_nI (by omega) (by omega), ?_⟩
  have h41 := xt_ka_eq tk.1 (p := p) 41 (by decide)
  by_cases hk : xt_kd ts L p = 41
  · exact xa_t' (xa_e 41 (h41.mpr hk)) (h1 hk)
  · refine xa_f' (xa_ne 41 (by omega)) (xa_f hn ?_)
    refine xr_fail tk st.1 (by omega) (h2 hk _ ?_ (xa_fr_w (xa_fr_r _ _) rfl))
    rw [xa_w]; simp
theorem xr_fin {F1 : Nat} {f2 : Int32} {K : pI → pR → Prop} {Q : Int32 → pI → pR → Prop} {I : pI} {R : pR} {L b p dp ib m : Nat} {ts : List (Nat × Nat × Nat × Nat)} {W : List (Nat × Nat × Nat)} {G : List xp_I} {ev : List (Nat × Nat × Nat × Int32)} (tk : xr_TK I ts L) (st : xr_ST I b p W G dp 0 ib 0 ev) (hp : p ≤ ts.length) (hF : F1 ≤ 10) (hl : xp_lev (xt_kd ts L p) = 9 ∨ xp_lev (xt_kd ts L p) + 1 < F1)
    (h : K I R) : l_md_expression_27 (nI F1) f2 K Q (m + 2) 1 I R := by
  have h3 := tk.1.1; have h4 := tk.1.2.1
  have hkb := xt_ka_b (xt_kd_b tk.1 (i := p))
  have hrk := xr_rk_le (xt_ka (xt_kd ts L p))
  have hr := xr_rk_ka tk.1 (i := p)
  have h199 : j_md_expression_199 (fun y1 I10 R5 => l_md_expression_27 (nI F1) f2 K Q (m + 1) y1 I10 R5) Q (nI F1) f2 1 I R := by
    unfold j_md_expression_199
    rw [st.2.2.2.2.2.2.1]
    refine xa_t (by decide) (xa_t (by decide) ?_)
    show l_md_expression_27 (nI F1) f2 K Q (m + 1) 0 I R
    unfold l_md_expression_27
    exact xa_t rfl h
  show l_md_expression_27 (nI F1) f2 K Q (m + 1 + 1) 1 I R
  unfold l_md_expression_27
  refine xa_f (by decide) ?_
  rw [st.1, nI_clamp (by omega), (xr_tok tk (by omega)).1]
  refine ⟨vp_in_nI (by omega) (by omega), ?_⟩
  rw [xr_rank (by omega)]
  refine xa_t (by rw [st.2.2.2.2.2.2.2.2.1]) ?_
  by_cases h0 : xr_rk (xt_ka (xt_kd ts L p)) = 0
  · rw [h0]; exact xa_t (by decide) h199
  · refine xa_f (fun hh => by have := (xa_lel 0 (by omega) (by omega)).mp hh; omega) ?_
    rw [st.2.2.2.2.2.2.1]
    refine xa_f (by decide) (xa_t ((nI_ltI (by omega) (by omega)).mpr ?_) h199)
    rw [hr] at h0 ⊢
    by_cases h9 : xp_lev (xt_kd ts L p) = 9
    · rw [if_pos h9] at h0; exact absurd rfl h0
    · rw [if_neg h9]; omega
