theorem xr_open0 {I : pI} {R : pR} {L b p dp mk ib x2 pl0 : Nat} {ts : List (Nat × Nat × Nat × Nat)} {W : List (Nat × Nat × Nat)} {G : List xp_I} {ev : List (Nat × Nat × Nat × Int32)} {Q : Int32 → pI → pR → Prop} (tk : xr_TK I ts L) (st : xr_ST I b p W G dp mk ib 1 ev) (hx : x2 = 40 ∨ x2 = 77 ∨ x2 = 78) (hp : p ≤ ts.length) (hl : W.length < 64) (hd : dp ≤ 4)
    (h : dp < 4 → ∀ I', xr_ST I' b (p + 1) ((if x2 = 40 then 200 else 201, pl0, if x2 = 78 then 1 else 0) :: W) G (dp + 1) (mk + 1) ib 1 ev → xa_fr (xr_S b) I I' → Q 1 I' R)
    (h2 : ¬ dp < 4 → ∀ I', I' 121 8 = nI (xt_pl ts L p) → xa_fr (xr_S b) I I' → Q 0 I' R) : j_md_operand_231 Q (nI x2) (nI pl0) 0 I R := by
  unfold j_md_operand_231
  refine xr_deeper tk st hd (by omega) (fun h4 I1 st1 fr1 => ?_) (fun h4 I1 e fr1 => ?_)
  · refine xa_f' (by decide) ?_
    rw [st1.1, nI_1]
    refine xa_a ?_
    obtain ⟨st2, fr2⟩ := xr_w7 (p + 1) st1
    rw [st2.2.2.2.2.2.2.1, nI_1]
    refine xa_a ?_
    obtain ⟨st3, fr3⟩ := xr_w44 (mk + 1) st2
    refine xa_t rfl ?_
    unfold j_md_operand_282
    refine xa_t rfl ?_
    have hh := h h4
    by_cases h40 : x2 = 40
    · subst h40
      refine xa_t' rfl ?_
      unfold j_md_operand_309
      refine xa_t rfl (xa_f' (by decide) ?_)
      exact xr_push (o := 200) (f := 0) st3 hl (fun I4 st4 fr4 => hh I4 st4 (xa_fr_t fr1 (xa_fr_t fr2 (xa_fr_t fr3 fr4))))
    · rw [if_neg h40] at hh
      refine xa_f' (xa_ne 40 (by omega)) ?_
      unfold j_md_operand_309
      refine xa_t rfl ?_
      by_cases h78 : x2 = 78
      · rw [if_pos h78] at hh
        refine xa_t' (xa_e 78 h78) ?_
        exact xr_push (o := 201) (f := 1) st3 hl (fun I4 st4 fr4 => hh I4 st4 (xa_fr_t fr1 (xa_fr_t fr2 (xa_fr_t fr3 fr4))))
      · rw [if_neg h78] at hh
        refine xa_f' (xa_ne 78 (by omega)) ?_
        exact xr_push (o := 201) (f := 0) st3 hl (fun I4 st4 fr4 => hh I4 st4 (xa_fr_t fr1 (xa_fr_t fr2 (xa_fr_t fr3 fr4))))
  · exact xa_t' rfl (h2 h4 I1 e fr1)
theorem xr_open1 {I : pI} {R : pR} {L b p dp mk ib pl0 : Nat} {ts : List (Nat × Nat × Nat × Nat)} {W : List (Nat × Nat × Nat)} {G : List xp_I} {ev : List (Nat × Nat × Nat × Int32)} {Q : Int32 → pI → pR → Prop} (hb4 : b ≤ 400) (tk : xr_TK I ts L) (st : xr_ST I b p W G dp mk ib 1 ev) (hp : p ≤ ts.length) (hl : W.length < 64) (hd : dp ≤ 4) (hb : b + G.length < b + 400)
    (h : dp < 4 → ∀ I', xr_ST I' b (p + 1) ((202, pl0, b + G.length) :: W) (G ++ [(202, 0, 0, pl0)]) (dp + 1) (mk + 1) (mk + 1) 1 ev → xa_fr (xr_S b) I I' → Q 1 I' R)
    (h2 : ¬ dp < 4 → ∀ I', I' 121 8 = nI (xt_pl ts L p) → xa_fr (xr_S b) I I' → Q 0 I' R) : j_md_operand_231 Q (nI 79) (nI pl0) 1 I R := by
  unfold j_md_operand_231
  refine xr_deeper tk st hd (by omega) (fun h4 I1 st1 fr1 => ?_) (fun h4 I1 e fr1 => ?_)
  · refine xa_f' (by decide) ?_
    rw [st1.1, nI_1]
    refine xa_a ?_
    obtain ⟨st2, fr2⟩ := xr_w7 (p + 1) st1
    rw [st2.2.2.2.2.2.2.1, nI_1]
    refine xa_a ?_
    obtain ⟨st3, fr3⟩ := xr_w44 (mk + 1) st2
    refine xa_f (by decide) ?_
    rw [st3.2.2.2.2.2.2.1]
    refine xa_a ?_
    obtain ⟨st4, fr4⟩ := xr_w45 (mk + 1) st3
    refine xr_emit hb4 (o := 202) (a := 0) st4 hb (fun I5 st5 fr5 => ?_)
    unfold j_md_operand_282
    refine xa_f (by decide) ?_
    unfold j_md_operand_309
    refine xa_f (by decide) ?_
    have e : I5 121 15 - 1 = nI (b + G.length) := by
      rw [st5.2.2.2.1, List.length_append]
      show nI (b + (G.length + 1)) - 1 = _
      rw [← Nat.add_assoc]; exact nI_pred _
    rw [e]
    exact xr_push (o := 202) st5 hl (fun I6 st6 fr6 => h h4 I6 st6 (xa_fr_t fr1 (xa_fr_t fr2 (xa_fr_t fr3 (xa_fr_t fr4 (xa_fr_t fr5 fr6))))))
  · exact xa_t' rfl (h2 h4 I1 e fr1)
/-- what is no number, variable or sign -/
theorem xr_opdP {I : pI} {R : pR} {L b p dp mk ib : Nat} {f2 : Int32} {ts : List (Nat × Nat × Nat × Nat)} {W : List (Nat × Nat × Nat)} {G : List xp_I} {ev : List (Nat × Nat × Nat × Int32)} {Q : Int32 → pI → pR → Prop} (tk : xr_TK I ts L) (st : xr_ST I b p W G dp mk ib 1 ev) (hk : xt_kd ts L p = 40) (hl : W.length < 64) (hd : dp ≤ 4)
    (h : dp < 4 → ∀ I', xr_ST I' b (p + 1) ((200, xt_pl ts L p, 0) :: W) G (dp + 1) (mk + 1) ib 1 ev → xa_fr (xr_S b) I I' → Q 1 I' R)
    (h2 : ¬ dp < 4 → ∀ I', I' 121 8 = nI (xt_pl ts L p) → xa_fr (xr_S b) I I' → Q 0 I' R) : w_md_operand f2 I R Q := by
  have := tk.1.1; have := tk.1.2.1
  have hp := xt_kd_lt tk.1 (i := p) (by omega)
  have e1 : xt_ka (xt_kd ts L p) = 40 := by rw [hk]; rfl
  unfold w_md_operand
  rw [st.1, nI_clamp (by omega), (xr_tok tk (by omega)).1, (xr_tok tk (by omega)).2.2.1, e1]
  refine ⟨vp_in_nI (by omega) (by omega), vp_in_nI (by omega) (by omega), ?_⟩
  refine xa_f (by decide) (xa_f' (by decide) (xa_f (by decide) (xa_f' (by decide) (xa_f' (by decide) ?_))))
  unfold j_md_operand_171 j_md_operand_172
  refine xa_f (by decide) (xa_f (by decide) (xa_t rfl (xa_t rfl ?_)))
  exact xr_open0 (x2 := 40) tk st (by decide) (by omega) hl hd h h2
theorem xr_opdM {I : pI} {R : pR} {L b p dp mk ib : Nat} {f2 : Int32} {ts : List (Nat × Nat × Nat × Nat)} {W : List (Nat × Nat × Nat)} {G : List xp_I} {ev : List (Nat × Nat × Nat × Int32)} {Q : Int32 → pI → pR → Prop} (tk : xr_TK I ts L) (st : xr_ST I b p W G dp mk ib 1 ev) (hk : xt_kd ts L p = 77 ∨ xt_kd ts L p = 78) (hl : W.length < 64) (hd : dp ≤ 4)
    (h : xt_kd ts L (p + 1) = 40 → dp < 4 → ∀ I', xr_ST I' b (p + 2) ((201, xt_pl ts L p, if xt_kd ts L p = 78 then 1 else 0) :: W) G (dp + 1) (mk + 1) ib 1 ev → xa_fr (xr_S b) I I' → Q 1 I' R)
    (h2 : (xt_kd ts L (p + 1) ≠ 40 ∨ 4 ≤ dp) → ∀ I', I' 121 8 = nI (xt_pl ts L (p + 1)) → xa_fr (xr_S b) I I' → Q 0 I' R) : w_md_operand f2 I R Q := by
  have := tk.1.1; have := tk.1.2.1
  have hp := xt_kd_lt tk.1 (i := p) (by omega)
  have e1 : xt_ka (xt_kd ts L p) = xt_kd ts L p := xt_ka_lt (by omega)
  unfold w_md_operand
  rw [st.1, nI_clamp (by omega), (xr_tok tk (by omega)).1, (xr_tok tk (by omega)).2.2.1, e1]
  refine ⟨vp_in_nI (by omega) (by omega), vp_in_nI (by omega) (by omega), ?_⟩
  refine xa_f (xa_ne 1 (by omega)) (xa_f' (xa_ne 2 (by omega)) (xa_f (xa_ne 45 (by omega)) (xa_f' (xa_ne 33 (by omega)) (xa_f' (xa_ne 79 (by omega)) ?_))))
  have hgo : j_md_operand_191 Q (nI (xt_kd ts L p)) (nI (xt_pl ts L p)) 0 I R := by
    unfold j_md_operand_191
    rw [st.1, nI_1]
    refine xa_a ?_
    obtain ⟨st1, fr1⟩ := xr_w7 (p + 1) st
    have tk1 := xr_TK_fr tk fr1 xr_S_tk
    generalize pw_wI I 121 7 (nI (p + 1)) = I1 at st1 fr1 tk1 ⊢
    rw [st1.1, nI_clamp (by omega), (xr_tok tk1 (by omega)).1]
    refine ⟨vp_in_nI (by omega) (by omega), ?_⟩
    have hkb := xt_ka_b (xt_kd_b tk.1 (i := p + 1))
    by_cases h40 : xt_kd ts L (p + 1) = 40
    · refine xa_t (xa_e 40 ((xt_ka_eq tk.1 40 (by decide)).mpr h40)) ?_
      refine xr_open0 tk1 st1 (by omega) (by omega) hl hd (fun h4 I' a fr => h h40 h4 I' ?_ (xa_fr_t fr1 fr)) (fun h4 I' a fr => h2 (by omega) I' a (xa_fr_t fr1 fr))
      rw [if_neg (by omega)] at a; exact a
    · refine xa_f (xa_ne 40 ⟨fun e => h40 ((xt_ka_eq tk.1 40 (by decide)).mp e), by omega, by omega⟩) ?_
      refine xr_fail tk1 st1.1 (by omega) (h2 (Or.inl h40) _ ?_ (xa_fr_t fr1 (xa_fr_w (xa_fr_r _ _) rfl)))
      rw [xa_w]; simp
  unfold j_md_operand_171 j_md_operand_172
  rcases hk with hk | hk
  · exact xa_t (xa_e 77 hk) hgo
  · exact xa_f (xa_ne 77 (by omega)) (xa_t (xa_e 78 hk) hgo)
theorem xr_opdO {I : pI} {R : pR} {L b p dp mk : Nat} {f2 : Int32} {ts : List (Nat × Nat × Nat × Nat)} {W : List (Nat × Nat × Nat)} {G : List xp_I} {ev : List (Nat × Nat × Nat × Int32)} {Q : Int32 → pI → pR → Prop} (hb4 : b ≤ 400) (tk : xr_TK I ts L) (st : xr_ST I b p W G dp mk 0 1 ev) (hk : xt_kd ts L p = 79) (hf : ¬ f2 = 0) (hl : W.length < 64) (hd : dp ≤ 4) (hb : b + G.length < b + 400)
    (h : xt_kd ts L (p + 1) = 40 → dp < 4 → ∀ I', xr_ST I' b (p + 2) ((202, xt_pl ts L p, b + G.length) :: W) (G ++ [(202, 0, 0, xt_pl ts L p)]) (dp + 1) (mk + 1) (mk + 1) 1 ev → xa_fr (xr_S b) I I' → Q 1 I' R)
    (h2 : (xt_kd ts L (p + 1) ≠ 40 ∨ 4 ≤ dp) → ∀ I', I' 121 8 = nI (xt_pl ts L (p + 1)) → xa_fr (xr_S b) I I' → Q 0 I' R) : w_md_operand f2 I R Q := by
  have := tk.1.1; have := tk.1.2.1
  have hp := xt_kd_lt tk.1 (i := p) (by omega)
  have e1 : xt_ka (xt_kd ts L p) = 79 := by rw [hk]; rfl
  unfold w_md_operand
  rw [st.1, nI_clamp (by omega), (xr_tok tk (by omega)).1, (xr_tok tk (by omega)).2.2.1, e1]
  refine ⟨vp_in_nI (by omega) (by omega), vp_in_nI (by omega) (by omega), ?_⟩
  refine xa_f (by decide) (xa_f' (by decide) (xa_f (by decide) (xa_f' (by decide) (xa_t' rfl (xa_f hf (xa_t' (by rw [st.2.2.2.2.2.2.2.1]; rfl) ?_))))))
  unfold j_md_operand_172
  refine xa_f (by decide) (xa_f (by decide) (xa_f (by decide) ?_))
  unfold j_md_operand_191
  rw [st.1, nI_1]
  refine xa_a ?_
  obtain ⟨st1, fr1⟩ := xr_w7 (p + 1) st
  have tk1 := xr_TK_fr tk fr1 xr_S_tk
  generalize pw_wI I 121 7 (nI (p + 1)) = I1 at st1 fr1 tk1 ⊢
  rw [st1.1, nI_clamp (by omega), (xr_tok tk1 (by omega)).1]
  refine ⟨vp_in_nI (by omega) (by omega), ?_⟩
  have hkb := xt_ka_b (xt_kd_b tk.1 (i := p + 1))
  by_cases h40 : xt_kd ts L (p + 1) = 40
  · refine xa_t (xa_e 40 ((xt_ka_eq tk.1 40 (by decide)).mpr h40)) ?_
    exact xr_open1 hb4 tk1 st1 (by omega) hl hd hb (fun h4 I' a fr => h h40 h4 I' a (xa_fr_t fr1 fr)) (fun h4 I' a fr => h2 (by omega) I' a (xa_fr_t fr1 fr))
  · refine xa_f (xa_ne 40 ⟨fun e => h40 ((xt_ka_eq tk.1 40 (by decide)).mp e), by omega, by omega⟩) ?_
    refine xr_fail tk1 st1.1 (by omega) (h2 (Or.inl h40) _ ?_ (xa_fr_t fr1 (xa_fr_w (xa_fr_r _ _) rfl)))
    rw [xa_w]; simp
theorem xr_opdF {I : pI} {R : pR} {L b p dp mk ib : Nat} {f2 : Int32} {ts : List (Nat × Nat × Nat × Nat)} {W : List (Nat × Nat × Nat)} {G : List xp_I} {ev : List (Nat × Nat × Nat × Int32)} {Q : Int32 → pI → pR → Prop} (tk : xr_TK I ts L) (st : xr_ST I b p W G dp mk ib 1 ev) (hp : p ≤ ts.length) (hib : ib ≤ 10) (hk : xt_kd ts L p ≠ 258 ∧ xt_kd ts L p ≠ 259 ∧ xt_kd ts L p ≠ 45 ∧ xt_kd ts L p ≠ 33 ∧ xt_kd ts L p ≠ 40 ∧ xt_kd ts L p ≠ 77 ∧ xt_kd ts L p ≠ 78) (hk2 : xt_kd ts L p = 79 → f2 = 0 ∨ ib ≠ 0)
    (h2 : ∀ I', I' 121 8 = nI (xt_pl ts L p) → xa_fr (xr_S b) I I' → Q 0 I' R) : w_md_operand f2 I R Q := by
  have := tk.1.1; have := tk.1.2.1
  have hkb := xt_ka_b (xt_kd_b tk.1 (i := p))
  have n1 := xt_ka_1 tk.1 (p := p)
  have n2 := xt_ka_eq tk.1 (p := p) 45 (by decide)
  have n3 := xt_ka_eq tk.1 (p := p) 33 (by decide)
  have n4 := xt_ka_eq tk.1 (p := p) 40 (by decide)
  have n5 := xt_ka_eq tk.1 (p := p) 77 (by decide)
  have n6 := xt_ka_eq tk.1 (p := p) 78 (by decide)
  have n7 := xt_ka_eq tk.1 (p := p) 79 (by decide)
  unfold w_md_operand
  rw [st.1, nI_clamp (by omega), (xr_tok tk (by omega)).1, (xr_tok tk (by omega)).2.2.1]
  refine ⟨vp_in_nI (by omega) (by omega), vp_in_nI (by omega) (by omega), ?_⟩
  have hgo : j_md_operand_171 Q (nI (xt_ka (xt_kd ts L p))) (nI (xt_pl ts L p)) I R := by
    unfold j_md_operand_171 j_md_operand_172
    refine xa_f (xa_ne 77 (by omega)) (xa_f (xa_ne 78 (by omega)) (xa_t rfl (xa_f (xa_ne 40 (by omega)) ?_)))
    refine xr_fail tk st.1 (by omega) (h2 _ ?_ (xa_fr_w (xa_fr_r _ _) rfl))
    rw [xa_w]; simp
  refine xa_f (xa_ne 1 (by omega)) (xa_f' (xa_ne 2 (by omega)) (xa_f (xa_ne 45 (by omega)) (xa_f' (xa_ne 33 (by omega)) ?_)))
  by_cases h79 : xt_kd ts L p = 79
  · refine xa_t' (xa_e 79 (n7.mpr h79)) ?_
    by_cases hf : f2 = 0
    · exact xa_t hf hgo
    · refine xa_f hf (xa_f' ?_ hgo)
      rw [st.2.2.2.2.2.2.2.1]
      exact xa_ne 0 ⟨(hk2 h79).resolve_left hf, by omega, by omega⟩
  · exact xa_f' (xa_ne 79 (by omega)) hgo
def xr_clo (b o pl0 f : Nat) (G : List xp_I) : List xp_I := if o = 200 then G else if o = 201 then G ++ [(201, f, 0, pl0)] else xr_pt (f - b) G ++ [(206, 0, 0, pl0)]
theorem xr_close {I : pI} {R : pR} {b q dp mk ib o pl0 f : Nat} {E S W : List (Nat × Nat × Nat)} {G : List xp_I} {ev : List (Nat × Nat × Nat × Int32)} {Q : pI → pR → Prop} (hb4 : b ≤ 400) (st : xr_ST I b q (E ++ (o, pl0, f) :: (S ++ W)) G dp mk ib 0 ev) (ho : o = 200 ∨ o = 201 ∨ o = 202) (eo : xr_EO 1 b G.length E) (hl : (E ++ (o, pl0, f) :: (S ++ W)).length ≤ 64) (hb : b + G.length + E.length + 1 + S.length ≤ b + 400) (hd : S.length + 1 ≤ dp) (hm : 1 ≤ mk) (hf : o = 202 → b ≤ f ∧ f < b + G.length)
    (hW : ∀ e W', W = e :: W' → e.1 ≠ 203 ∧ e.1 ≠ 204 ∧ e.1 < 300) (hs : ∀ e, e ∈ S → e.1 = 203 ∨ e.1 = 204)
    (h : ∀ I', xr_ST I' b (q + 1) W (xr_clo b o pl0 f (xr_red b E G) ++ xr_sg S) (dp - 1 - S.length) (mk - 1) (if o = 202 then 0 else ib) 0 ev → xa_fr (xr_S b) I I' → Q I' R) : w_md_close I R Q := by
  have hl' : (S ++ W).length < 64 := by simp at hl ⊢; omega
  have hrl := xr_red_len b E G
  have hgo : ∀ I2 ib2 G2, xr_ST I2 b q (S ++ W) G2 dp mk ib2 0 ev → b + G2.length + S.length ≤ b + 400 → G2 = xr_clo b o pl0 f (xr_red b E G) → ib2 = (if o = 202 then 0 else ib) → xa_fr (xr_S b) I I2 → j_md_close_104 Q I2 R := by
    intro I2 ib2 G2 st2 hg2 e1 e2 fr2
    unfold j_md_close_104
    rw [st2.2.2.2.2.2.2.1, xa_m1 (by omega)]
    refine xa_a ?_
    obtain ⟨st3, fr3⟩ := xr_w44 (mk - 1) st2
    rw [st3.2.2.2.2.2.1, xa_m1 (by omega)]
    refine xa_a ?_
    obtain ⟨st4, fr4⟩ := xr_w43 (dp - 1) st3
    rw [st4.1, nI_1]
    refine xa_a ?_
    obtain ⟨st5, fr5⟩ := xr_w7 (q + 1) st4
    subst e1 e2
    exact xr_signs hb4 st5 hW hs (by omega) hg2 (by omega) (fun I' a b => h I' a (xa_fr_t fr2 (xa_fr_t fr3 (xa_fr_t fr4 (xa_fr_t fr5 b)))))
  unfold w_md_close
  refine xr_reduce hb4 (k := 1) st (by omega) (fun e W' he => ?_) eo hl (by omega) (fun I1 st1 fr1 => ?_)
  · cases he
    show xr_rk o < 1 ∧ o < 300
    rcases ho with rfl | rfl | rfl <;> decide
  · rw [show I1 121 39 - 1 = nI (S ++ W).length by rw [st1.2.1]; exact nI_pred _]
    refine xa_a ?_
    obtain ⟨st2, fr2⟩ := xr_pop st1
    have m0 : (pw_wI I1 121 39 (nI (S ++ W).length)) 150 (S ++ W).length = nI o := by rw [xa_p (by decide)]; exact st1.2.2.1.1
    have m1 : (pw_wI I1 121 39 (nI (S ++ W).length)) 151 (S ++ W).length = nI pl0 := by rw [xa_p (by decide)]; exact st1.2.2.1.2.1
    have m2 : (pw_wI I1 121 39 (nI (S ++ W).length)) 152 (S ++ W).length = nI f := by rw [xa_p (by decide)]; exact st1.2.2.1.2.2.1
    generalize pw_wI I1 121 39 (nI (S ++ W).length) = I2 at st2 fr2 m0 m1 m2 ⊢
    rw [st2.2.1, nI_clamp (by omega), m0, m1, m2]
    refine ⟨vp_in_nI hl' (by omega), ?_⟩
    rcases ho with rfl | rfl | rfl
    · refine xa_f' (by decide) ?_
      unfold j_md_close_57
      refine xa_f' (by decide) ?_
      exact hgo I2 ib _ st2 (by omega) rfl rfl (xa_fr_t fr1 fr2)
    · refine xa_t' rfl ⟨vp_in_nI hl' (by omega), vp_in_nI hl' (by omega), ?_⟩
      refine xr_emit hb4 (o := 201) st2 (by omega) (fun I3 st3 fr3 => ?_)
      unfold j_md_close_57
      refine xa_f' (by decide) ?_
      exact hgo I3 ib _ st3 (by simp; omega) rfl rfl (xa_fr_t fr1 (xa_fr_t fr2 fr3))
    · have hf' := hf rfl
      refine xa_f' (by decide) ?_
      unfold j_md_close_57
      refine xa_t' rfl ?_
      rw [st2.2.1, nI_clamp (by omega), m2, nI_clamp (by omega), st2.2.2.2.1]
      refine ⟨vp_in_nI hl' (by omega), vp_in_nI (by omega) (by omega), xa_a ?_⟩
      obtain ⟨st3, fr3⟩ := xr_patch hb4 (i := f - b) st2 (by omega) (by omega)
      rw [show b + (f - b) = f by omega] at st3 fr3
      have m1' : (pw_wI I2 129 f (nI (b + (xr_red b E G).length))) 151 (S ++ W).length = nI pl0 := by rw [xa_p (by decide)]; exact m1
      generalize pw_wI I2 129 f (nI (b + (xr_red b E G).length)) = I3 at st3 fr3 m1' ⊢
      rw [st3.2.1, nI_clamp (by omega), m1']
      refine ⟨vp_in_nI hl' (by omega), ?_⟩
      refine xr_emit hb4 (o := 206) (a := 0) st3 (by rw [xr_pt_len]; omega) (fun I4 st4 fr4 => ?_)
      refine xa_a ?_
      obtain ⟨st5, fr5⟩ := xr_w45 0 st4
      exact hgo _ 0 _ st5 (by simp [xr_pt_len]; omega) rfl rfl (xa_fr_t fr1 (xa_fr_t fr2 (xa_fr_t fr3 (xa_fr_t fr4 fr5))))
