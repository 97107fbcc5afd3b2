def xk_hev (h : List (Nat × Nat)) : List (Nat × Nat × Nat × Int32) := h.zipIdx.map (fun e => (3, e.1.2, e.1.1, nI e.2))
theorem xk_hev_1 (h : List (Nat × Nat)) (e : Nat × Nat) : xk_hev (h ++ [e]) = xk_hev h ++ [(3, e.2, e.1, nI h.length)] := by
  simp [xk_hev, List.zipIdx_append]
theorem xk_hev_len (h : List (Nat × Nat)) : (xk_hev h).length = h.length := by simp [xk_hev]
theorem xk_IO_hs {I : pI} {o : Nat} {hs hs' : List (Nat × Nat)} {its : List xi_I} (io : xk_IO I o hs its) (nc : ∀ it, it ∈ its → xi_k it ≠ 8) : xk_IO I o hs' its := by
  intro j it hj
  have h8 := nc it (List.mem_of_getElem? hj)
  have := io j it hj
  rw [xk_tg_n h8] at this ⊢
  exact this
theorem xk_bar {I : pI} {R : pR} {L p : Nat} {ts : List (Nat × Nat × Nat × Nat)} {Q : Int32 → pI → pR → Prop} (tk : xr_TK I ts L) (hat : I 121 7 = nI p) (hp : p ≤ ts.length) (h1 : (xt_kd ts L p = 124 ∨ xt_kd ts L p = 265) → Q 1 I R) (h2 : ¬ (xt_kd ts L p = 124 ∨ xt_kd ts L p = 265) → Q 0 I R) : w_md_isBar I R Q := by
  have a1 := tk.1.1; have a2 := tk.1.2.1
  have kb := xt_ka_b (xt_kd_b tk.1 (i := p))
  have k1 := xk_ka_n tk.1 (p := p) (c := 124) (k := 124) rfl (by omega)
  have k2 := xk_ka_n tk.1 (p := p) (c := 133) (k := 265) rfl (by omega)
  unfold w_md_isBar
  rw [hat, nI_clamp (by omega), (xr_tok tk hp).1]
  refine ⟨vp_in_nI (by omega) (by omega), ?_⟩
  by_cases c1 : xt_kd ts L p = 124
  · exact xa_t (xa_e 124 (k1.mpr c1)) (h1 (Or.inl c1))
  · refine xa_f (xa_ne 124 (by omega)) ⟨vp_in_nI (by omega) (by omega), ?_⟩
    by_cases c2 : xt_kd ts L p = 265
    · exact xa_t' (xa_e 133 (k2.mpr c2)) (h1 (Or.inr c2))
    · exact xa_f' (xa_ne 133 (by omega)) (h2 (fun h => h.elim c1 c2))
theorem xk_hd {R : pR} {L o part : Nat} {ts : List (Nat × Nat × Nat × Nat)} {its : List xi_I} {er : Option (Nat × Nat)} {K : pI → pR → Prop} {Q : Int32 → pI → pR → Prop} (ho : o ≤ 1) (nc : ∀ it, it ∈ its → xi_k it ≠ 8) (hit : 2 * its.length ≤ 200) : ∀ m p h I, ts.length < p + m → p ≤ ts.length → xk_ST I ts L o p part 0 h its (xk_evs its ++ xk_hev h) er (-1) → (xk_evs its).length + h.length ≤ xt_pl ts L p → 2 * h.length ≤ p →
    (∀ p' h', xi_hd (xt_kd ts L) (xt_nm ts L) (xt_pl ts L) m p h = .inr (p', h') → ∀ I', xk_ST I' ts L o p' part 0 h' its (xk_evs its ++ xk_hev h') er (-1) → (xk_evs its).length + h'.length ≤ xt_pl ts L p' → p < p' → p' ≤ ts.length → xa_fr (xk_S o) I I' → K I' R) →
    (∀ g, xi_hd (xt_kd ts L) (xt_nm ts L) (xt_pl ts L) m p h = .inl g → ∀ I', I' 121 8 = nI (xt_pl ts L g) → xa_fr (xk_S o) I I' → Q 0 I' R) → l_md_table_23 K Q (m + 1) 1 I R := by
  intro m; induction m with
  | zero => intro p h I h1 h2; omega
  | succ m ih =>
    intro p h I h1 hp st hev h2h hK hF
    have tk := st.1
    have w := tk.1
    have a1 := w.1; have a2 := w.2.1
    have kb := fun i => xt_ka_b (xt_kd_b w (i := i))
    have b0 := kb p
    have k1 := xt_ka_1 w (p := p)
    have hpb := xt_pl_b w (i := p)
    unfold l_md_table_23
    refine xa_f (by decide) ?_
    rw [st.2.1.1, nI_clamp (by omega), (xr_tok tk hp).1]
    refine ⟨vp_in_nI (by omega) (by omega), ?_⟩
    by_cases h259 : xt_kd ts L p = 259
    · have hT := xt_kd_lt w (i := p) (by omega)
      have hpl := xt_pl_s w (i := p) (by omega)
      refine xa_t (xa_e 2 (k1.2.1.mpr h259)) ⟨vp_in_nI (by omega) (by omega), vp_in_nI (by omega) (by omega), ?_⟩
      rw [(xr_tok tk hp).2.2.1, (xr_tok tk hp).2.1 (by omega), st.2.2.2.2.2.2.2.1]
      refine xk_note (t := 3) st.2.1.2.2.2 (by rw [List.length_append, xk_hev_len]; omega) (fun I1 ev1 f1 => ?_)
      have tk1 : xr_TK I1 ts L := xr_TK_fr tk (xk_rS (b := 0) f1) xr_S_tk
      have s54 : I1 121 54 = nI h.length := by rw [f1 _ _ (by omega)]; exact st.2.2.2.2.2.2.2.1
      have s7 : I1 121 7 = nI p := by rw [f1 _ _ (by omega)]; exact st.2.1.1
      rw [s7, nI_clamp (by omega), (xr_tok tk1 hp).2.1 (by omega), s54, nI_clamp (by omega)]
      refine ⟨vp_in_nI (by omega) (by omega), vp_in_nI (by omega) (by omega), fun I2 e2 => ?_⟩
      have s54' : I2 121 54 = nI h.length := by rw [e2, xa_p (by decide)]; exact s54
      rw [s54', nI_1]
      intro I3 e3
      have s7' : I3 121 7 = nI p := by rw [e3, xa_w, if_neg (by decide), e2, xa_p (by decide)]; exact s7
      rw [s7', nI_1]
      intro I4 e4
      have hI : ∀ p' i, I4 p' i = (if p' = 121 ∧ i = 7 then nI (p + 1) else if p' = 121 ∧ i = 54 then nI (h.length + 1) else if p' = 157 ∧ i = h.length then nI (xt_nm ts L p) else I1 p' i) := by
        intro p' i; rw [e4, xa_w, e3, xa_w, e2, xa_w]
      have g : ∀ p' i, ¬ ((p' = 121 ∧ (i = 7 ∨ i = 54 ∨ i = 47)) ∨ (p' = 157 ∧ i = h.length) ∨ (153 ≤ p' ∧ p' ≤ 156)) → I4 p' i = I p' i := fun p' i hp => by
        rw [hI, if_neg (by omega), if_neg (by omega), if_neg (by omega), f1 _ _ (by omega)]
      have fr4 : xa_fr (xk_S o) I I4 := fun p' i hp' => g p' i (by
        simp only [xk_S, Bool.or_eq_false_iff, Bool.and_eq_false_iff, beq_eq_false_iff_ne, decide_eq_false_iff_not] at hp'; omega)
      have st4 : xk_ST I4 ts L o (p + 1) part 0 (h ++ [(xt_nm ts L p, xt_pl ts L p)]) its (xk_evs its ++ xk_hev (h ++ [(xt_nm ts L p, xt_pl ts L p)])) er (-1) := by
        refine ⟨xr_TK_fr tk fr4 xk_S_tk, ?_, ?_⟩
        · obtain ⟨i0, i1, i2, i3⟩ := st.2.1
          refine ⟨by rw [hI]; simp, by rw [g _ _ (by omega)]; exact i1, xr_CD_fr i2 (fun q k a b _ _ => g _ _ (by omega)), ?_⟩
          rw [xk_hev_1, ← List.append_assoc]
          exact xr_EV_fr ev1 (by rw [hI]; simp) (fun q k a b => by rw [hI, if_neg (by omega), if_neg (by omega), if_neg (by omega)])
        · obtain ⟨⟨a1, a2⟩, ⟨b1, b2⟩, c, d, e, g54, h157, i⟩ := st.2.2
          refine ⟨⟨by rw [g _ _ (by omega)]; exact a1, xk_IO_hs (xk_IO_fr a2 (fun p k a b _ _ => g _ _ (by omega))) nc⟩, ⟨by rw [g _ _ (by omega)]; exact b1, fun i a hi => by rw [g _ _ (by omega)]; exact b2 i a hi⟩, xk_ER_fr c (g _ _ (by omega)) (g _ _ (by omega)), by rw [g _ _ (by omega)]; exact d, by rw [g _ _ (by omega)]; exact e, by rw [hI]; simp, fun i e hi => ?_, by rw [g _ _ (by omega)]; exact i⟩
          rcases xa_app hi with ⟨hi', hlt⟩ | ⟨hi', he⟩
          · rw [g _ _ (by omega)]; exact h157 i e hi'
          · subst hi'; rw [he, hI]; simp
      refine xk_bar st4.1 st4.2.1.1 (by omega) (fun hb => ?_) (fun hb => ?_)
      · refine xa_f (by decide) ?_
        have hT1 : p + 1 < ts.length := xt_kd_lt w (i := p + 1) (by omega)
        rw [st4.2.1.1, nI_1]
        refine xa_a ?_
        have e : xi_hd (xt_kd ts L) (xt_nm ts L) (xt_pl ts L) (m + 1) p h = xi_hd (xt_kd ts L) (xt_nm ts L) (xt_pl ts L) m (p + 2) (h ++ [(xt_nm ts L p, xt_pl ts L p)]) := by
          show (if _ then _ else _) = _
          rw [if_neg (fun hh => hh h259), if_pos hb]
        rw [e] at hK hF
        have fr5 : xa_fr (xr_S (400 * o)) I4 (pw_wI I4 121 7 (nI (p + 1 + 1))) := xa_fr_w (xa_fr_r _ _) rfl
        have st5 : xk_ST (pw_wI I4 121 7 (nI (p + 1 + 1))) ts L o (p + 2) part 0 (h ++ [(xt_nm ts L p, xt_pl ts L p)]) its (xk_evs its ++ xk_hev (h ++ [(xt_nm ts L p, xt_pl ts L p)])) er (-1) := by
          refine ⟨xr_TK_fr st4.1 fr5 xr_S_tk, ?_, xk_RS_fr st4.2.2 fr5⟩
          obtain ⟨i0, i1, i2, i3⟩ := st4.2.1
          exact ⟨by rw [xa_w]; simp, by rw [xa_w, if_neg (by decide)]; exact i1, xr_CD_fr i2 (fun q k a b _ _ => by rw [xa_p (by omega)]), xr_EV_fr i3 (by rw [xa_w, if_neg (by decide)]) (fun q k a b => by rw [xa_p (by omega)])⟩
        have hm := xt_pl_mono w (p + 1) (p + 2) (by omega)
        exact ih (p + 2) _ _ (by omega) (by omega) st5 (by rw [List.length_append, List.length_singleton]; omega) (by rw [List.length_append, List.length_singleton]; omega) (fun p' h' e' I' st' hev' hpp hT' fr' => hK p' h' e' I' st' hev' (by omega) hT' (xa_fr_t fr4 (xa_fr_t (xa_fr_m fr5 xk_S_r) fr'))) (fun g e' I' f' fr' => hF g e' I' f' (xa_fr_t fr4 (xa_fr_t (xa_fr_m fr5 xk_S_r) fr')))
      · refine xa_t rfl ?_
        have e : xi_hd (xt_kd ts L) (xt_nm ts L) (xt_pl ts L) (m + 1) p h = .inr (p + 1, h ++ [(xt_nm ts L p, xt_pl ts L p)]) := by
          show (if _ then _ else _) = _
          rw [if_neg (fun hh => hh h259), if_neg hb]
        show l_md_table_23 K Q (m + 1) 0 I4 R
        unfold l_md_table_23
        exact xa_t rfl (hK _ _ e I4 st4 (by rw [List.length_append, List.length_singleton]; omega) (by omega) (by omega) fr4)
    · refine xa_f (xa_ne 2 (by omega)) ?_
      have e : xi_hd (xt_kd ts L) (xt_nm ts L) (xt_pl ts L) (m + 1) p h = .inl p := by
        show (if _ then _ else _) = _
        rw [if_pos h259]
      exact xr_fail tk st.2.1.1 (by omega) (hF p e _ (by rw [xa_w]; simp) (xa_fr_w (xa_fr_r _ _) rfl))
theorem xk_ST_w {I : pI} {L o p part rows : Nat} {ts : List (Nat × Nat × Nat × Nat)} {hs : List (Nat × Nat)} {its : List xi_I} {ev : List (Nat × Nat × Nat × Int32)} {er : Option (Nat × Nat)} {rc : Int32} (rc' : Int32) (st : xk_ST I ts L o p part rows hs its ev er rc) : xk_ST (pw_wI I 121 52 rc') ts L o p part rows hs its ev er rc' ∧ xa_fr (xk_S o) I (pw_wI I 121 52 rc') := by
  have fr : xa_fr (xk_S o) I (pw_wI I 121 52 rc') := xa_fr_w (xa_fr_r _ _) rfl
  have f : ∀ p' k', ¬ (p' = 121 ∧ k' = 52) → (pw_wI I 121 52 rc') p' k' = I p' k' := fun p' k' h => by rw [xa_w, if_neg h]
  refine ⟨⟨xr_TK_fr st.1 fr xk_S_tk, ?_, ?_⟩, fr⟩
  · obtain ⟨i0, i1, i2, i3⟩ := st.2.1
    exact ⟨by rw [f _ _ (by omega)]; exact i0, by rw [f _ _ (by omega)]; exact i1, xr_CD_fr i2 (fun q k a b _ _ => f _ _ (by omega)), xr_EV_fr i3 (f _ _ (by omega)) (fun q k a b => f _ _ (by omega))⟩
  · obtain ⟨⟨a1, a2⟩, ⟨b1, b2⟩, c, d, e, g, h, i⟩ := st.2.2
    exact ⟨⟨by rw [f _ _ (by omega)]; exact a1, xk_IO_fr a2 (fun p k a b _ _ => f _ _ (by omega))⟩, ⟨by rw [f _ _ (by omega)]; exact b1, fun i a hi => by rw [f _ _ (by omega)]; exact b2 i a hi⟩, xk_ER_fr c (f _ _ (by omega)) (f _ _ (by omega)), by rw [f _ _ (by omega)]; exact d, by rw [f _ _ (by omega)]; exact e, by rw [f _ _ (by omega)]; exact g, fun i e hi => by rw [f _ _ (by omega)]; exact h i e hi, by rw [xa_w]; simp⟩
theorem xk_ST_at {I : pI} {L o p part rows : Nat} {ts : List (Nat × Nat × Nat × Nat)} {hs : List (Nat × Nat)} {its : List xi_I} {ev : List (Nat × Nat × Nat × Int32)} {er : Option (Nat × Nat)} {rc : Int32} (p' : Nat) (st : xk_ST I ts L o p part rows hs its ev er rc) : xk_ST (pw_wI I 121 7 (nI p')) ts L o p' part rows hs its ev er rc ∧ xa_fr (xk_S o) I (pw_wI I 121 7 (nI p')) := by
  have fr2 : xa_fr (xr_S (400 * o)) I (pw_wI I 121 7 (nI p')) := xa_fr_w (xa_fr_r _ _) rfl
  refine ⟨⟨xr_TK_fr st.1 fr2 xr_S_tk, ?_, xk_RS_fr st.2.2 fr2⟩, xa_fr_m fr2 xk_S_r⟩
  obtain ⟨i0, i1, i2, i3⟩ := st.2.1
  exact ⟨by rw [xa_w]; simp, by rw [xa_w, if_neg (by decide)]; exact i1, xr_CD_fr i2 (fun q k a b _ _ => by rw [xa_p (by omega)]), xr_EV_fr i3 (by rw [xa_w, if_neg (by decide)]) (fun q k a b => by rw [xa_p (by omega)])⟩
theorem xk_cel {R : pR} {L o part rows : Nat} {f1 : Int32} {ts : List (Nat × Nat × Nat × Nat)} {hs : List (Nat × Nat)} {er : Option (Nat × Nat)} {K : pI → pR → Prop} {Q : Int32 → pI → pR → Prop} (ho : o ≤ 1) (hhs : hs.length < 80) : ∀ m c p its ev I, ts.length < p + m → p ≤ ts.length → 2 * c ≤ p → xk_ST I ts L o p part rows hs its ev er (nI c) → xk_BD ts L its ev p → 2 * its.length + 1 ≤ p →
    (∀ p' its', xi_cel (xt_kd ts L) (xt_nm ts L) (xt_pl ts L) (xt_en ts L) rows m c p its = .inr (p', its') → ∀ I' add, its' = its ++ add → xk_ST I' ts L o p' part rows hs its' (ev ++ xk_evs add) er (nI (c + add.length)) → xk_BD ts L its' (ev ++ xk_evs add) p' → p < p' → p' ≤ ts.length → xa_fr (xk_S o) I I' → K I' R) →
    (∀ g, xi_cel (xt_kd ts L) (xt_nm ts L) (xt_pl ts L) (xt_en ts L) rows m c p its = .inl g → ∀ I', I' 121 8 = nI (xt_pl ts L g) → xa_fr (xk_S o) I I' → Q 0 I' R) → l_md_tableRow_17 f1 K Q (m + 1) 1 I R := by
  intro m; induction m with
  | zero => intro c p its ev I h1 h2; omega
  | succ m ih =>
    intro c p its ev I h1 hp h2c st bd hb1 hK hF
    have tk := st.1
    have w := tk.1
    have a1 := w.1; have a2 := w.2.1
    have hl : its.length < 100 := by omega
    unfold l_md_tableRow_17
    refine xa_f (by decide) ?_
    refine xk_begin (k := 9) ho st hl hp (by omega) (fun I1 st1 pd1 fr1 => ?_)
    rw [if_pos rfl] at pd1
    have go59 : ∀ tg : Int32, tg = (match hs[c]? with
        | some e => nI e.1
        | none => 0) → j_md_tableRow_59 (fun y1 I9 R5 => l_md_tableRow_17 f1 K Q (m + 1) y1 I9 R5) Q f1 (I1 121 32) tg I1 R := by
      intro tg htg
      unfold j_md_tableRow_59
      rw [st1.2.2.1.1, nI_clamp (by omega)]
      refine ⟨vp_in_nI (by omega) (by omega), xa_a ?_⟩
      have f2 : ∀ p' k', ¬ (p' = 133 ∧ k' = 100 * o + its.length) → (pw_wI I1 133 (100 * o + its.length) tg) p' k' = I1 p' k' := fun p' k' hp => by rw [xa_w, if_neg hp]
      have fr2 : xa_fr (xk_S o) I1 (pw_wI I1 133 (100 * o + its.length) tg) := xa_fr_w (xa_fr_r _ _) (by simp [xk_S]; omega)
      have b2 : xk_B (pw_wI I1 133 (100 * o + its.length) tg) ts L o p part rows hs its ((xi_rs its).flatMap xi_an) ev er (nI c) (xk_kd 8) rows tg (xt_pl ts L p) := by
        refine ⟨xr_TK_fr st1.1 fr2 xk_S_tk, ?_, xk_RS_ag st1.2.2 (fun k hk => f2 _ _ (by omega)) (fun p k a b c d => f2 _ _ (by omega)) (fun k => f2 _ _ (by omega)) (fun k => f2 _ _ (by omega)), ?_⟩
        · obtain ⟨i0, i1, i2, i3⟩ := st1.2.1
          exact ⟨by rw [f2 _ _ (by omega)]; exact i0, by rw [f2 _ _ (by omega)]; exact i1, xr_CD_fr i2 (fun q k a b _ _ => f2 _ _ (by omega)), xr_EV_fr i3 (f2 _ _ (by omega)) (fun q k a b => f2 _ _ (by omega))⟩
        · obtain ⟨a, b, c, d, e⟩ := pd1
          exact ⟨by rw [f2 _ _ (by omega)]; exact a, by rw [f2 _ _ (by omega)]; exact b, by rw [xa_w]; simp, by rw [f2 _ _ (by omega)]; exact d, by rw [f2 _ _ (by omega)]; exact e⟩
      generalize pw_wI I1 133 (100 * o + its.length) tg = I2 at f2 fr2 b2 ⊢
      refine xk_expr (lv := 3) (k := 8) (ok := false) ho (by omega) b2 (by omega) hp bd.1 bd.2.1 hl (by simp) (fun p' x hx I3 it3 tk3 rl3 pd3 fr3 => ?_) (fun g hg I3 f3 fr3 => ?_)
      · refine xa_f' (by decide) ?_
        have hlx := xp_len w (by omega) (by omega) hx
        have hlu := xp_lenu w (by omega) (by omega) hx
        have hpb := xt_pl_b w (i := p')
        have bdp := bd.1
        refine xk_fin (it := (8, rows, xt_pl ts L p, xt_en ts L (p' - 1), some c, x, xi_r0)) ho tk3 it3 rl3 ?_ (show (8 : Nat) ≠ 7 by omega) hl hlx.2.1 (by omega) rfl (by show (xi_G its).length + x.2.1.length < 400; omega) (fun I4 st4 fr4 => ?_)
        · have e : xk_tg hs (8, rows, xt_pl ts L p, xt_en ts L (p' - 1), some c, x, xi_r0) = tg := by
            rw [htg]; rfl
          rw [e]; exact pd3
        · have hevi : xk_evi (8, rows, xt_pl ts L p, xt_en ts L (p' - 1), some c, x, xi_r0) = xr_uv (nI c) x.2.2.2.1 := rfl
          rw [← hevi] at st4
          have bd4 : xk_BD ts L (its ++ [((8, rows, xt_pl ts L p, xt_en ts L (p' - 1), some c, x, xi_r0) : xi_I)]) (ev ++ xk_evi (8, rows, xt_pl ts L p, xt_en ts L (p' - 1), some c, x, xi_r0)) p' :=
            xk_BD_add bd hb1 hlx.1 hlx.2.2.2 (by rw [hevi, xr_uv_len]; exact hlu) (fun h => by have h' : 8 = 7 := h; omega)
          rw [st4.2.2.2.2.2.2.2.2.2, nI_1]
          refine xa_a ?_
          obtain ⟨st5, fr5⟩ := xk_ST_w (nI (c + 1)) st4
          generalize pw_wI I4 121 52 (nI (c + 1)) = I5 at st5 fr5 ⊢
          have fr05 := xa_fr_t fr1 (xa_fr_t fr2 (xa_fr_t fr3 (xa_fr_t fr4 fr5)))
          refine xk_bar st5.1 st5.2.1.1 hlx.2.1 (fun hb => ?_) (fun hb => ?_)
          · refine xa_f (by decide) ?_
            have hT := xt_kd_lt w (i := p') (by omega)
            rw [st5.2.1.1, nI_1]
            refine xa_a ?_
            obtain ⟨st6, fr6⟩ := xk_ST_at (p' + 1) st5
            rw [xi_cel_r hx, if_pos hb] at hK hF
            refine ih (c + 1) (p' + 1) _ _ _ (by omega) (by omega) (by omega) st6 (xk_BD_m w bd4 (by omega)) (by have := bd4.2.2.1; omega) (fun p2 its2 h I' add ha st' bd' hpp hT' fr' => ?_) (fun g h I' f' fr' => hF g h I' f' (xa_fr_t fr05 (xa_fr_t fr6 fr')))
            refine hK p2 its2 h I' ((8, rows, xt_pl ts L p, xt_en ts L (p' - 1), some c, x, xi_r0) :: add) (by rw [ha]; simp) ?_ ?_ (by omega) hT' (xa_fr_t fr05 (xa_fr_t fr6 fr'))
            · have e1 : ev ++ xk_evs ((8, rows, xt_pl ts L p, xt_en ts L (p' - 1), some c, x, xi_r0) :: add) = ev ++ xk_evi (8, rows, xt_pl ts L p, xt_en ts L (p' - 1), some c, x, xi_r0) ++ xk_evs add := by simp [xk_evs]
              rw [e1, List.length_cons, show c + (add.length + 1) = c + 1 + add.length by omega]; exact st'
            · have e1 : ev ++ xk_evs ((8, rows, xt_pl ts L p, xt_en ts L (p' - 1), some c, x, xi_r0) :: add) = ev ++ xk_evi (8, rows, xt_pl ts L p, xt_en ts L (p' - 1), some c, x, xi_r0) ++ xk_evs add := by simp [xk_evs]
              rw [e1]; exact bd'
          · refine xa_t rfl ?_
            rw [xi_cel_r hx, if_neg hb] at hK
            show l_md_tableRow_17 f1 K Q (m + 1) 0 I5 R
            unfold l_md_tableRow_17
            refine xa_t rfl (hK p' _ rfl I5 [(8, rows, xt_pl ts L p, xt_en ts L (p' - 1), some c, x, xi_r0)] rfl ?_ ?_ hlx.1 hlx.2.1 fr05)
            · have e1 : ev ++ xk_evs [((8, rows, xt_pl ts L p, xt_en ts L (p' - 1), some c, x, xi_r0) : xi_I)] = ev ++ xk_evi (8, rows, xt_pl ts L p, xt_en ts L (p' - 1), some c, x, xi_r0) := by simp [xk_evs]
              rw [e1]; exact st5
            · have e1 : ev ++ xk_evs [((8, rows, xt_pl ts L p, xt_en ts L (p' - 1), some c, x, xi_r0) : xi_I)] = ev ++ xk_evi (8, rows, xt_pl ts L p, xt_en ts L (p' - 1), some c, x, xi_r0) := by simp [xk_evs]
              rw [e1]; exact bd4
      · exact xa_t' rfl (hF g (xi_cel_l hg) I3 f3 (xa_fr_t fr1 (xa_fr_t fr2 fr3)))
    have s54 : I1 121 54 = nI hs.length := st1.2.2.2.2.2.2.2.1
    have s52 : I1 121 52 = nI c := st1.2.2.2.2.2.2.2.2.2
    rw [s54, s52]
    by_cases hc : hs.length ≤ c
    · refine xa_t ((nI_leI (by omega) (by omega)).mpr hc) (go59 0 ?_)
      rw [List.getElem?_eq_none hc]
    · refine xa_f (fun hh => hc ((nI_leI (by omega) (by omega)).mp hh)) ⟨vp_in_nI (by omega) (by omega), go59 _ ?_⟩
      have hg : hs[c]? = some hs[c] := List.getElem?_eq_getElem (by omega)
      rw [nI_clamp (by omega), st1.2.2.2.2.2.2.2.2.1 c _ hg, hg]
