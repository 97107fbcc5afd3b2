theorem xk_note {I : pI} {R : pR} {t a v : Nat} {c : Int32} {ev : List (Nat × Nat × Nat × Int32)} {Q : pI → pR → Prop} (h9 : xr_EV I ev) (hb : ev.length < 170)
    (h : ∀ I', xr_EV I' (ev ++ [(t, a, v, c)]) → (∀ p' k', ¬ ((p' = 121 ∧ k' = 47) ∨ (153 ≤ p' ∧ p' ≤ 156)) → I' p' k' = I p' k') → Q I' R) : w_md_note (nI t) (nI a) (nI v) c I R Q := by
  have hv : vp_in (nI ev.length) 170 := vp_in_nI hb (by decide)
  have hc : (nI ev.length).toNatClampNeg = ev.length := nI_clamp (by omega)
  unfold w_md_note
  rw [h9.1, hc]
  refine ⟨hv, fun I1 e1 => ?_⟩
  have s1 : I1 121 47 = nI ev.length := by rw [e1, xa_w]; simp [h9.1]
  rw [s1, hc]
  refine ⟨hv, fun I2 e2 => ?_⟩
  have s2 : I2 121 47 = nI ev.length := by rw [e2, xa_w]; simp [s1]
  rw [s2, hc]
  refine ⟨hv, fun I3 e3 => ?_⟩
  have s3 : I3 121 47 = nI ev.length := by rw [e3, xa_w]; simp [s2]
  rw [s3, hc]
  refine ⟨hv, fun I4 e4 => ?_⟩
  have s4 : I4 121 47 = nI ev.length := by rw [e4, xa_w]; simp [s3]
  rw [s4, nI_1]
  intro I5 e5
  have hI : ∀ p' i, I5 p' i = (if p' = 121 ∧ i = 47 then nI (ev.length + 1) else if p' = 156 ∧ i = ev.length then c else if p' = 155 ∧ i = ev.length then nI v else if p' = 154 ∧ i = ev.length then nI a else if p' = 153 ∧ i = ev.length then nI t else I p' i) := by
    intro p' i; rw [e5, xa_w, e4, xa_w, e3, xa_w, e2, xa_w, e1, xa_w]
  refine h I5 ⟨by rw [hI]; simp, fun i e hi => ?_⟩ (fun p' k' hp => by rw [hI, if_neg (by omega), if_neg (by omega), if_neg (by omega), if_neg (by omega), if_neg (by omega)])
  rcases xa_app hi with ⟨hi', hl⟩ | ⟨hi', he⟩
  · have := h9.2 i e hi'
    simp only [hI]
    simp only [show ¬ (i = ev.length) by omega, and_false, if_false]
    simpa using this
  · subst hi'; rw [he]; simp [hI]
theorem xk_rS {I I' : pI} {b : Nat} (f : ∀ p' k', ¬ ((p' = 121 ∧ k' = 47) ∨ (153 ≤ p' ∧ p' ≤ 156)) → I' p' k' = I p' k') : xa_fr (xr_S b) I I' := fun p k hp => f p k (by
  simp only [xr_S, Bool.or_eq_false_iff, Bool.and_eq_false_iff, beq_eq_false_iff_ne, decide_eq_false_iff_not] at hp; omega)
theorem xk_step {I : pI} {R : pR} {L o p part rows k : Nat} {ts : List (Nat × Nat × Nat × Nat)} {hs : List (Nat × Nat)} {its : List xi_I} {ev : List (Nat × Nat × Nat × Int32)} {er : Option (Nat × Nat)} {Q : Int32 → pI → pR → Prop} (ho : o ≤ 1) (hk : k ≤ 2) (st : xk_ST I ts L o p part rows hs its ev er (-1)) (hp : p ≤ ts.length) (hg : (xi_G its).length ≤ xt_pl ts L p) (hev : ev.length ≤ xt_pl ts L p) (hl : its.length < 100)
    (h1 : ∀ p' it, xi_st (xt_kd ts L) (xt_nm ts L) (xt_pl ts L) (xt_en ts L) part k p = .inr (p', it) → ∀ I', xk_ST I' ts L o p' part rows hs (its ++ [it]) (ev ++ xk_evi it) (xk_eri er it) (-1) → xa_fr (xk_S o) I I' → Q 1 I' R)
    (h2 : ∀ g, xi_st (xt_kd ts L) (xt_nm ts L) (xt_pl ts L) (xt_en ts L) part k p = .inl g → ∀ I', I' 121 8 = nI (xt_pl ts L g) → xa_fr (xk_S o) I I' → Q 0 I' R) : w_md_step (nI (xk_kd k)) I R Q := by
  have tk := st.1
  have w := tk.1
  have hL := w.1
  have hT := w.2.1
  have hat := st.2.1.1
  have hkk : xk_kd k < 20 ∧ xk_kd k ≠ 9 := by rcases (show k = 0 ∨ k = 1 ∨ k = 2 by omega) with rfl | rfl | rfl <;> decide
  have kb := fun i => xt_ka_b (xt_kd_b w (i := i))
  have c1 : ¬ (k = 4 ∧ xt_kd ts L p = 88) := by omega
  have c2 : ¬ (k = 4 ∧ xt_kd ts L p = 33 ∧ xt_kd ts L (p + 1) = 88) := by omega
  have c3 : ¬ (k = 4 ∧ xi_isR (xt_kd ts L) p = true) := by omega
  have go : ∀ (tgo : Option Nat) (s0 : Int32) (p1 : Nat), (s0 = match tgo with
      | some v => nI v
      | none => -1) → (∀ v, tgo = some v → v < 10000 ∧ p1 = p + 2) → (tgo = none → p1 = p) → p ≤ p1 → p1 ≤ ts.length → xt_pl ts L p + (if tgo.isSome then 2 else 0) ≤ xt_pl ts L p1 → xi_st (xt_kd ts L) (xt_nm ts L) (xt_pl ts L) (xt_en ts L) part k p = xi_ex (xt_pl ts L) (xt_en ts L) k part p tgo (xp_P (xt_kd ts L) (xt_nm ts L) (xt_pl ts L) 64 0 0 0 false p1) → j_md_step_42 Q (nI (xk_kd k)) s0 I R := by
    intro tgo s0 p1 hs0 hv hn hpp hp1 hplp he
    unfold j_md_step_42
    rw [hat, nI_clamp (by omega), (xr_tok tk hp).2.2.1]
    refine ⟨vp_in_nI (by omega) (by omega), xk_begin ho st hl hp hkk.1 (fun I1 st1 pd1 fr1 => ?_)⟩
    rw [if_neg hkk.2] at pd1
    rw [st1.2.2.1.1, nI_clamp (by omega)]
    refine ⟨vp_in_nI (by omega) (by omega), xa_a ?_⟩
    have f2 : ∀ p' k', ¬ (p' = 133 ∧ k' = 100 * o + its.length) → (pw_wI I1 133 (100 * o + its.length) s0) p' k' = I1 p' k' := fun p' k' hp => by rw [xa_w, if_neg hp]
    have fr2 : xa_fr (xk_S o) I1 (pw_wI I1 133 (100 * o + its.length) s0) := xa_fr_w (xa_fr_r _ _) (by simp [xk_S]; omega)
    have b2 : xk_B (pw_wI I1 133 (100 * o + its.length) s0) ts L o p part rows hs its ((xi_rs its).flatMap xi_an) ev er (-1) (xk_kd k) part s0 (xt_pl ts L p) := by
      refine ⟨xr_TK_fr st1.1 fr2 xk_S_tk, ?_, xk_RS_ag st1.2.2 (fun k hk => f2 _ _ (by omega)) (fun p k a b c d => f2 _ _ (by omega)) (fun k => f2 _ _ (by omega)) (fun k => f2 _ _ (by omega)), ?_⟩
      · obtain ⟨i0, i1, i2, i3⟩ := st1.2.1
        exact ⟨by rw [f2 _ _ (by omega)]; exact i0, by rw [f2 _ _ (by omega)]; exact i1, xr_CD_fr i2 (fun q k a b _ _ => f2 _ _ (by omega)), xr_EV_fr i3 (f2 _ _ (by omega)) (fun q k a b => f2 _ _ (by omega))⟩
      · obtain ⟨a, b, c, d, e⟩ := pd1
        exact ⟨by rw [f2 _ _ (by omega)]; exact a, by rw [f2 _ _ (by omega)]; exact b, by rw [xa_w]; simp, by rw [f2 _ _ (by omega)]; exact d, by rw [f2 _ _ (by omega)]; exact e⟩
    have at2 : (pw_wI I1 133 (100 * o + its.length) s0) 121 7 = nI p := b2.2.1.1
    generalize pw_wI I1 133 (100 * o + its.length) s0 = I2 at f2 fr2 b2 at2 ⊢
    have go82 : ∀ I3, xk_B I3 ts L o p1 part rows hs its ((xi_rs its).flatMap xi_an) ev er (-1) (xk_kd k) part s0 (xt_pl ts L p) → xa_fr (xk_S o) I I3 → j_md_step_82 Q s0 (nI (xt_pl ts L p)) I3 R := by
      intro I3 b3 fr3
      unfold j_md_step_82
      refine xk_expr (lv := 0) (k := k) (ok := false) ho (by omega) b3 (by omega) hp1 (by split at hplp <;> omega) (by split at hplp <;> omega) hl (by simp) (fun p' x hx I4 it4 tk4 rl4 pd4 fr4 => ?_) (fun g hg I4 f4 fr4 => ?_)
      · refine xa_f' (by decide) ?_
        have hlx := xp_len w (by omega) (by omega) hx
        have hlu := xp_lenu w (by omega) (by omega) hx
        have hpb := xt_pl_b w (i := p')
        have htg : xk_tg hs (k, part, xt_pl ts L p, xt_en ts L (p' - 1), tgo, x, xi_r0) = s0 := by
          rw [xk_tg_n (it := (k, part, xt_pl ts L p, xt_en ts L (p' - 1), tgo, x, xi_r0)) (show k ≠ 8 by omega), hs0]
          cases tgo <;> rfl
        cases htgo : tgo with
        | none =>
          subst htgo
          refine xa_t (by rw [hs0]; decide) ?_
          refine xk_fin (it := (k, part, xt_pl ts L p, xt_en ts L (p' - 1), none, x, xi_r0)) ho tk4 it4 rl4 (by rw [htg]; exact pd4) (show k ≠ 7 by omega) hl hlx.2.1 (by omega) rfl ?_ (fun I5 st5 fr5 => ?_)
          · show (xi_G its).length + x.2.1.length < 400
            have := hn rfl; subst this; omega
          · refine h1 p' (k, part, xt_pl ts L p, xt_en ts L (p' - 1), none, x, xi_r0) (by rw [he, hx]; rfl) I5 ?_ (xa_fr_t fr3 (xa_fr_t fr4 fr5))
            rw [xk_eri_n (it := (k, part, xt_pl ts L p, xt_en ts L (p' - 1), none, x, xi_r0)) (show k ≠ 7 by omega)]
            have e : xk_evi (k, part, xt_pl ts L p, xt_en ts L (p' - 1), none, x, xi_r0) = xr_uv (-1) x.2.2.2.1 := by
              rw [xk_evi_n (it := (k, part, xt_pl ts L p, xt_en ts L (p' - 1), none, x, xi_r0)) (show k ≠ 8 by omega)]; exact List.append_nil _
            rw [e]; exact st5
        | some v =>
          subst htgo
          have hv' := hv v rfl
          have hs0' : s0 = nI v := hs0
          rw [hs0']
          refine xa_f (nI_pos (by omega)) ?_
          simp only [Option.isSome_some, if_true] at hplp
          refine xk_note it4.2.2.2 (by rw [List.length_append, xr_uv_len]; omega) (fun I5 ev5 f5 => ?_)
          have fr5 : xa_fr (xr_S (400 * o)) I4 I5 := xk_rS f5
          refine xk_fin (it := (k, part, xt_pl ts L p, xt_en ts L (p' - 1), some v, x, xi_r0)) (ev := ev ++ xr_uv (-1) x.2.2.2.1 ++ [(2, xt_pl ts L p, v, 0)]) ho (xr_TK_fr tk4 fr5 xr_S_tk) ?_ (xk_RL_fr rl4 fr5) (by rw [htg]; exact xk_PD_fr pd4 fr5) (show k ≠ 7 by omega) hl hlx.2.1 (by omega) rfl ?_ (fun I6 st6 fr6 => ?_)
          · obtain ⟨i0, i1, i2, i3⟩ := it4
            exact ⟨by rw [f5 _ _ (by omega)]; exact i0, by rw [f5 _ _ (by omega)]; exact i1, xr_CD_fr i2 (fun q k a b _ _ => f5 _ _ (by omega)), ev5⟩
          · show (xi_G its).length + x.2.1.length < 400; omega
          · refine h1 p' (k, part, xt_pl ts L p, xt_en ts L (p' - 1), some v, x, xi_r0) (by rw [he, hx]; rfl) I6 ?_ (xa_fr_t fr3 (xa_fr_t fr4 (xa_fr_t (xa_fr_m fr5 xk_S_r) fr6)))
            rw [xk_eri_n (it := (k, part, xt_pl ts L p, xt_en ts L (p' - 1), some v, x, xi_r0)) (show k ≠ 7 by omega)]
            have e : xk_evi (k, part, xt_pl ts L p, xt_en ts L (p' - 1), some v, x, xi_r0) = xr_uv (-1) x.2.2.2.1 ++ [(2, xt_pl ts L p, v, 0)] := by
              rw [xk_evi_n (it := (k, part, xt_pl ts L p, xt_en ts L (p' - 1), some v, x, xi_r0)) (show k ≠ 8 by omega)]; rfl
            rw [e, ← List.append_assoc]; exact st6
      · exact xa_t' rfl (h2 g (by rw [he, hg]; rfl) I4 f4 (xa_fr_t fr3 fr4))
    have fr02 := xa_fr_t fr1 fr2
    cases htgo : tgo with
    | none =>
      subst htgo
      have hs0' : s0 = -1 := hs0
      have := hn rfl; subst this
      exact xa_t (by rw [hs0']; decide) (go82 I2 b2 fr02)
    | some v =>
      subst htgo
      have hv' := hv v rfl
      have hs0' : s0 = nI v := hs0
      refine xa_f (by rw [hs0']; exact nI_pos (by omega)) ?_
      rw [at2, show nI p + 2 = nI (p + 2) from nI_add p 2]
      refine xa_a ?_
      obtain ⟨b3, fr3⟩ := xk_B_at (p' := p + 2) b2
      rw [← hv'.2] at b3 fr3 ⊢
      exact go82 _ b3 (xa_fr_t fr02 (xa_fr_m fr3 xk_S_r))
  have goN : ¬ (k ≤ 2 ∧ xt_kd ts L p = 259 ∧ xt_kd ts L (p + 1) = 61) → j_md_step_41 Q (nI (xk_kd k)) I R := by
    intro c4
    unfold j_md_step_41
    refine go none (-1) p rfl (fun v hv => by cases hv) (fun _ => rfl) (Nat.le_refl _) hp (by simp) ?_
    unfold xi_st; rw [if_neg c1, if_neg c2, if_neg c3, if_neg c4]
    congr 2
    simp; omega
  unfold w_md_step
  have k1 := xt_ka_1 w (p := p)
  rw [hat, nI_clamp (by omega), (xr_tok tk hp).1]
  refine ⟨vp_in_nI (by omega) (by omega), ?_⟩
  have kb0 := kb p
  by_cases h259 : xt_kd ts L p = 259
  · refine xa_t' (xa_e 2 (k1.2.1.mpr h259)) ?_
    have hpT := xt_kd_lt w (i := p) (by omega)
    have kb1 := kb (p + 1)
    rw [nI_1, nI_clamp (by omega), (xr_tok tk (show p + 1 ≤ ts.length by omega)).1]
    refine ⟨vp_in_nI (by omega) (by omega), ?_⟩
    have h61' := xt_ka_eq w (p := p + 1) 61 (by decide)
    by_cases h61 : xt_kd ts L (p + 1) = 61
    · refine xa_t' (xa_e 61 (h61'.mpr h61)) ⟨vp_in_nI (by omega) (by omega), ?_⟩
      rw [(xr_tok tk hp).2.1 (by omega)]
      have hpT1 := xt_kd_lt w (i := p + 1) (by omega)
      have m1 := xt_pl_s w (i := p) (by omega)
      have m2 : xt_pl ts L (p + 1) + 1 ≤ xt_pl ts L (p + 2) := xt_pl_s w (i := p + 1) (by omega)
      have hnb := xt_nm_b w (i := p) (by omega)
      refine go (some (xt_nm ts L p)) _ (p + 2) rfl (fun v hv => by cases hv; exact ⟨hnb, rfl⟩) (fun h => by cases h) (by omega) (by omega) (by simp; omega) ?_
      unfold xi_st; rw [if_neg c1, if_neg c2, if_neg c3, if_pos ⟨hk, h259, h61⟩]
    · exact xa_f' (xa_ne 61 (by omega)) (goN (fun h => h61 h.2.2))
  · exact xa_f' (xa_ne 2 (by omega)) (goN (fun h => h259 h.2.1))
