theorem xk_B_w {I : pI} {L o p part rows k pt fi a : Nat} {v : Int32} {ts : List (Nat × Nat × Nat × Nat)} {hs : List (Nat × Nat)} {its : List xi_I} {l : List Int32} {ev : List (Nat × Nat × Nat × Int32)} {er : Option (Nat × Nat)} {rc tg : Int32} (ha : 138 ≤ a ∧ a ≤ 144) (hl : its.length < 100) (h : xk_B I ts L o p part rows hs its l ev er rc k pt tg fi) : xk_B (pw_wI I a (100 * o + its.length) v) ts L o p part rows hs its l ev er rc k pt tg fi ∧ xa_fr (xk_S o) I (pw_wI I a (100 * o + its.length) v) := by
  obtain ⟨tk, it, rl, pd⟩ := h
  have fr : xa_fr (xk_S o) I (pw_wI I a (100 * o + its.length) v) := xa_fr_w (xa_fr_r _ _) (by simp [xk_S]; omega)
  have f : ∀ p' k', ¬ (p' = a ∧ k' = 100 * o + its.length) → (pw_wI I a (100 * o + its.length) v) p' k' = I p' k' := fun p' k' hp => by rw [xa_w, if_neg hp]
  refine ⟨⟨xr_TK_fr tk fr xk_S_tk, ?_, ?_, ?_⟩, fr⟩
  · obtain ⟨i0, i1, i2, i3⟩ := it
    exact ⟨by rw [f _ _ (by omega)]; exact i0, by rw [f _ _ (by omega)]; exact i1, xr_CD_fr i2 (fun q k a b _ _ => f _ _ (by omega)), xr_EV_fr i3 (f _ _ (by omega)) (fun q k a b => f _ _ (by omega))⟩
  · obtain ⟨⟨a1, a2⟩, ⟨b1, b2⟩, c, d, e, g, h, i⟩ := rl
    exact ⟨⟨by rw [f _ _ (by omega)]; exact a1, xk_IO_fr a2 (fun p k a b _ _ => f _ _ (by omega))⟩, ⟨by rw [f _ _ (by omega)]; exact b1, fun i a hi => by rw [f _ _ (by omega)]; exact b2 i a hi⟩, xk_ER_fr c (f _ _ (by omega)) (f _ _ (by omega)), by rw [f _ _ (by omega)]; exact d, by rw [f _ _ (by omega)]; exact e, by rw [f _ _ (by omega)]; exact g, fun i e hi => by rw [f _ _ (by omega)]; exact h i e hi, by rw [f _ _ (by omega)]; exact i⟩
  · obtain ⟨a, b, c, d, e⟩ := pd
    exact ⟨by rw [f _ _ (by omega)]; exact a, by rw [f _ _ (by omega)]; exact b, by rw [f _ _ (by omega)]; exact c, by rw [f _ _ (by omega)]; exact d, by rw [f _ _ (by omega)]; exact e⟩
theorem xk_nm0 {ts : List (Nat × Nat × Nat × Nat)} {L p : Nat} (w : xt_WF ts L) (h : 33 ≤ xt_kd ts L p ∧ xt_kd ts L p < 127) : xt_nm ts L p = 0 := by
  have hp := xt_kd_lt w (i := p) (by omega)
  have := (w.2.2 p hp).1
  unfold xt_kd at h; unfold xt_nm; unfold xt_gd at this; omega
def xk_V (I : pI) (i le : Nat) (mo : Option Nat) : Prop := I 138 i = nI le ∧ I 139 i = xk_mo mo
theorem xk_arg {I : pI} {R : pR} {L o p part rows k pt fi : Nat} {ts : List (Nat × Nat × Nat × Nat)} {hs : List (Nat × Nat)} {its : List xi_I} {l : List Int32} {ev : List (Nat × Nat × Nat × Int32)} {er : Option (Nat × Nat)} {rc tg : Int32} {Q : Int32 → pI → pR → Prop} (ho : o ≤ 1) (b : xk_B I ts L o p part rows hs its l ev er rc k pt tg fi) (hl : its.length < 100) (hp : p ≤ ts.length)
    (h1 : ∀ ft fg p', ((xt_kd ts L p = 95 ∧ ft = 0 ∧ fg = 0 ∧ p' = p + 1) ∨ (xt_kd ts L p = 33 ∧ xt_kd ts L (p + 1) = 258 ∧ ft = 2 ∧ fg = xt_nm ts L (p + 1) ∧ p' = p + 2) ∨ (xt_kd ts L p = 258 ∧ ft = 1 ∧ fg = xt_nm ts L p ∧ p' = p + 1)) → ∀ I', xk_B I' ts L o p' part rows hs its l ev er rc k pt tg fi → I' 141 (100 * o + its.length) = nI ft → I' 142 (100 * o + its.length) = nI fg → (∀ a, a = 138 ∨ a = 139 ∨ a = 140 → I' a (100 * o + its.length) = I a (100 * o + its.length)) → xa_fr (xk_S o) I I' → Q 1 I' R)
    (h2 : ∀ g, ((xt_kd ts L p = 33 ∧ xt_kd ts L (p + 1) ≠ 258 ∧ g = p + 1) ∨ (xt_kd ts L p ≠ 95 ∧ xt_kd ts L p ≠ 33 ∧ xt_kd ts L p ≠ 258 ∧ g = p)) → ∀ I', I' 121 8 = nI (xt_pl ts L g) → xa_fr (xk_S o) I I' → Q 0 I' R) : w_md_argument I R Q := by
  have tk := b.1
  have w := tk.1
  have hL := w.1
  have hT := w.2.1
  have kb := fun i => xt_ka_b (xt_kd_b w (i := i))
  have go100 : ∀ I2 p2 ft fg, xk_B I2 ts L o p2 part rows hs its l ev er rc k pt tg fi → p2 ≤ ts.length → xt_kd ts L p2 ≠ 257 → xt_nm ts L p2 = fg → ((xt_kd ts L p = 95 ∧ ft = 0 ∧ fg = 0 ∧ p2 + 1 = p + 1) ∨ (xt_kd ts L p = 33 ∧ xt_kd ts L (p + 1) = 258 ∧ ft = 2 ∧ fg = xt_nm ts L (p + 1) ∧ p2 + 1 = p + 2) ∨ (xt_kd ts L p = 258 ∧ ft = 1 ∧ fg = xt_nm ts L p ∧ p2 + 1 = p + 1)) → I2 141 (100 * o + its.length) = nI ft → (∀ a, a = 138 ∨ a = 139 ∨ a = 140 → I2 a (100 * o + its.length) = I a (100 * o + its.length)) → xa_fr (xk_S o) I I2 → j_md_argument_100 Q I2 R := by
    intro I2 p2 ft fg b2 hp2 hk2 hfg hcase e141 eo fr2
    unfold j_md_argument_100
    rw [b2.2.1.1, nI_clamp (by omega), (xr_tok b2.1 hp2).2.1 hk2, b2.2.2.1.1.1, nI_clamp (by omega), hfg]
    refine ⟨vp_in_nI (by omega) (by omega), vp_in_nI (by omega) (by omega), xa_a ?_⟩
    obtain ⟨b3, fr3⟩ := xk_B_w (a := 142) (v := nI fg) (by omega) hl b2
    rw [b3.2.1.1, nI_1]
    refine xa_a ?_
    obtain ⟨b4, fr4⟩ := xk_B_at (p' := p2 + 1) b3
    refine h1 ft fg (p2 + 1) hcase _ b4 ?_ ?_ (fun a ha => ?_) (xa_fr_t fr2 (xa_fr_t fr3 (xa_fr_m fr4 xk_S_r)))
    · rw [xa_p (by decide), xa_w, if_neg (by omega)]; exact e141
    · rw [xa_p (by decide), xa_w]; simp
    · rw [xa_p (by omega), xa_w, if_neg (by omega)]; exact eo a ha
  have go45 : ∀ ft, (ft = if xt_kd ts L p = 95 then 0 else if xt_kd ts L p = 33 then 2 else 1) → j_md_argument_45 Q (nI (100 * o + its.length)) (nI ft) I R := by
    intro ft hft
    unfold j_md_argument_45
    rw [nI_clamp (by omega)]
    refine ⟨vp_in_nI (by omega) (by omega), xa_a ?_⟩
    obtain ⟨b1, fr1⟩ := xk_B_w (a := 141) (v := nI ft) (by omega) hl b
    have e141 : (pw_wI I 141 (100 * o + its.length) (nI ft)) 141 (100 * o + its.length) = nI ft := by rw [xa_w]; simp
    have eo : ∀ a, a = 138 ∨ a = 139 ∨ a = 140 → (pw_wI I 141 (100 * o + its.length) (nI ft)) a (100 * o + its.length) = I a (100 * o + its.length) := fun a ha => by rw [xa_w, if_neg (by omega)]
    generalize pw_wI I 141 (100 * o + its.length) (nI ft) = I1 at b1 fr1 e141 eo ⊢
    rw [b1.2.1.1, nI_clamp (by omega), (xr_tok b1.1 hp).1]
    refine ⟨vp_in_nI (by omega) (by omega), ?_⟩
    have k33 := xt_ka_eq w (p := p) 33 (by decide)
    have kbp := kb p
    by_cases h33 : xt_kd ts L p = 33
    · refine xa_t' (xa_e 33 (k33.mpr h33)) ?_
      have hpT := xt_kd_lt w (i := p) (by omega)
      rw [if_neg (by omega), if_pos h33] at hft
      subst hft
      rw [nI_1]
      refine xa_a ?_
      obtain ⟨b2, fr2⟩ := xk_B_at (p' := p + 1) b1
      have e141' : (pw_wI I1 121 7 (nI (p + 1))) 141 (100 * o + its.length) = nI 2 := by rw [xa_p (by decide)]; exact e141
      have eo' : ∀ a, a = 138 ∨ a = 139 ∨ a = 140 → (pw_wI I1 121 7 (nI (p + 1))) a (100 * o + its.length) = I a (100 * o + its.length) := fun a ha => by rw [xa_p (by omega)]; exact eo a ha
      generalize pw_wI I1 121 7 (nI (p + 1)) = I2 at b2 fr2 e141' eo' ⊢
      unfold j_md_argument_70
      rw [b2.2.2.1.1.1, nI_clamp (by omega), e141']
      refine ⟨vp_in_nI (by omega) (by omega), xa_f (by decide) ?_⟩
      rw [b2.2.1.1, nI_clamp (by omega), (xr_tok b2.1 (show p + 1 ≤ ts.length by omega)).1]
      refine ⟨vp_in_nI (by omega) (by omega), ?_⟩
      have k1 := xt_ka_1 w (p := p + 1)
      have kbp1 := kb (p + 1)
      by_cases h258 : xt_kd ts L (p + 1) = 258
      · refine xa_t (xa_e 1 (k1.1.mpr h258)) ?_
        exact go100 I2 (p + 1) 2 (xt_nm ts L (p + 1)) b2 (by omega) (by omega) rfl (Or.inr (Or.inl ⟨h33, h258, rfl, rfl, rfl⟩)) e141' eo' (xa_fr_t fr1 (xa_fr_m fr2 xk_S_r))
      · refine xa_f (xa_ne 1 (by omega)) (xr_fail b2.1 b2.2.1.1 (by omega) (h2 (p + 1) (Or.inl ⟨h33, h258, rfl⟩) _ (by rw [xa_w]; simp) (xa_fr_t fr1 (xa_fr_t (xa_fr_m fr2 xk_S_r) (xa_fr_w (xa_fr_r _ _) rfl)))))
    · refine xa_f' (xa_ne 33 (by omega)) ?_
      unfold j_md_argument_70
      rw [b1.2.2.1.1.1, nI_clamp (by omega), e141]
      refine ⟨vp_in_nI (by omega) (by omega), ?_⟩
      by_cases h95 : xt_kd ts L p = 95
      · rw [if_pos h95] at hft
        subst hft
        refine xa_t (by decide) ?_
        exact go100 I1 p 0 0 b1 hp (by omega) (xk_nm0 w (by omega)) (Or.inl ⟨h95, rfl, rfl, rfl⟩) e141 eo fr1
      · rw [if_neg h95, if_neg h33] at hft
        subst hft
        refine xa_f (by decide) ?_
        rw [b1.2.1.1, nI_clamp (by omega), (xr_tok b1.1 hp).1]
        refine ⟨vp_in_nI (by omega) (by omega), ?_⟩
        have k1 := xt_ka_1 w (p := p)
        by_cases h258 : xt_kd ts L p = 258
        · refine xa_t (xa_e 1 (k1.1.mpr h258)) ?_
          exact go100 I1 p 1 (xt_nm ts L p) b1 hp (by omega) rfl (Or.inr (Or.inr ⟨h258, rfl, rfl, rfl⟩)) e141 eo fr1
        · refine xa_f (xa_ne 1 (by omega)) (xr_fail b1.1 b1.2.1.1 (by omega) (h2 p (Or.inr ⟨h95, h33, h258, rfl⟩) _ (by rw [xa_w]; simp) (xa_fr_t fr1 (xa_fr_w (xa_fr_r _ _) rfl))))
  unfold w_md_argument
  rw [b.2.1.1, nI_clamp (by omega), (xr_tok tk hp).1, b.2.2.1.1.1]
  refine ⟨vp_in_nI (by omega) (by omega), ?_⟩
  have k95 := xt_ka_eq w (p := p) 95 (by decide)
  have k33 := xt_ka_eq w (p := p) 33 (by decide)
  have kbp := kb p
  by_cases h95 : xt_kd ts L p = 95
  · exact xa_t' (xa_e 95 (k95.mpr h95)) (go45 0 (by rw [if_pos h95]))
  · refine xa_f' (xa_ne 95 (by omega)) ⟨vp_in_nI (by omega) (by omega), ?_⟩
    by_cases h33 : xt_kd ts L p = 33
    · exact xa_t' (xa_e 33 (k33.mpr h33)) (go45 2 (by rw [if_neg h95, if_pos h33]))
    · exact xa_f' (xa_ne 33 (by omega)) (go45 1 (by rw [if_neg h95, if_neg h33]))
theorem xk_ans {R : pR} {L o part rows k pt fi : Nat} {ts : List (Nat × Nat × Nat × Nat)} {hs : List (Nat × Nat)} {its : List xi_I} {A : List Int32} {ev : List (Nat × Nat × Nat × Int32)} {er : Option (Nat × Nat)} {rc tg : Int32} {K : pI → pR → Prop} {Q : Int32 → pI → pR → Prop} (ho : o ≤ 1) : ∀ m p an I, ts.length < p + m → p < ts.length → 2 * (A.length + an.length) ≤ p → xk_B I ts L o p part rows hs its (A ++ an) ev er rc k pt tg fi →
    (∀ p' a, xi_ans (xt_kd ts L) (xt_nm ts L) m (p + 1) an = .inr (p', a) → ∀ I', xk_B I' ts L o p' part rows hs its (A ++ a) ev er rc k pt tg fi → (∀ a, 138 ≤ a → a ≤ 144 → I' a = I a) → xa_fr (xk_S o) I I' → K I' R) →
    (∀ g, xi_ans (xt_kd ts L) (xt_nm ts L) m (p + 1) an = .inl g → ∀ I', I' 121 8 = nI (xt_pl ts L g) → xa_fr (xk_S o) I I' → Q 0 I' R) → l_md_rule_241 K Q (m + 1) 1 I R := by
  intro m; induction m with
  | zero => intro p an I h1 h2; omega
  | succ m ih =>
    intro p an I h1 h2 h3 b hK hF
    have tk := b.1
    have w := tk.1
    have hL := w.1
    have hT := w.2.1
    have kb := fun i => xt_ka_b (xt_kd_b w (i := i))
    unfold l_md_rule_241
    refine xa_f (by decide) ?_
    rw [b.2.1.1, nI_1]
    refine xa_a ?_
    obtain ⟨b1, fr1⟩ := xk_B_at (p' := p + 1) b
    have e1 : ∀ a, 138 ≤ a → a ≤ 144 → (pw_wI I 121 7 (nI (p + 1))) a = I a := fun a ha hb => xa_p (by omega)
    generalize pw_wI I 121 7 (nI (p + 1)) = I1 at b1 fr1 e1 ⊢
    rw [b1.2.1.1, nI_clamp (by omega), (xr_tok b1.1 (show p + 1 ≤ ts.length by omega)).1]
    refine ⟨vp_in_nI (by omega) (by omega), ?_⟩
    have k45 := xt_ka_eq w (p := p + 1) 45 (by decide)
    have kbp := kb (p + 1)
    have go : ∀ p2 I2, (p2 = if xt_kd ts L (p + 1) = 45 then p + 1 + 1 else p + 1) → xk_B I2 ts L o p2 part rows hs its (A ++ an) ev er rc k pt tg fi → (∀ a, 138 ≤ a → a ≤ 144 → I2 a = I a) → xa_fr (xk_S o) I I2 → j_md_rule_289 (fun y1 I18 R8 => l_md_rule_241 K Q (m + 1) y1 I18 R8) Q (if xt_kd ts L (p + 1) = 45 then -1 else 1) I2 R := by
      intro p2 I2 hp2 b2 e2 fr2
      have hp2' : p2 ≤ ts.length := by
        rw [hp2]; split
        · rename_i h45; have := xt_kd_lt w (i := p + 1) (by omega); omega
        · omega
      have hp2'' : p + 1 ≤ p2 := by rw [hp2]; split <;> omega
      have kbp2 := kb p2
      have k1 := xt_ka_1 w (p := p2)
      unfold j_md_rule_289
      rw [b2.2.1.1, nI_clamp (by omega), (xr_tok b2.1 hp2').1]
      refine ⟨vp_in_nI (by omega) (by omega), ?_⟩
      by_cases h258 : xt_kd ts L p2 = 258
      · refine xa_t (xa_e 1 (k1.1.mpr h258)) ⟨vp_in_nI (by omega) (by omega), ?_⟩
        have hpT := xt_kd_lt w (i := p2) (by omega)
        have ham := b2.2.2.1.2.1
        rw [ham.1, (xr_tok b2.1 hp2').2.1 (by omega), nI_clamp (by rw [List.length_append]; omega)]
        refine ⟨vp_in_nI (by rw [List.length_append]; omega) (by omega), fun I3 e3 => ?_⟩
        have s3 : I3 121 33 = nI (120 * o + (A ++ an).length) := by rw [e3, xa_p (by decide)]; exact ham.1
        rw [s3, nI_1]
        intro I4 e4
        have a4 : I4 121 7 = nI p2 := by rw [e4, xa_w, if_neg (by decide), e3, xa_p (by decide)]; exact b2.2.1.1
        rw [a4, nI_1]
        intro I5 e5
        have hI : ∀ p' i, I5 p' i = (if p' = 121 ∧ i = 7 then nI (p2 + 1) else if p' = 121 ∧ i = 33 then nI (120 * o + (A ++ an).length + 1) else if p' = 146 ∧ i = 120 * o + (A ++ an).length then (if xt_kd ts L (p + 1) = 45 then -1 else 1) * nI (xt_nm ts L p2) else I2 p' i) := by
          intro p' i; rw [e5, xa_w, e4, xa_w, e3, xa_w]
        have f5 : ∀ p' i, ¬ ((p' = 121 ∧ (i = 7 ∨ i = 33)) ∨ (p' = 146 ∧ i = 120 * o + (A ++ an).length)) → I5 p' i = I2 p' i := fun p' i hp => by
          rw [hI, if_neg (by omega), if_neg (by omega), if_neg (by omega)]
        have fr5 : xa_fr (xk_S o) I2 I5 := by
          intro p' i hp
          refine f5 p' i ?_
          simp only [xk_S, Bool.or_eq_false_iff, Bool.and_eq_false_iff, beq_eq_false_iff_ne, decide_eq_false_iff_not] at hp
          rw [List.length_append]; omega
        have b5 : xk_B I5 ts L o (p2 + 1) part rows hs its (A ++ (an ++ [(if xt_kd ts L (p + 1) = 45 then -1 else 1) * nI (xt_nm ts L p2)])) ev er rc k pt tg fi := by
          obtain ⟨tk2, it2, rl2, pd2⟩ := b2
          refine ⟨xr_TK_fr tk2 fr5 xk_S_tk, ?_, ?_, ?_⟩
          · obtain ⟨i0, i1, i2, i3⟩ := it2
            exact ⟨by rw [hI]; simp, by rw [f5 _ _ (by omega)]; exact i1, xr_CD_fr i2 (fun q k a b _ _ => f5 _ _ (by omega)), xr_EV_fr i3 (f5 _ _ (by omega)) (fun q k a b => f5 _ _ (by omega))⟩
          · obtain ⟨⟨a1, a2⟩, ⟨c1, c2⟩, c, d, e, g, h, i⟩ := rl2
            refine ⟨⟨by rw [f5 _ _ (by omega)]; exact a1, xk_IO_fr a2 (fun p k a b _ _ => f5 _ _ (by omega))⟩, ⟨?_, fun i x hi => ?_⟩, xk_ER_fr c (f5 _ _ (by omega)) (f5 _ _ (by omega)), by rw [f5 _ _ (by omega)]; exact d, by rw [f5 _ _ (by omega)]; exact e, by rw [f5 _ _ (by omega)]; exact g, fun i e hi => by rw [f5 _ _ (by omega)]; exact h i e hi, by rw [f5 _ _ (by omega)]; exact i⟩
            · rw [hI, if_neg (by omega), if_pos ⟨rfl, rfl⟩, ← List.append_assoc, List.length_append (as := A ++ an), List.length_singleton]; rfl
            · rw [← List.append_assoc] at hi
              rcases xa_app hi with ⟨hi', hlt⟩ | ⟨hi', he⟩
              · rw [f5 _ _ (by omega)]; exact c2 i x hi'
              · subst hi'; rw [he, hI, if_neg (by omega), if_neg (by omega), if_pos ⟨rfl, rfl⟩]
          · obtain ⟨a, b, c, d, e⟩ := pd2
            exact ⟨by rw [f5 _ _ (by omega)]; exact a, by rw [f5 _ _ (by omega)]; exact b, by rw [f5 _ _ (by omega)]; exact c, by rw [f5 _ _ (by omega)]; exact d, by rw [f5 _ _ (by omega)]; exact e⟩
        have e5' : ∀ a, 138 ≤ a → a ≤ 144 → I5 a = I a := fun a ha hb => (funext (fun i => f5 a i (by omega))).trans (e2 a ha hb)
        have fr05 := xa_fr_t fr2 fr5
        rw [show I5 121 7 = nI (p2 + 1) from b5.2.1.1, nI_clamp (by omega), (xr_tok b5.1 (show p2 + 1 ≤ ts.length by omega)).1]
        refine ⟨vp_in_nI (by omega) (by omega), ?_⟩
        have k44 := xt_ka_eq w (p := p2 + 1) 44 (by decide)
        have kbq := kb (p2 + 1)
        by_cases h44 : xt_kd ts L (p2 + 1) = 44
        · refine xa_t' (xa_e 44 (k44.mpr h44)) ?_
          have hpT2 := xt_kd_lt w (i := p2 + 1) (by omega)
          have e : xi_ans (xt_kd ts L) (xt_nm ts L) (m + 1) (p + 1) an = xi_ans (xt_kd ts L) (xt_nm ts L) m (p2 + 1 + 1) (an ++ [(if xt_kd ts L (p + 1) = 45 then -1 else 1) * nI (xt_nm ts L p2)]) := by
            subst hp2
            show (if _ then _ else _) = _
            rw [if_neg (fun hh => hh h258), if_pos h44]
          rw [e] at hK hF
          exact ih (p2 + 1) _ I5 (by omega) (by omega) (by rw [List.length_append, List.length_singleton]; omega) b5 (fun p' a h I' b' e' fr' => hK p' a h I' b' (fun a ha hb => (e' a ha hb).trans (e5' a ha hb)) (xa_fr_t fr05 fr')) (fun g h I' f' fr' => hF g h I' f' (xa_fr_t fr05 fr'))
        · refine xa_f' (xa_ne 44 (by omega)) ?_
          have e : xi_ans (xt_kd ts L) (xt_nm ts L) (m + 1) (p + 1) an = .inr (p2 + 1, an ++ [(if xt_kd ts L (p + 1) = 45 then -1 else 1) * nI (xt_nm ts L p2)]) := by
            subst hp2
            show (if _ then _ else _) = _
            rw [if_neg (fun hh => hh h258), if_neg h44]
          show l_md_rule_241 K Q (m + 1) 0 I5 R
          unfold l_md_rule_241
          exact xa_t rfl (hK _ _ e I5 b5 e5' fr05)
      · have e : xi_ans (xt_kd ts L) (xt_nm ts L) (m + 1) (p + 1) an = .inl p2 := by
          subst hp2
          show (if _ then _ else _) = _
          rw [if_pos h258]
        refine xa_f (xa_ne 1 (by omega)) (xr_fail b2.1 b2.2.1.1 (by omega) (hF p2 e _ (by rw [xa_w]; simp) (xa_fr_t fr2 (xa_fr_w (xa_fr_r _ _) rfl))))
    by_cases h45 : xt_kd ts L (p + 1) = 45
    · refine xa_t' (xa_e 45 (k45.mpr h45)) ?_
      unfold j_md_rule_274
      refine xa_f (by decide) ?_
      rw [b1.2.1.1, nI_1]
      refine xa_a ?_
      obtain ⟨b2, fr2⟩ := xk_B_at (p' := p + 1 + 1) b1
      have := go (p + 1 + 1) _ (by rw [if_pos h45]) b2 (fun a ha hb => (xa_p (by omega)).trans (e1 a ha hb)) (xa_fr_t (xa_fr_m fr1 xk_S_r) (xa_fr_m fr2 xk_S_r))
      rw [if_pos h45] at this
      exact this
    · refine xa_f' (xa_ne 45 (by omega)) ?_
      unfold j_md_rule_274
      refine xa_t (by decide) ?_
      have := go (p + 1) I1 (by rw [if_neg h45]) b1 e1 (xa_fr_m fr1 xk_S_r)
      rw [if_neg h45] at this
      exact this
