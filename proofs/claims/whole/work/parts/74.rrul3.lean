theorem xk_eri_y {er : Option (Nat × Nat)} {it : xi_I} {m : Nat} (hm : xi_mo (xi_ru it) = some m) (h7 : xi_k it = 7) : xk_eri er it = if m < xi_le (xi_ru it) then xk_fd 5 (xi_fi it) er else er := by
  unfold xk_eri; rw [hm]; simp [h7]
set_option maxHeartbeats 2000000 in
theorem xk_rule {I : pI} {R : pR} {L o p part rows : Nat} {ts : List (Nat × Nat × Nat × Nat)} {hs : List (Nat × Nat)} {its : List xi_I} {ev : List (Nat × Nat × Nat × Int32)} {er : Option (Nat × Nat)} {Q : Int32 → pI → pR → Prop} (ho : o ≤ 1) (st : xk_ST I ts L o p part rows hs its ev er (-1)) (hp : p ≤ ts.length) (hr : xi_isR (xt_kd ts L) p = true) (hg : (xi_G its).length ≤ xt_pl ts L p) (hl : its.length < 100) (hA : 2 * ((xi_rs its).flatMap xi_an).length ≤ p)
    (h1 : ∀ p' ru, xi_rul (xt_kd ts L) (xt_nm ts L) p = .inr (p', ru) → ∀ I', xk_ST I' ts L o p' part rows hs (its ++ [(7, part, xt_pl ts L p, xt_en ts L (p' - 1), none, xi_x0, ru)]) ev (xk_eri er (7, part, xt_pl ts L p, xt_en ts L (p' - 1), none, xi_x0, ru)) (-1) → xa_fr (xk_S o) I I' → Q 1 I' R)
    (h2 : ∀ g, xi_rul (xt_kd ts L) (xt_nm ts L) p = .inl g → ∀ I', I' 121 8 = nI (xt_pl ts L g) → xa_fr (xk_S o) I I' → Q 0 I' R) : w_md_rule I R Q := by
  have tk := st.1
  have w := tk.1
  have hL := w.1
  have hT := w.2.1
  have kb := fun i => xt_ka_b (xt_kd_b w (i := i))
  have hpb := xt_pl_b w (i := p)
  unfold xi_isR at hr
  simp only [Bool.and_eq_true, decide_eq_true_eq] at hr
  have h258 := hr.1
  have hpT := xt_kd_lt w (i := p) (by omega)
  -- the end of a rule
  have goK : ∀ I23 an p' le mo wh ft fg, xi_rul (xt_kd ts L) (xt_nm ts L) p = .inr (p', (le, mo, wh, ft, fg, an)) → le < 10000 → (∀ m, mo = some m → m < 10000) → xk_B I23 ts L o p' part rows hs its ((xi_rs its).flatMap xi_an ++ an) ev er (-1) 7 part (-1) (xt_pl ts L p) → I23 138 (100 * o + its.length) = nI le → I23 139 (100 * o + its.length) = xk_mo mo → I23 140 (100 * o + its.length) = nI wh → I23 141 (100 * o + its.length) = nI ft → I23 142 (100 * o + its.length) = nI fg → I23 143 (100 * o + its.length) = nI (120 * o + ((xi_rs its).flatMap xi_an).length) → xa_fr (xk_S o) I I23 → (vp_in (I23 121 32) 200 ∧ ∀ I24, I24 = pw_wI I23 144 (I23 121 32).toNatClampNeg (I23 121 33) → (vp_in (I24 121 32) 200 ∧ (((I24 139 (I24 121 32).toNatClampNeg) < 0 → (w_md_finish I24 R (fun I25 R13 => Q (1 : Int32) I25 R13))) ∧ (¬ (I24 139 (I24 121 32).toNatClampNeg) < 0 → (vp_in (I24 121 32) 200 ∧ (vp_in (I24 121 32) 200 ∧ (((I24 138 (I24 121 32).toNatClampNeg) ≤ (I24 139 (I24 121 32).toNatClampNeg) → (w_md_finish I24 R (fun I26 R14 => Q (1 : Int32) I26 R14))) ∧ (¬ (I24 138 (I24 121 32).toNatClampNeg) ≤ (I24 139 (I24 121 32).toNatClampNeg) → (vp_in (I24 121 32) 200 ∧ (w_md_found (5 : Int32) (I24 136 (I24 121 32).toNatClampNeg) I24 R (fun I27 R15 => (w_md_finish I27 R15 (fun I28 R16 => Q (1 : Int32) I28 R16))))))))))))) := by
    intro I23 an p' le mo wh ft fg hrul hle hmo b e138 e139 e140 e141 e142 e143 fr
    have hlen := xi_rul_len w hp hrul
    have ham := b.2.2.1.2.1
    have hv : vp_in (nI (100 * o + its.length)) 200 := vp_in_nI (by omega) (by decide)
    rw [b.2.2.1.1.1, nI_clamp (by omega), ham.1]
    refine ⟨hv, xa_a ?_⟩
    obtain ⟨b2, fr2⟩ := xk_B_w (a := 144) (v := nI (120 * o + ((xi_rs its).flatMap xi_an ++ an).length)) (by omega) hl b
    have ev : ∀ a, a ≠ 144 → (pw_wI I23 144 (100 * o + its.length) (nI (120 * o + ((xi_rs its).flatMap xi_an ++ an).length))) a (100 * o + its.length) = I23 a (100 * o + its.length) := fun a ha => by rw [xa_p ha]
    have e144 : (pw_wI I23 144 (100 * o + its.length) (nI (120 * o + ((xi_rs its).flatMap xi_an ++ an).length))) 144 (100 * o + its.length) = nI (120 * o + ((xi_rs its).flatMap xi_an ++ an).length) := by rw [xa_w]; simp
    generalize pw_wI I23 144 (100 * o + its.length) (nI (120 * o + ((xi_rs its).flatMap xi_an ++ an).length)) = I24 at b2 fr2 ev e144 ⊢
    have fin : ∀ er' I25, xk_ER I25 er' → (∀ p' k', ¬ (p' = 121 ∧ (k' = 55 ∨ k' = 56)) → I25 p' k' = I24 p' k') → er' = xk_eri er (7, part, xt_pl ts L p, xt_en ts L (p' - 1), none, xi_x0, (le, mo, wh, ft, fg, an)) → w_md_finish I25 R (fun I26 R14 => Q (1 : Int32) I26 R14) := by
      intro er' I25 her f hee
      have hrs : xi_rs (its ++ [((7, part, xt_pl ts L p, xt_en ts L (p' - 1), none, xi_x0, (le, mo, wh, ft, fg, an)) : xi_I)]) = xi_rs its ++ [(le, mo, wh, ft, fg, an)] := xi_rs_y rfl
      have hG : xi_G (its ++ [((7, part, xt_pl ts L p, xt_en ts L (p' - 1), none, xi_x0, (le, mo, wh, ft, fg, an)) : xi_I)]) = xi_G its := by rw [xi_G_app, xi_G_one]; exact List.append_nil _
      have hAn : (xi_rs its ++ [((le, mo, wh, ft, fg, an) : xi_R)]).flatMap xi_an = (xi_rs its).flatMap xi_an ++ an := by simp [xi_an]
      have fr25 : xa_fr (xk_S o) I24 I25 := fun p k hpk => f p k (by
        simp only [xk_S, Bool.or_eq_false_iff, Bool.and_eq_false_iff, beq_eq_false_iff_ne, decide_eq_false_iff_not] at hpk; omega)
      obtain ⟨tk2, it2, rl2, pd2⟩ := b2
      refine xk_finish (it := (7, part, xt_pl ts L p, xt_en ts L (p' - 1), none, xi_x0, (le, mo, wh, ft, fg, an))) (k := 0) (tg := 0) (Q := fun _ _ _ => True) (er := er') ho (xr_TK_fr tk2 fr25 xk_S_tk) ?_ ?_ ?_ ?_ (fun _ => ?_) hl hlen.2 (by omega) rfl (fun I26 st26 fr26 => h1 p' _ hrul I26 (by rw [← hee]; exact st26) (xa_fr_t fr (xa_fr_t fr2 (xa_fr_t fr25 fr26))))
      · rw [hG]
        obtain ⟨i0, i1, i2, i3⟩ := it2
        exact ⟨by rw [f _ _ (by omega)]; exact i0, by rw [f _ _ (by omega)]; exact i1, xr_CD_fr i2 (fun q k a b _ _ => f _ _ (by omega)), xr_EV_fr i3 (f _ _ (by omega)) (fun q k a b => f _ _ (by omega))⟩
      · rw [hG]; omega
      · rw [hrs, hAn]
        obtain ⟨⟨a1, a2⟩, ⟨c1, c2⟩, c, d, e, g, h, i⟩ := rl2
        exact ⟨⟨by rw [f _ _ (by omega)]; exact a1, xk_IO_fr a2 (fun p k a b _ _ => f _ _ (by omega))⟩, ⟨by rw [f _ _ (by omega)]; exact c1, fun i a hi => by rw [f _ _ (by omega)]; exact c2 i a hi⟩, her, by rw [f _ _ (by omega)]; exact d, by rw [f _ _ (by omega)]; exact e, by rw [f _ _ (by omega)]; exact g, fun i e hi => by rw [f _ _ (by omega)]; exact h i e hi, by rw [f _ _ (by omega)]; exact i⟩
      · obtain ⟨a, b, c, d, e⟩ := pd2
        exact ⟨by rw [f _ _ (by omega)]; exact a, by rw [f _ _ (by omega)]; exact b, by rw [f _ _ (by omega)]; exact c, by rw [f _ _ (by omega)]; exact d, by rw [f _ _ (by omega)]; exact e⟩
      · rw [hrs, hAn]
        exact ⟨by rw [f _ _ (by omega), ev _ (by omega)]; exact e138, by rw [f _ _ (by omega), ev _ (by omega)]; exact e139, by rw [f _ _ (by omega), ev _ (by omega)]; exact e140, by rw [f _ _ (by omega), ev _ (by omega)]; exact e141, by rw [f _ _ (by omega), ev _ (by omega)]; exact e142, by rw [f _ _ (by omega), ev _ (by omega)]; exact e143, by rw [f _ _ (by omega)]; exact e144⟩
    rw [b2.2.2.1.1.1, nI_clamp (by omega), ev 139 (by decide), e139, ev 138 (by decide), e138]
    refine ⟨hv, ?_⟩
    cases mo with
    | none =>
      refine xa_t (by decide) (fin er I24 b2.2.2.1.2.2.1 (fun _ _ _ => rfl) rfl)
    | some m =>
      have hm := hmo m rfl
      refine xa_f (nI_pos (by omega)) ⟨hv, hv, ?_⟩
      by_cases hc : le ≤ m
      · refine xa_t ((nI_leI (by omega) (by omega)).mpr hc) (fin er I24 b2.2.2.1.2.2.1 (fun _ _ _ => rfl) ?_)
        exact ((xk_eri_y (it := (7, part, xt_pl ts L p, xt_en ts L (p' - 1), none, xi_x0, (le, some m, wh, ft, fg, an))) (m := m) rfl rfl).trans (if_neg (show ¬ (m < le) by omega))).symm
      · refine xa_f (fun hh => hc ((nI_leI (by omega) (by omega)).mp hh)) ⟨hv, ?_⟩
        rw [b2.2.2.2.2.2.2.2]
        refine xk_found (c := 5) b2.2.2.1.2.2.1 (by decide) (by omega) (fun I25 her f => fin _ I25 her f ?_)
        exact ((xk_eri_y (it := (7, part, xt_pl ts L p, xt_en ts L (p' - 1), none, xi_x0, (le, some m, wh, ft, fg, an))) (m := m) rfl rfl).trans (if_pos (show m < le by omega))).symm
  -- from the star on
  have go115 : ∀ I4 le mo p2, le < 10000 → (∀ m, mo = some m → m < 10000) → p + 1 ≤ p2 → p2 ≤ ts.length → (∀ r, xi_rul (xt_kd ts L) (xt_nm ts L) p = r ↔ xi_rul2 (xt_kd ts L) (xt_nm ts L) le mo p2 = r) → xk_B I4 ts L o p2 part rows hs its ((xi_rs its).flatMap xi_an) ev er (-1) 7 part (-1) (xt_pl ts L p) → I4 138 (100 * o + its.length) = nI le → I4 139 (100 * o + its.length) = xk_mo mo → xa_fr (xk_S o) I I4 → j_md_rule_115 Q I4 R := by
    intro I4 le mo p2 hle hmo hp2 hp2T he b4 e138 e139 fr4
    unfold j_md_rule_115
    refine xk_want 42 (by decide) b4.1 b4.2.1.1 (by omega) (fun h42 => ?_) (fun h42 I' f' fr' => ?_)
    · refine xa_f' (by decide) ?_
      have hT2 := xt_kd_lt w (i := p2) (by omega)
      obtain ⟨b5, fr5⟩ := xk_B_at (p' := p2 + 1) b4
      have e138' : (pw_wI I4 121 7 (nI (p2 + 1))) 138 (100 * o + its.length) = nI le := by rw [xa_p (by decide)]; exact e138
      have e139' : (pw_wI I4 121 7 (nI (p2 + 1))) 139 (100 * o + its.length) = xk_mo mo := by rw [xa_p (by decide)]; exact e139
      generalize pw_wI I4 121 7 (nI (p2 + 1)) = I5 at b5 fr5 e138' e139' ⊢
      have fr05 := xa_fr_t fr4 (xa_fr_m fr5 xk_S_r)
      have kb1 := kb (p2 + 1)
      have k77 := xt_ka_eq w (p := p2 + 1) 77 (by decide)
      have k78 := xt_ka_eq w (p := p2 + 1) 78 (by decide)
      have go169 : ∀ wh, wh = (if xt_kd ts L (p2 + 1) = 78 then 1 else 0) → (xt_kd ts L (p2 + 1) = 77 ∨ xt_kd ts L (p2 + 1) = 78) → j_md_rule_169 Q (nI (100 * o + its.length)) (nI wh) I5 R := by
        intro wh hwh hM
        have hM' : ¬ (xt_kd ts L (p2 + 1) ≠ 77 ∧ xt_kd ts L (p2 + 1) ≠ 78) := by omega
        have hT3 := xt_kd_lt w (i := p2 + 1) (by omega)
        unfold j_md_rule_169
        rw [nI_clamp (by omega)]
        refine ⟨vp_in_nI (by omega) (by omega), xa_a ?_⟩
        obtain ⟨b6, fr6⟩ := xk_B_w (a := 140) (v := nI wh) (by omega) hl b5
        have d138 : (pw_wI I5 140 (100 * o + its.length) (nI wh)) 138 (100 * o + its.length) = nI le := by rw [xa_p (by decide)]; exact e138'
        have d139 : (pw_wI I5 140 (100 * o + its.length) (nI wh)) 139 (100 * o + its.length) = xk_mo mo := by rw [xa_p (by decide)]; exact e139'
        have d140 : (pw_wI I5 140 (100 * o + its.length) (nI wh)) 140 (100 * o + its.length) = nI wh := by rw [xa_w]; simp
        generalize pw_wI I5 140 (100 * o + its.length) (nI wh) = I6 at b6 fr6 d138 d139 d140 ⊢
        rw [b6.2.1.1, nI_1]
        refine xa_a ?_
        obtain ⟨b7, fr7⟩ := xk_B_at (p' := p2 + 1 + 1) b6
        have c138 : (pw_wI I6 121 7 (nI (p2 + 1 + 1))) 138 (100 * o + its.length) = nI le := by rw [xa_p (by decide)]; exact d138
        have c139 : (pw_wI I6 121 7 (nI (p2 + 1 + 1))) 139 (100 * o + its.length) = xk_mo mo := by rw [xa_p (by decide)]; exact d139
        have c140 : (pw_wI I6 121 7 (nI (p2 + 1 + 1))) 140 (100 * o + its.length) = nI wh := by rw [xa_p (by decide)]; exact d140
        generalize pw_wI I6 121 7 (nI (p2 + 1 + 1)) = I7 at b7 fr7 c138 c139 c140 ⊢
        have fr07 := xa_fr_t fr05 (xa_fr_t fr6 (xa_fr_m fr7 xk_S_r))
        refine xk_want 40 (by decide) b7.1 b7.2.1.1 (by omega) (fun h40 => ?_) (fun h40 I' f' fr' => ?_)
        · refine xa_f (by decide) ?_
          have hT4 := xt_kd_lt w (i := p2 + 1 + 1) (by omega)
          obtain ⟨b8, fr8⟩ := xk_B_at (p' := p2 + 3) b7
          have a138 : (pw_wI I7 121 7 (nI (p2 + 3))) 138 (100 * o + its.length) = nI le := by rw [xa_p (by decide)]; exact c138
          have a139 : (pw_wI I7 121 7 (nI (p2 + 3))) 139 (100 * o + its.length) = xk_mo mo := by rw [xa_p (by decide)]; exact c139
          have a140 : (pw_wI I7 121 7 (nI (p2 + 3))) 140 (100 * o + its.length) = nI wh := by rw [xa_p (by decide)]; exact c140
          show w_md_argument (pw_wI I7 121 7 (nI (p2 + 3))) R _
          generalize pw_wI I7 121 7 (nI (p2 + 3)) = I8 at b8 fr8 a138 a139 a140 ⊢
          have fr08 := xa_fr_t fr07 (xa_fr_m fr8 xk_S_r)
          have hpre : ∀ r, xi_rul2 (xt_kd ts L) (xt_nm ts L) le mo p2 = r ↔ (if xt_kd ts L (p2 + 3) = 95 then xi_rul3 (xt_kd ts L) (xt_nm ts L) le mo wh 0 0 (p2 + 4) else if xt_kd ts L (p2 + 3) = 33 then (if xt_kd ts L (p2 + 4) ≠ 258 then .inl (p2 + 4) else xi_rul3 (xt_kd ts L) (xt_nm ts L) le mo wh 2 (xt_nm ts L (p2 + 4)) (p2 + 5)) else if xt_kd ts L (p2 + 3) ≠ 258 then .inl (p2 + 3) else xi_rul3 (xt_kd ts L) (xt_nm ts L) le mo wh 1 (xt_nm ts L (p2 + 3)) (p2 + 4)) = r := by
            intro r
            unfold xi_rul2
            rw [if_neg (fun hh => hh h42), if_neg hM', if_neg (fun hh => hh h40), hwh]
          refine xk_arg ho b8 hl (show p2 + 3 ≤ ts.length by omega) (fun ft fg p9 hcase I9 b9 e141 e142 eo fr9 => ?_) (fun g hcase I9 f9 fr9 => ?_)
          · refine xa_f (by decide) ?_
            have fr09 := xa_fr_t fr08 fr9
            have hp9 : p9 ≤ ts.length ∧ p2 + 4 ≤ p9 := by
              rcases hcase with ⟨a, _, _, d⟩ | ⟨a, b, _, _, d⟩ | ⟨a, _, _, d⟩
              · have := xt_kd_lt w (i := p2 + 3) (by omega); omega
              · have := xt_kd_lt w (i := p2 + 3 + 1) (by omega); omega
              · have := xt_kd_lt w (i := p2 + 3) (by omega); omega
            have he3 : ∀ r, xi_rul (xt_kd ts L) (xt_nm ts L) p = r ↔ xi_rul3 (xt_kd ts L) (xt_nm ts L) le mo wh ft fg p9 = r := by
              intro r
              refine (he r).trans ((hpre r).trans ?_)
              rcases hcase with ⟨a, b, c, d⟩ | ⟨a, b, c, d, e⟩ | ⟨a, b, c, d⟩
              · subst b c d; rw [if_pos a]
              · subst c d e; rw [if_neg (by omega), if_pos a, if_neg (fun hh => hh b)]
              · subst b c d; rw [if_neg (by omega), if_neg (by omega), if_neg (fun hh => hh a)]
            refine xk_want 41 (by decide) b9.1 b9.2.1.1 (by omega) (fun h41 => ?_) (fun h41 I' f' fr' => ?_)
            · refine xa_f' (by decide) ?_
              have hT5 := xt_kd_lt w (i := p9) (by omega)
              obtain ⟨b10, fr10⟩ := xk_B_at (p' := p9 + 1) b9
              have u : ∀ a, 138 ≤ a → a ≤ 144 → (pw_wI I9 121 7 (nI (p9 + 1))) a = I9 a := fun a ha hb => xa_p (by omega)
              generalize pw_wI I9 121 7 (nI (p9 + 1)) = I10 at b10 fr10 u ⊢
              rw [b10.2.2.1.1.1, nI_clamp (by omega), b10.2.2.1.2.1.1]
              refine ⟨vp_in_nI (by omega) (by omega), xa_a ?_⟩
              obtain ⟨b11, fr11⟩ := xk_B_w (a := 143) (v := nI (120 * o + ((xi_rs its).flatMap xi_an).length)) (by omega) hl b10
              have u1 : ∀ a, 138 ≤ a → a ≤ 142 → (pw_wI I10 143 (100 * o + its.length) (nI (120 * o + ((xi_rs its).flatMap xi_an).length))) a (100 * o + its.length) = I9 a (100 * o + its.length) := fun a ha hb => by rw [xa_p (by omega), u a (by omega) (by omega)]
              have u2 : (pw_wI I10 143 (100 * o + its.length) (nI (120 * o + ((xi_rs its).flatMap xi_an).length))) 143 (100 * o + its.length) = nI (120 * o + ((xi_rs its).flatMap xi_an).length) := by rw [xa_w]; simp
              generalize pw_wI I10 143 (100 * o + its.length) (nI (120 * o + ((xi_rs its).flatMap xi_an).length)) = I11 at b11 fr11 u1 u2 ⊢
              have fr011 := xa_fr_t fr09 (xa_fr_t (xa_fr_m fr10 xk_S_r) fr11)
              have v138 : I11 138 (100 * o + its.length) = nI le := by rw [u1 _ (by omega) (by omega), eo _ (by omega)]; exact a138
              have v139 : I11 139 (100 * o + its.length) = xk_mo mo := by rw [u1 _ (by omega) (by omega), eo _ (by omega)]; exact a139
              have v140 : I11 140 (100 * o + its.length) = nI wh := by rw [u1 _ (by omega) (by omega), eo _ (by omega)]; exact a140
              have v141 : I11 141 (100 * o + its.length) = nI ft := by rw [u1 _ (by omega) (by omega)]; exact e141
              have v142 : I11 142 (100 * o + its.length) = nI fg := by rw [u1 _ (by omega) (by omega)]; exact e142
              rw [b11.2.1.1, nI_clamp (by omega), (xr_tok b11.1 (show p9 + 1 ≤ ts.length by omega)).1]
              refine ⟨vp_in_nI (by omega) (by omega), ?_⟩
              have kb9 := kb (p9 + 1)
              by_cases h266 : xt_kd ts L (p9 + 1) = 266
              · have hT6 := xt_kd_lt w (i := p9 + 1) (by omega)
                refine xa_t' (by rw [h266]; rfl) ⟨122, ?_⟩
                refine xk_ans (ts := ts) (L := L) (A := (xi_rs its).flatMap xi_an) ho 121 (p9 + 1) [] I11 (by omega) (by omega) (by simp only [List.length_nil]; omega) (by simpa using b11) (fun p' a ha I' b' e' fr' => ?_) (fun g hg I' f' fr' => ?_)
                · refine goK I' a p' le mo wh ft fg ((he3 _).mpr ?_) hle hmo b' (by rw [e' _ (by omega) (by omega)]; exact v138) (by rw [e' _ (by omega) (by omega)]; exact v139) (by rw [e' _ (by omega) (by omega)]; exact v140) (by rw [e' _ (by omega) (by omega)]; exact v141) (by rw [e' _ (by omega) (by omega)]; exact v142) (by rw [e' _ (by omega) (by omega)]; exact u2) (xa_fr_t fr011 fr')
                  unfold xi_rul3
                  rw [if_neg (fun hh => hh h41), if_pos h266, ha]
                · refine h2 g ((he3 _).mpr ?_) I' f' (xa_fr_t fr011 fr')
                  unfold xi_rul3
                  rw [if_neg (fun hh => hh h41), if_pos h266, hg]
              · have n134 : xt_ka (xt_kd ts L (p9 + 1)) ≠ 134 := by
                  intro e
                  have hk : xt_kd ts L (p9 + 1) = 256 ∨ xt_kd ts L (p9 + 1) < 127 ∨ (257 ≤ xt_kd ts L (p9 + 1) ∧ xt_kd ts L (p9 + 1) ≤ 266) := by
                    by_cases hi : p9 + 1 < ts.length
                    · have := (w.2.2 (p9 + 1) hi).1
                      unfold xt_kd; unfold xt_gd at this; omega
                    · left; unfold xt_kd; rw [xt_at_ge (by omega)]
                  generalize xt_kd ts L (p9 + 1) = kk at hk h266 e
                  unfold xt_ka at e
                  revert e
                  repeat' split
                  all_goals omega
                refine xa_f' (xa_ne 134 ⟨n134, by omega, by omega⟩) ⟨1, ?_⟩
                unfold l_md_rule_241
                refine xa_t rfl (goK I11 [] (p9 + 1) le mo wh ft fg ((he3 _).mpr ?_) hle hmo (by simpa using b11) v138 v139 v140 v141 v142 u2 fr011)
                unfold xi_rul3
                rw [if_neg (fun hh => hh h41), if_neg h266]
            · refine xa_t' rfl (h2 p9 ((he3 _).mpr ?_) I' f' (xa_fr_t fr09 (xa_fr_m (fr' (400 * o)) xk_S_r)))
              unfold xi_rul3
              rw [if_pos h41]
          · refine xa_t rfl (h2 g ((he _).mpr ((hpre _).mpr ?_)) I9 f9 (xa_fr_t fr08 fr9))
            rcases hcase with ⟨a, b, c⟩ | ⟨a, b, c, d⟩
            · rw [if_neg (by omega), if_pos a, if_pos b, c]
            · rw [if_neg a, if_neg b, if_pos c, d]
        · refine xa_t rfl (h2 (p2 + 2) ((he _).mpr ?_) I' f' (xa_fr_t fr07 (xa_fr_m (fr' (400 * o)) xk_S_r)))
          unfold xi_rul2
          rw [if_neg (fun hh => hh h42), if_neg hM', if_pos h40]
      rw [b5.2.1.1]
      unfold w_md_isWhom
      rw [nI_clamp (by omega), (xr_tok b5.1 (show p2 + 1 ≤ ts.length by omega)).1]
      refine ⟨vp_in_nI (by omega) (by omega), ?_⟩
      have next : (xt_kd ts L (p2 + 1) = 77 ∨ xt_kd ts L (p2 + 1) = 78) → (¬ (1 : Int32) = 0 → (vp_in (I5 121 7) 128 ∧ ((¬ (I5 123 (I5 121 7).toNatClampNeg) = (78 : Int32) → (j_md_rule_169 Q (I5 121 32) (0 : Int32) I5 R)) ∧ ((I5 123 (I5 121 7).toNatClampNeg) = (78 : Int32) → (j_md_rule_169 Q (I5 121 32) (1 : Int32) I5 R))))) ∧ ((1 : Int32) = 0 → (w_md_fail I5 R (fun v16 I35 R22 => Q v16 I35 R22))) := by
        intro hM
        refine xa_f' (by decide) ?_
        rw [b5.2.1.1, nI_clamp (by omega), (xr_tok b5.1 (show p2 + 1 ≤ ts.length by omega)).1, b5.2.2.1.1.1]
        refine ⟨vp_in_nI (by omega) (by omega), ?_⟩
        by_cases h78 : xt_kd ts L (p2 + 1) = 78
        · exact xa_t' (xa_e 78 (k78.mpr h78)) (go169 1 (by rw [if_pos h78]) hM)
        · exact xa_f' (xa_ne 78 (by omega)) (go169 0 (by rw [if_neg h78]) hM)
      by_cases h77 : xt_kd ts L (p2 + 1) = 77
      · exact xa_t (xa_e 77 (k77.mpr h77)) (next (Or.inl h77))
      · refine xa_f (xa_ne 77 (by omega)) ⟨vp_in_nI (by omega) (by omega), ?_⟩
        by_cases h78 : xt_kd ts L (p2 + 1) = 78
        · exact xa_t' (xa_e 78 (k78.mpr h78)) (next (Or.inr h78))
        · refine xa_f' (xa_ne 78 (by omega)) (xa_t' rfl ?_)
          refine xr_fail b5.1 b5.2.1.1 (by omega) (h2 (p2 + 1) ((he _).mpr ?_) _ (by rw [xa_w]; simp) (xa_fr_t fr05 (xa_fr_w (xa_fr_r _ _) rfl)))
          unfold xi_rul2
          rw [if_neg (fun hh => hh h42), if_pos ⟨h77, h78⟩]
    · refine xa_t' rfl (h2 p2 ((he _).mpr ?_) I' f' (xa_fr_t fr4 (xa_fr_m (fr' (400 * o)) xk_S_r)))
      unfold xi_rul2; rw [if_pos h42]
  unfold w_md_rule
  refine xk_begin (k := 7) ho st hl hp (by omega) (fun I1 st1 pd1 fr1 => ?_)
  have b1 := xk_ST_B st1 pd1
  rw [if_neg (by decide)] at b1
  rw [b1.2.1.1, nI_clamp (by omega), (xr_tok b1.1 hp).2.1 (by omega), b1.2.2.1.1.1, nI_clamp (by omega)]
  refine ⟨vp_in_nI (by omega) (by omega), vp_in_nI (by omega) (by omega), xa_a ?_⟩
  obtain ⟨b2, fr2⟩ := xk_B_w (a := 138) (v := nI (xt_nm ts L p)) (by omega) hl b1
  have e2 : (pw_wI I1 138 (100 * o + its.length) (nI (xt_nm ts L p))) 138 (100 * o + its.length) = nI (xt_nm ts L p) := by rw [xa_w]; simp
  generalize pw_wI I1 138 (100 * o + its.length) (nI (xt_nm ts L p)) = I2 at b2 fr2 e2 ⊢
  rw [b2.2.1.1, nI_clamp (by omega), (xr_tok b2.1 hp).2.1 (by omega), b2.2.2.1.1.1, nI_clamp (by omega)]
  refine ⟨vp_in_nI (by omega) (by omega), vp_in_nI (by omega) (by omega), xa_a ?_⟩
  obtain ⟨b3, fr3⟩ := xk_B_w (a := 139) (v := nI (xt_nm ts L p)) (by omega) hl b2
  have e3 : (pw_wI I2 139 (100 * o + its.length) (nI (xt_nm ts L p))) 138 (100 * o + its.length) = nI (xt_nm ts L p) := by rw [xa_p (by decide)]; exact e2
  have e3' : (pw_wI I2 139 (100 * o + its.length) (nI (xt_nm ts L p))) 139 (100 * o + its.length) = nI (xt_nm ts L p) := by rw [xa_w]; simp
  generalize pw_wI I2 139 (100 * o + its.length) (nI (xt_nm ts L p)) = I3 at b3 fr3 e3 e3' ⊢
  rw [b3.2.1.1, nI_1]
  refine xa_a ?_
  obtain ⟨b4, fr4⟩ := xk_B_at (p' := p + 1) b3
  have e4 : (pw_wI I3 121 7 (nI (p + 1))) 138 (100 * o + its.length) = nI (xt_nm ts L p) := by rw [xa_p (by decide)]; exact e3
  have e4' : (pw_wI I3 121 7 (nI (p + 1))) 139 (100 * o + its.length) = nI (xt_nm ts L p) := by rw [xa_p (by decide)]; exact e3'
  generalize pw_wI I3 121 7 (nI (p + 1)) = I4 at b4 fr4 e4 e4' ⊢
  have fr04 := xa_fr_t fr1 (xa_fr_t fr2 (xa_fr_t fr3 (xa_fr_m fr4 xk_S_r)))
  have hnb := xt_nm_b w (i := p) (by omega)
  have kb1 := kb (p + 1)
  have k45 := xt_ka_eq w (p := p + 1) 45 (by decide)
  rw [b4.2.1.1, nI_clamp (by omega), (xr_tok b4.1 (show p + 1 ≤ ts.length by omega)).1]
  refine ⟨vp_in_nI (by omega) (by omega), ?_⟩
  by_cases h45 : xt_kd ts L (p + 1) = 45
  · refine xa_t' (xa_e 45 (k45.mpr h45)) ?_
    have hT1 := xt_kd_lt w (i := p + 1) (by omega)
    have hr2 := hr.2
    rw [if_pos h45] at hr2
    simp only [Bool.or_eq_true, Bool.and_eq_true, decide_eq_true_eq] at hr2
    have hT2 := xt_kd_lt w (i := p + 2) (by omega)
    have kb2 := kb (p + 2)
    have k1 := xt_ka_1 w (p := p + 2)
    rw [show nI (p + 1) + 1 = nI (p + 2) from nI_1 (p + 1), nI_clamp (by omega), (xr_tok b4.1 (show p + 2 ≤ ts.length by omega)).1]
    refine ⟨vp_in_nI (by omega) (by omega), ?_⟩
    have go104 : ∀ mo, mo = (if xt_kd ts L (p + 2) = 258 then some (xt_nm ts L (p + 2)) else none) → j_md_rule_104 Q (nI (100 * o + its.length)) (xk_mo mo) I4 R := by
      intro mo hmo
      unfold j_md_rule_104
      rw [nI_clamp (by omega)]
      refine ⟨vp_in_nI (by omega) (by omega), xa_a ?_⟩
      obtain ⟨b5, fr5⟩ := xk_B_w (a := 139) (v := xk_mo mo) (by omega) hl b4
      have e5 : (pw_wI I4 139 (100 * o + its.length) (xk_mo mo)) 138 (100 * o + its.length) = nI (xt_nm ts L p) := by rw [xa_p (by decide)]; exact e4
      have e5' : (pw_wI I4 139 (100 * o + its.length) (xk_mo mo)) 139 (100 * o + its.length) = xk_mo mo := by rw [xa_w]; simp
      generalize pw_wI I4 139 (100 * o + its.length) (xk_mo mo) = I5 at b5 fr5 e5 e5' ⊢
      rw [b5.2.1.1, show nI (p + 1) + 2 = nI (p + 3) from nI_add (p + 1) 2]
      refine xa_a ?_
      obtain ⟨b6, fr6⟩ := xk_B_at (p' := p + 3) b5
      refine go115 _ (xt_nm ts L p) mo (p + 3) hnb (fun m hm => ?_) (by omega) (by omega) (fun r => ?_) b6 (by rw [xa_p (by decide)]; exact e5) (by rw [xa_p (by decide)]; exact e5') (xa_fr_t fr04 (xa_fr_t fr5 (xa_fr_m fr6 xk_S_r)))
      · rw [hmo] at hm
        split at hm
        · cases hm; exact xt_nm_b w (by omega)
        · cases hm
      · unfold xi_rul; rw [if_pos h45, hmo]
    rw [b4.2.2.1.1.1]
    by_cases h2' : xt_kd ts L (p + 2) = 258
    · refine xa_t' (xa_e 1 (k1.1.mpr h2')) ⟨vp_in_nI (by omega) (by omega), ?_⟩
      rw [(xr_tok b4.1 (show p + 2 ≤ ts.length by omega)).2.1 (by omega)]
      exact go104 (some (xt_nm ts L (p + 2))) (by rw [if_pos h2'])
    · exact xa_f' (xa_ne 1 (by omega)) (go104 none (by rw [if_neg h2']))
  · refine xa_f' (xa_ne 45 (by omega)) ?_
    refine go115 I4 (xt_nm ts L p) (some (xt_nm ts L p)) (p + 1) hnb (fun m hm => by cases hm; exact hnb) (by omega) (by omega) (fun r => ?_) b4 e4 e4' fr04
    unfold xi_rul; rw [if_neg h45]
