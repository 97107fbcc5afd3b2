theorem xk_ka_n {ts : List (Nat × Nat × Nat × Nat)} {L p : Nat} (w : xt_WF ts L) {c k : Nat} (hk : xt_ka k = c) (hk2 : k < 127 ∧ 33 ≤ k ∨ 256 ≤ k ∧ k ≤ 266) : xt_ka (xt_kd ts L p) = c ↔ xt_kd ts L p = k := by
  have h : xt_kd ts L p = 256 ∨ (33 ≤ xt_kd ts L p ∧ xt_kd ts L p < 127) ∨ (257 ≤ xt_kd ts L p ∧ xt_kd ts L p ≤ 266) := by
    by_cases hi : p < ts.length
    · have := (w.2.2 p hi).1
      unfold xt_kd; unfold xt_gd at this; omega
    · left; unfold xt_kd; rw [xt_at_ge (by omega)]
  generalize xt_kd ts L p = kk at h ⊢
  subst hk
  unfold xt_ka
  repeat' split
  all_goals omega
theorem xk_whom {I : pI} {R : pR} {L s : Nat} {ts : List (Nat × Nat × Nat × Nat)} {Q : Int32 → pI → pR → Prop} (tk : xr_TK I ts L) (hs : s < ts.length + 6) (h1 : (xt_kd ts L s = 77 ∨ xt_kd ts L s = 78) → Q 1 I R) (h2 : ¬ (xt_kd ts L s = 77 ∨ xt_kd ts L s = 78) → Q 0 I R) : w_md_isWhom (nI s) I R Q := by
  have a1 := tk.1.1; have a2 := tk.1.2.1
  have kb := xt_ka_b (xt_kd_b tk.1 (i := s))
  have k77 := xt_ka_eq tk.1 (p := s) 77 (by decide)
  have k78 := xt_ka_eq tk.1 (p := s) 78 (by decide)
  unfold w_md_isWhom
  rw [nI_clamp (by omega), (tk.2 s hs).1]
  refine ⟨vp_in_nI (by omega) (by omega), ?_⟩
  by_cases h77 : xt_kd ts L s = 77
  · exact xa_t (xa_e 77 (k77.mpr h77)) (h1 (Or.inl h77))
  · refine xa_f (xa_ne 77 (by omega)) ⟨vp_in_nI (by omega) (by omega), ?_⟩
    by_cases h78 : xt_kd ts L s = 78
    · exact xa_t' (xa_e 78 (k78.mpr h78)) (h1 (Or.inr h78))
    · exact xa_f' (xa_ne 78 (by omega)) (h2 (fun h => h.elim h77 h78))
theorem xk_isRule {I : pI} {R : pR} {L p : Nat} {ts : List (Nat × Nat × Nat × Nat)} {Q : Int32 → pI → pR → Prop} (tk : xr_TK I ts L) (hat : I 121 7 = nI p) (hp : p ≤ ts.length) (h1 : xi_isR (xt_kd ts L) p = true → Q 1 I R) (h2 : ¬ xi_isR (xt_kd ts L) p = true → Q 0 I R) : w_md_isRule I R Q := by
  have w := tk.1
  have a1 := w.1; have a2 := w.2.1
  have kb := fun i => xt_ka_b (xt_kd_b w (i := i))
  have b0 := kb p; have b1 := kb (p + 1); have b2 := kb (p + 2); have b3 := kb (p + 3)
  have k1 := xt_ka_1 w (p := p)
  have k1' := xt_ka_1 w (p := p + 2)
  have k42 := xt_ka_eq w (p := p + 1) 42 (by decide)
  have k45 := xt_ka_eq w (p := p + 1) 45 (by decide)
  have k95 := xt_ka_eq w (p := p + 2) 95 (by decide)
  have k42' := xt_ka_eq w (p := p + 3) 42 (by decide)
  unfold w_md_isRule
  rw [hat, show nI p + 4 = nI (p + 4) from nI_add p 4, show nI p + 3 = nI (p + 3) from nI_add p 3, show nI p + 2 = nI (p + 2) from nI_add p 2, nI_1, nI_clamp (by omega), nI_clamp (show p + 1 < 2 ^ 31 by omega), nI_clamp (show p + 2 < 2 ^ 31 by omega), nI_clamp (show p + 3 < 2 ^ 31 by omega), (tk.2 p (by omega)).1, (tk.2 (p + 1) (by omega)).1, (tk.2 (p + 2) (by omega)).1, (tk.2 (p + 3) (by omega)).1]
  refine ⟨vp_in_nI (by omega) (by omega), ?_⟩
  by_cases h258 : xt_kd ts L p = 258
  · refine xa_t (xa_e 1 (k1.1.mpr h258)) ⟨vp_in_nI (by omega) (by omega), ?_⟩
    by_cases h42 : xt_kd ts L (p + 1) = 42
    · refine xa_t' (xa_e 42 (k42.mpr h42)) ?_
      refine xk_whom tk (by omega) (fun h => h1 ?_) (fun h => h2 ?_)
      · unfold xi_isR; rcases h with h | h <;> simp [h258, h42, h]
      · unfold xi_isR; simp [h258, h42]; omega
    · refine xa_f' (xa_ne 42 (by omega)) ⟨vp_in_nI (by omega) (by omega), ?_⟩
      by_cases h45 : xt_kd ts L (p + 1) = 45
      · refine xa_t (xa_e 45 (k45.mpr h45)) ⟨vp_in_nI (by omega) (by omega), ?_⟩
        by_cases h95 : xt_kd ts L (p + 2) = 95
        · exact xa_t (xa_e 95 (k95.mpr h95)) (h1 (by unfold xi_isR; simp [h258, h45, h95]))
        · refine xa_f (xa_ne 95 (by omega)) ⟨vp_in_nI (by omega) (by omega), ?_⟩
          by_cases hn : xt_kd ts L (p + 2) = 258
          · refine xa_t' (xa_e 1 (k1'.1.mpr hn)) ⟨vp_in_nI (by omega) (by omega), ?_⟩
            by_cases h42' : xt_kd ts L (p + 3) = 42
            · refine xa_t' (xa_e 42 (k42'.mpr h42')) ?_
              refine xk_whom tk (by omega) (fun h => xa_f (by decide) (h1 ?_)) (fun h => xa_t rfl (h2 ?_))
              · unfold xi_isR; rcases h with h | h <;> simp [h258, h45, hn, h42', h]
              · unfold xi_isR; simp [h258, h45, hn, h42']; omega
            · exact xa_f' (xa_ne 42 (by omega)) (h2 (by unfold xi_isR; simp [h258, h45, hn, h42']))
          · exact xa_f' (xa_ne 1 (by omega)) (h2 (by unfold xi_isR; simp [h258, h45, h95, hn]))
      · exact xa_f (xa_ne 45 (by omega)) (h2 (by unfold xi_isR; simp [h258, h45, h42]))
  · exact xa_f (xa_ne 1 (by omega)) (h2 (by unfold xi_isR; simp [h258]))
def xk_BD (ts : List (Nat × Nat × Nat × Nat)) (L : Nat) (its : List xi_I) (ev : List (Nat × Nat × Nat × Int32)) (p : Nat) : Prop := (xi_G its).length ≤ xt_pl ts L p ∧ ev.length ≤ xt_pl ts L p ∧ 2 * its.length ≤ p ∧ 2 * ((xi_rs its).flatMap xi_an).length ≤ p
theorem xk_claim {I : pI} {R : pR} {L o p part rows : Nat} {ts : List (Nat × Nat × Nat × Nat)} {hs : List (Nat × Nat)} {its : List xi_I} {ev : List (Nat × Nat × Nat × Int32)} {er : Option (Nat × Nat)} {Q : Int32 → pI → pR → Prop} (ho : o ≤ 1) (st : xk_ST I ts L o p part rows hs its ev er (-1)) (hp : p ≤ ts.length) (bd : xk_BD ts L its ev p)
    (h1 : ∀ p' it, xi_st (xt_kd ts L) (xt_nm ts L) (xt_pl ts L) (xt_en ts L) part 4 p = .inr (p', it) → ∀ I', xk_ST I' ts L o p' part rows hs (its ++ [it]) (ev ++ xk_evi it) (xk_eri er it) (-1) → xa_fr (xk_S o) I I' → Q 1 I' R)
    (h2 : ∀ g, xi_st (xt_kd ts L) (xt_nm ts L) (xt_pl ts L) (xt_en ts L) part 4 p = .inl g → ∀ I', I' 121 8 = nI (xt_pl ts L g) → xa_fr (xk_S o) I I' → Q 0 I' R) : w_md_claim I R Q := by
  have tk := st.1
  have w := tk.1
  have a1 := w.1; have a2 := w.2.1
  have kb := fun i => xt_ka_b (xt_kd_b w (i := i))
  have b0 := kb p; have b1 := kb (p + 1)
  have hat := st.2.1.1
  obtain ⟨g1, g2, g3, g4⟩ := bd
  have hl : its.length < 100 := by omega
  have hpb := xt_pl_b w (i := p)
  have goX : ∀ (x1 : Int32) (k' d : Nat), k' = 5 ∨ k' = 6 → p + d ≤ ts.length → (x1 = 0 ∧ d = 1 ∨ ¬ x1 = 0 ∧ d = 2) → xi_st (xt_kd ts L) (xt_nm ts L) (xt_pl ts L) (xt_en ts L) part 4 p = .inr (p + d, (k', part, xt_pl ts L p, xt_en ts L (p + d - 1), none, xi_x0, xi_r0)) → j_md_claim_83 Q x1 (nI k') I R := by
    intro x1 k' d hk' hpd hx he
    unfold j_md_claim_83
    have hkd : xk_kd k' = k' := by rcases hk' with rfl | rfl <;> rfl
    refine xk_begin (k := k') ho st hl hp (by omega) (fun I1 st1 pd1 fr1 => ?_)
    have b1' := xk_ST_B st1 pd1
    rw [if_neg (by omega)] at b1'
    have fin : ∀ d', d' = d → w_md_finish (pw_wI I1 121 7 (nI (p + d'))) R (fun I4 R3 => Q (1 : Int32) I4 R3) := by
      intro d' hd'
      subst hd'
      obtain ⟨b2, fr2⟩ := xk_B_at (p' := p + d') b1'
      refine xk_fin (it := (k', part, xt_pl ts L p, xt_en ts L (p + d' - 1), none, xi_x0, xi_r0)) (ev := ev) ho b2.1 (by rw [show xi_G its ++ (xi_x (k', part, xt_pl ts L p, xt_en ts L (p + d' - 1), none, xi_x0, xi_r0)).2.1 = xi_G its from List.append_nil _]; exact b2.2.1) b2.2.2.1 ?_ (show k' ≠ 7 by omega) hl hpd (by omega) rfl (by show (xi_G its).length + 0 < 400; omega) (fun I3 st3 fr3 => ?_)
      · have e : xk_tg hs (k', part, xt_pl ts L p, xt_en ts L (p + d' - 1), none, xi_x0, xi_r0) = -1 := by
          rw [xk_tg_n (it := (k', part, xt_pl ts L p, xt_en ts L (p + d' - 1), none, xi_x0, xi_r0)) (show k' ≠ 8 by omega)]; rfl
        rw [e]
        show xk_PD _ o its.length (xk_kd k') part (-1) _ _
        rw [hkd]; exact b2.2.2.2
      · refine h1 _ _ he I3 ?_ (xa_fr_t fr1 (xa_fr_t (xa_fr_m fr2 xk_S_r) fr3))
        rw [xk_eri_n (it := (k', part, xt_pl ts L p, xt_en ts L (p + d' - 1), none, xi_x0, xi_r0)) (show k' ≠ 7 by omega)]
        have e : xk_evi (k', part, xt_pl ts L p, xt_en ts L (p + d' - 1), none, xi_x0, xi_r0) = [] := by
          rw [xk_evi_n (it := (k', part, xt_pl ts L p, xt_en ts L (p + d' - 1), none, xi_x0, xi_r0)) (show k' ≠ 8 by omega)]; rfl
        rw [e, List.append_nil]; exact st3
    rw [st1.2.1.1, nI_1, show nI p + 2 = nI (p + 2) from nI_add p 2]
    rcases hx with ⟨hx, hd⟩ | ⟨hx, hd⟩
    · exact xa_t hx (xa_a (fin 1 hd.symm))
    · exact xa_f hx (xa_a (fin 2 hd.symm))
  unfold w_md_claim
  refine xk_isRule tk hat hp (fun hR => ?_) (fun hR => ?_)
  · refine xa_f (by decide) ?_
    have hR' := hR
    unfold xi_isR at hR'
    simp only [Bool.and_eq_true, decide_eq_true_eq] at hR'
    have c1 : ¬ (4 = 4 ∧ xt_kd ts L p = 88) := by omega
    have c2 : ¬ (4 = 4 ∧ xt_kd ts L p = 33 ∧ xt_kd ts L (p + 1) = 88) := by omega
    have e : ∀ r, xi_rul (xt_kd ts L) (xt_nm ts L) p = r → xi_st (xt_kd ts L) (xt_nm ts L) (xt_pl ts L) (xt_en ts L) part 4 p = (match r with
        | .inl f => .inl f
        | .inr (q, ru) => .inr (q, (7, part, xt_pl ts L p, xt_en ts L (q - 1), none, xi_x0, ru))) := by
      intro r hr; unfold xi_st; rw [if_neg c1, if_neg c2, if_pos ⟨rfl, hR⟩, hr]
      rcases r with f | ⟨q, ru⟩ <;> rfl
    refine xk_rule ho st hp hR g1 hl g4 (fun p' ru hru I' st' fr' => h1 p' _ (e _ hru) I' ?_ fr') (fun g hg => h2 g (e _ hg))
    have e2 : xk_evi (7, part, xt_pl ts L p, xt_en ts L (p' - 1), none, xi_x0, ru) = [] := by
      rw [xk_evi_n (it := (7, part, xt_pl ts L p, xt_en ts L (p' - 1), none, xi_x0, ru)) (show (7 : Nat) ≠ 8 by omega)]; rfl
    rw [e2, List.append_nil]; exact st'
  · refine xa_t rfl ?_
    have k33 := xt_ka_eq w (p := p) 33 (by decide)
    have k88 := xt_ka_eq w (p := p) 88 (by decide)
    have k88' := xt_ka_eq w (p := p + 1) 88 (by decide)
    have go46 : ¬ (4 = 4 ∧ xt_kd ts L p = 33 ∧ xt_kd ts L (p + 1) = 88) → j_md_claim_46 Q I R := by
      intro c2
      unfold j_md_claim_46 j_md_claim_47
      refine xa_t' rfl ?_
      rw [hat, nI_clamp (by omega), (xr_tok tk hp).1]
      refine ⟨vp_in_nI (by omega) (by omega), ?_⟩
      by_cases h88 : xt_kd ts L p = 88
      · refine xa_t (xa_e 88 (k88.mpr h88)) ?_
        have hT := xt_kd_lt w (i := p) (by omega)
        unfold j_md_claim_72
        refine xa_t rfl (goX 0 5 1 (Or.inl rfl) (by omega) (Or.inl ⟨rfl, rfl⟩) ?_)
        unfold xi_st; rw [if_pos ⟨rfl, h88⟩]; rfl
      · refine xa_f (xa_ne 88 (by omega)) ?_
        have e : xi_st (xt_kd ts L) (xt_nm ts L) (xt_pl ts L) (xt_en ts L) part 4 p = xi_ex (xt_pl ts L) (xt_en ts L) 4 part p none (xp_P (xt_kd ts L) (xt_nm ts L) (xt_pl ts L) 64 0 0 0 (decide (4 = 4)) p) := by
          unfold xi_st; rw [if_neg (fun h => h88 h.2), if_neg c2, if_neg (fun h => hR h.2), if_neg (by omega)]
        exact xk_asked (k := 4) ho (Or.inr rfl) st hp g1 g2 hl (fun p' it h => h1 p' it (e.trans h)) (fun g h => h2 g (e.trans h))
    rw [hat, nI_clamp (by omega), (xr_tok tk hp).1]
    refine ⟨vp_in_nI (by omega) (by omega), ?_⟩
    by_cases h33 : xt_kd ts L p = 33
    · refine xa_t' (xa_e 33 (k33.mpr h33)) ?_
      have hT := xt_kd_lt w (i := p) (by omega)
      rw [nI_1, nI_clamp (by omega), (xr_tok tk (show p + 1 ≤ ts.length by omega)).1]
      refine ⟨vp_in_nI (by omega) (by omega), ?_⟩
      by_cases h88 : xt_kd ts L (p + 1) = 88
      · refine xa_t' (xa_e 88 (k88'.mpr h88)) ?_
        have hT1 := xt_kd_lt w (i := p + 1) (by omega)
        unfold j_md_claim_47
        refine xa_f' (by decide) ?_
        unfold j_md_claim_72
        refine xa_f (by decide) (goX 1 6 2 (Or.inr rfl) (by omega) (Or.inr ⟨by decide, rfl⟩) ?_)
        unfold xi_st; rw [if_neg (by omega), if_pos ⟨rfl, h33, h88⟩]; rfl
      · exact xa_f' (xa_ne 88 (by omega)) (go46 (fun h => h88 h.2.2))
    · exact xa_f' (xa_ne 33 (by omega)) (go46 (fun h => h33 h.2.1))
theorem xk_evi_len {ts : List (Nat × Nat × Nat × Nat)} {L p p' k part : Nat} {it : xi_I} (w : xt_WF ts L) (hp : p ≤ ts.length) (hk : k ≤ 4) (h : xi_st (xt_kd ts L) (xt_nm ts L) (xt_pl ts L) (xt_en ts L) part k p = .inr (p', it)) : (xk_evi it).length + xt_pl ts L p ≤ xt_pl ts L p' := by
  have mono := fun i j h => xt_pl_mono w i j h
  have hl := xi_st_len w hp hk h
  have m0 := mono p p' (by omega)
  unfold xi_st at h
  by_cases c1 : k = 4 ∧ xt_kd ts L p = 88
  · rw [if_pos c1] at h; cases h; show 0 + _ ≤ _; omega
  rw [if_neg c1] at h
  by_cases c2 : k = 4 ∧ xt_kd ts L p = 33 ∧ xt_kd ts L (p + 1) = 88
  · rw [if_pos c2] at h; cases h; show 0 + _ ≤ _; omega
  rw [if_neg c2] at h
  by_cases c3 : k = 4 ∧ xi_isR (xt_kd ts L) p = true
  · rw [if_pos c3] at h
    cases hr : xi_rul (xt_kd ts L) (xt_nm ts L) p with
    | inl g => rw [hr] at h; cases h
    | inr z =>
      obtain ⟨q, ru⟩ := z
      rw [hr] at h; cases h
      show 0 + _ ≤ _; omega
  rw [if_neg c3] at h
  by_cases c4 : k ≤ 2 ∧ xt_kd ts L p = 259 ∧ xt_kd ts L (p + 1) = 61
  · rw [if_pos c4] at h
    cases hx : xp_P (xt_kd ts L) (xt_nm ts L) (xt_pl ts L) 64 0 0 0 false (p + 2) with
    | inl g => rw [hx] at h; cases h
    | inr z =>
      obtain ⟨q, x⟩ := z
      rw [hx] at h; cases h
      have hu := xp_lenu w (by omega) (by omega) hx
      have m1 := xt_pl_s w (i := p) (by omega)
      have m2 : xt_pl ts L (p + 1) + 1 ≤ xt_pl ts L (p + 2) := xt_pl_s w (i := p + 1) (by omega)
      rw [xk_evi_n (it := (k, part, xt_pl ts L p, xt_en ts L (p' - 1), some (xt_nm ts L p), x, xi_r0)) (show k ≠ 8 by omega), List.length_append, xr_uv_len]
      show x.2.2.2.1.length + 1 + _ ≤ _; omega
  · rw [if_neg c4] at h
    cases hx : xp_P (xt_kd ts L) (xt_nm ts L) (xt_pl ts L) 64 0 0 0 (decide (k = 4)) p with
    | inl g => rw [hx] at h; cases h
    | inr z =>
      obtain ⟨q, x⟩ := z
      rw [hx] at h; cases h
      have hu := xp_lenu w (by omega) (by omega) hx
      rw [xk_evi_n (it := (k, part, xt_pl ts L p, xt_en ts L (p' - 1), none, x, xi_r0)) (show k ≠ 8 by omega), List.length_append, xr_uv_len]
      show x.2.2.2.1.length + 0 + _ ≤ _; omega
theorem xk_BD_m {ts : List (Nat × Nat × Nat × Nat)} {L p p' : Nat} {its : List xi_I} {ev : List (Nat × Nat × Nat × Int32)} (w : xt_WF ts L) (bd : xk_BD ts L its ev p) (h : p ≤ p') : xk_BD ts L its ev p' := by
  obtain ⟨a, b, c, d⟩ := bd
  have := xt_pl_mono w p p' h
  exact ⟨by omega, by omega, by omega, by omega⟩
theorem xk_BD_add {ts : List (Nat × Nat × Nat × Nat)} {L p p' : Nat} {it : xi_I} {its : List xi_I} {ev e2 : List (Nat × Nat × Nat × Int32)} (bd : xk_BD ts L its ev p) (h1 : 2 * its.length + 1 ≤ p) (hlt : p < p') (hx : (xi_x it).2.1.length + xt_pl ts L p ≤ xt_pl ts L p') (he : e2.length + xt_pl ts L p ≤ xt_pl ts L p') (h7 : xi_k it = 7 → p + 6 + 2 * (xi_an (xi_ru it)).length ≤ p') : xk_BD ts L (its ++ [it]) (ev ++ e2) p' := by
  obtain ⟨a, b, c, d⟩ := bd
  refine ⟨?_, ?_, ?_, ?_⟩
  · rw [xi_G_app, xi_G_one, List.length_append]; omega
  · rw [List.length_append]; omega
  · rw [List.length_append, List.length_singleton]; omega
  · by_cases h : xi_k it = 7
    · rw [xi_rs_y h, List.flatMap_append, List.length_append]; have := h7 h; simp; simp at d; omega
    · rw [xi_rs_n h]; omega
def xk_evs (its : List xi_I) : List (Nat × Nat × Nat × Int32) := its.flatMap xk_evi
def xk_ers (er : Option (Nat × Nat)) (its : List xi_I) : Option (Nat × Nat) := its.foldl xk_eri er
