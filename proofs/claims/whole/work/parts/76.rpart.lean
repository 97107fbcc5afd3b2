theorem xi_st_k {kd nm pl en : Nat → Nat} {part k p p' : Nat} {it : xi_I} (hk : k ≤ 4) (h : xi_st kd nm pl en part k p = .inr (p', it)) : xi_k it ≠ 8 := by
  unfold xi_st at h
  by_cases c1 : k = 4 ∧ kd p = 88
  · rw [if_pos c1] at h; cases h; show (5 : Nat) ≠ 8; decide
  rw [if_neg c1] at h
  by_cases c2 : k = 4 ∧ kd p = 33 ∧ kd (p + 1) = 88
  · rw [if_pos c2] at h; cases h; show (6 : Nat) ≠ 8; decide
  rw [if_neg c2] at h
  by_cases c3 : k = 4 ∧ xi_isR kd p = true
  · rw [if_pos c3] at h
    cases hr : xi_rul kd nm p with
    | inl g => rw [hr] at h; cases h
    | inr z => obtain ⟨q, ru⟩ := z; rw [hr] at h; cases h; show (7 : Nat) ≠ 8; decide
  rw [if_neg c3] at h
  split at h
  · cases hx : xp_P kd nm pl 64 0 0 0 false (p + 2) with
    | inl g => rw [hx] at h; cases h
    | inr z => obtain ⟨q, x⟩ := z; rw [hx] at h; cases h; show k ≠ 8; omega
  · cases hx : xp_P kd nm pl 64 0 0 0 (decide (k = 4)) p with
    | inl g => rw [hx] at h; cases h
    | inr z => obtain ⟨q, x⟩ := z; rw [hx] at h; cases h; show k ≠ 8; omega
theorem xk_evs_1 (its : List xi_I) (it : xi_I) : xk_evs (its ++ [it]) = xk_evs its ++ xk_evi it := by simp [xk_evs]
theorem xk_ers_1 (er : Option (Nat × Nat)) (its : List xi_I) (it : xi_I) : xk_ers er (its ++ [it]) = xk_eri (xk_ers er its) it := by simp [xk_ers]
/-- the reference's state between blocks -/
def xk_N (I : pI) (ts : List (Nat × Nat × Nat × Nat)) (L o p part : Nat) (its : List xi_I) : Prop := xk_ST I ts L o p part 0 [] its (xk_evs its) (xk_ers none its) (-1) ∧ p ≤ ts.length ∧ xk_BD ts L its (xk_evs its) p ∧ (∀ it, it ∈ its → xi_k it ≠ 8)
theorem xk_several {R : pR} {L o part k : Nat} {ts : List (Nat × Nat × Nat × Nat)} {K : pI → pR → Prop} {Q : Int32 → pI → pR → Prop} (ho : o ≤ 1) (hk : k ≤ 4) : ∀ m p its I, ts.length < p + m → xk_N I ts L o p part its → 2 * its.length + 1 ≤ p →
    (∀ p' its', xi_sts (xt_kd ts L) (xt_nm ts L) (xt_pl ts L) (xt_en ts L) part k m p its = .inr (p', its') → ∀ I', xk_N I' ts L o p' part its' → p < p' → xa_fr (xk_S o) I I' → K I' R) →
    (∀ g, xi_sts (xt_kd ts L) (xt_nm ts L) (xt_pl ts L) (xt_en ts L) part k m p its = .inl g → ∀ I', I' 121 8 = nI (xt_pl ts L g) → xa_fr (xk_S o) I I' → Q 0 I' R) → l_md_several_2 (nI (xk_kd k)) K Q (m + 1) 1 I R := by
  intro m; induction m with
  | zero => intro p its I h1 n; have := n.2.1; omega
  | succ m ih =>
    intro p its I h1 n h2 hK hF
    obtain ⟨st, hp, bd, nc⟩ := n
    have tk := st.1
    have w := tk.1
    have a1 := w.1; have a2 := w.2.1
    have go36 : ∀ p' it, xi_st (xt_kd ts L) (xt_nm ts L) (xt_pl ts L) (xt_en ts L) part k p = .inr (p', it) → ∀ I', xk_ST I' ts L o p' part 0 [] (its ++ [it]) (xk_evs its ++ xk_evi it) (xk_eri (xk_ers none its) it) (-1) → xa_fr (xk_S o) I I' → j_md_several_36 (fun y3 I5 R4 => l_md_several_2 (nI (xk_kd k)) K Q (m + 1) y3 I5 R4) Q (nI (xk_kd k)) 1 I' R := by
      intro p' it hit I' st' fr'
      have hl := xi_st_len w hp hk hit
      have he := xk_evi_len w hp hk hit
      have bd' := xk_BD_add bd h2 hl.1 hl.2.2.2.1 he hl.2.2.2.2
      rw [← xk_evs_1, ← xk_ers_1] at st'
      rw [← xk_evs_1] at bd'
      have nc' : ∀ u, u ∈ its ++ [it] → xi_k u ≠ 8 := by
        intro u hu
        rcases List.mem_append.mp hu with h | h
        · exact nc u h
        · rw [List.mem_singleton] at h; rw [h]; exact xi_st_k hk hit
      have kbp := xt_ka_b (xt_kd_b w (i := p'))
      have k59 := xt_ka_eq w (p := p') 59 (by decide)
      unfold j_md_several_36
      refine xa_f' (by decide) ?_
      rw [st'.2.1.1, nI_clamp (by omega), (xr_tok st'.1 hl.2.1).1]
      refine ⟨vp_in_nI (by omega) (by omega), ?_⟩
      by_cases h59 : xt_kd ts L p' = 59
      · refine xa_t' (xa_e 59 (k59.mpr h59)) ?_
        unfold j_md_several_62
        refine xa_f (by decide) ?_
        have hT := xt_kd_lt w (i := p') (by omega)
        rw [st'.2.1.1, nI_1]
        refine xa_a ?_
        rw [xi_sts_r hit, if_pos h59] at hK hF
        have fr2 : xa_fr (xr_S (400 * o)) I' (pw_wI I' 121 7 (nI (p' + 1))) := xa_fr_w (xa_fr_r _ _) rfl
        have st2 : xk_ST (pw_wI I' 121 7 (nI (p' + 1))) ts L o (p' + 1) part 0 [] (its ++ [it]) (xk_evs (its ++ [it])) (xk_ers none (its ++ [it])) (-1) := by
          refine ⟨xr_TK_fr st'.1 fr2 xr_S_tk, ?_, xk_RS_fr st'.2.2 fr2⟩
          obtain ⟨i0, i1, i2, i3⟩ := st'.2.1
          exact ⟨by rw [xa_w]; simp, by rw [xa_w, if_neg (by decide)]; exact i1, xr_CD_fr i2 (fun q k a b _ _ => by rw [xa_p (by omega)]), xr_EV_fr i3 (by rw [xa_w, if_neg (by decide)]) (fun q k a b => by rw [xa_p (by omega)])⟩
        refine ih (p' + 1) (its ++ [it]) _ (by omega) ⟨st2, by omega, xk_BD_m w bd' (by omega), nc'⟩ (by have := bd'.2.2.1; omega) (fun p2 its2 h I2 n2 hpp fr3 => hK p2 its2 h I2 n2 (by omega) (xa_fr_t fr' (xa_fr_t (xa_fr_m fr2 xk_S_r) fr3))) (fun g h I2 f2 fr3 => hF g h I2 f2 (xa_fr_t fr' (xa_fr_t (xa_fr_m fr2 xk_S_r) fr3)))
      · refine xa_f' (xa_ne 59 (by omega)) ?_
        unfold j_md_several_62
        refine xa_t rfl ?_
        rw [xi_sts_r hit, if_neg h59] at hK
        show l_md_several_2 (nI (xk_kd k)) K Q (m + 1) 0 I' R
        unfold l_md_several_2
        exact xa_t rfl (hK p' _ rfl I' ⟨st', hl.2.1, bd', nc'⟩ hl.1 fr')
    have goF : ∀ g, xi_st (xt_kd ts L) (xt_nm ts L) (xt_pl ts L) (xt_en ts L) part k p = .inl g → ∀ I', I' 121 8 = nI (xt_pl ts L g) → xa_fr (xk_S o) I I' → j_md_several_36 (fun y3 I5 R4 => l_md_several_2 (nI (xk_kd k)) K Q (m + 1) y3 I5 R4) Q (nI (xk_kd k)) 0 I' R := by
      intro g hg I' f' fr'
      unfold j_md_several_36
      exact xa_t' rfl (hF g (xi_sts_l hg) I' f' fr')
    have hl : its.length < 100 := by have := bd.2.2.1; omega
    unfold l_md_several_2
    refine xa_f (by decide) ?_
    rcases (show k = 3 ∨ k = 4 ∨ k ≤ 2 by omega) with rfl | rfl | hk2
    · refine xa_t' rfl ?_
      have e : xi_st (xt_kd ts L) (xt_nm ts L) (xt_pl ts L) (xt_en ts L) part 3 p = xi_ex (xt_pl ts L) (xt_en ts L) 3 part p none (xp_P (xt_kd ts L) (xt_nm ts L) (xt_pl ts L) 64 0 0 0 (decide (3 = 4)) p) := by
        unfold xi_st; rw [if_neg (by omega), if_neg (by omega), if_neg (by omega), if_neg (by omega)]
      exact xk_asked (k := 3) ho (Or.inl rfl) st hp bd.1 bd.2.1 hl (fun p' it h I' a b => go36 p' it (e.trans h) I' a b) (fun g h I' a b => goF g (e.trans h) I' a b)
    · refine xa_f' (by decide) (xa_t' rfl ?_)
      exact xk_claim ho st hp bd go36 goF
    · have hkk : xk_kd k ≠ 2 ∧ xk_kd k ≠ 4 ∧ xk_kd k < 20 := by rcases (show k = 0 ∨ k = 1 ∨ k = 2 by omega) with rfl | rfl | rfl <;> decide
      refine xa_f' (xa_ne 2 (by omega)) (xa_f' (xa_ne 4 (by omega)) ?_)
      exact xk_step ho hk2 st hp bd.1 bd.2.1 hl go36 goF
theorem xk_N_at {I : pI} {L o p p' part : Nat} {ts : List (Nat × Nat × Nat × Nat)} {its : List xi_I} (n : xk_N I ts L o p part its) (hp : p ≤ p') (hT : p' ≤ ts.length) : xk_N (pw_wI I 121 7 (nI p')) ts L o p' part its ∧ xa_fr (xk_S o) I (pw_wI I 121 7 (nI p')) := by
  obtain ⟨st, hp', bd, nc⟩ := n
  have fr2 : xa_fr (xr_S (400 * o)) I (pw_wI I 121 7 (nI p')) := xa_fr_w (xa_fr_r _ _) rfl
  refine ⟨⟨⟨xr_TK_fr st.1 fr2 xr_S_tk, ?_, xk_RS_fr st.2.2 fr2⟩, hT, xk_BD_m st.1.1 bd hp, nc⟩, xa_fr_m fr2 xk_S_r⟩
  obtain ⟨i0, i1, i2, i3⟩ := st.2.1
  exact ⟨by rw [xa_w]; simp, by rw [xa_w, if_neg (by decide)]; exact i1, xr_CD_fr i2 (fun q k a b _ _ => by rw [xa_p (by omega)]), xr_EV_fr i3 (by rw [xa_w, if_neg (by decide)]) (fun q k a b => by rw [xa_p (by omega)])⟩
theorem xk_blk {I : pI} {R : pR} {L o p part k c : Nat} {ts : List (Nat × Nat × Nat × Nat)} {its : List xi_I} {Q : Int32 → pI → pR → Prop} (ho : o ≤ 1) (hk : k ≤ 4) (hc : 33 ≤ c ∧ c < 127) (n : xk_N I ts L o p part its)
    (h1 : ∀ p' its', xt_kd ts L p = c → xi_blk (xt_kd ts L) (xt_nm ts L) (xt_pl ts L) (xt_en ts L) part k (p + 1) its = .inr (p', its') → ∀ I', xk_N I' ts L o p' part its' → p + 3 ≤ p' → xa_fr (xk_S o) I I' → Q 1 I' R)
    (h2 : ∀ g, ((xt_kd ts L p ≠ c ∧ g = p) ∨ (xt_kd ts L p = c ∧ xi_blk (xt_kd ts L) (xt_nm ts L) (xt_pl ts L) (xt_en ts L) part k (p + 1) its = .inl g)) → ∀ I', I' 121 8 = nI (xt_pl ts L g) → xa_fr (xk_S o) I I' → Q 0 I' R) : w_md_block (nI c) (nI (xk_kd k)) I R Q := by
  have hn := n
  obtain ⟨st, hp, bd, nc⟩ := n
  have tk := st.1
  have w := tk.1
  have a1 := w.1; have a2 := w.2.1
  unfold w_md_block
  refine xk_want c hc tk st.2.1.1 (by omega) (fun hcc => ?_) (fun hcc I' f' fr' => xa_t rfl (h2 p (Or.inl ⟨hcc, rfl⟩) I' f' (xa_fr_m (fr' (400 * o)) xk_S_r)))
  refine xa_f (by decide) ?_
  have hT := xt_kd_lt w (i := p) (by omega)
  obtain ⟨n1, fr1⟩ := xk_N_at (p' := p + 1) hn (by omega) (by omega)
  generalize pw_wI I 121 7 (nI (p + 1)) = I1 at n1 fr1 ⊢
  refine xk_want 58 (by decide) n1.1.1 n1.1.2.1.1 (by omega) (fun h58 => ?_) (fun h58 I' f' fr' => xa_t rfl (h2 (p + 1) (Or.inr ⟨hcc, ?_⟩) I' f' (xa_fr_t fr1 (xa_fr_m (fr' (400 * o)) xk_S_r))))
  · refine xa_f (by decide) ?_
    have hT1 := xt_kd_lt w (i := p + 1) (by omega)
    obtain ⟨n2, fr2⟩ := xk_N_at (p' := p + 1 + 1) n1 (by omega) (by omega)
    have e : xi_blk (xt_kd ts L) (xt_nm ts L) (xt_pl ts L) (xt_en ts L) part k (p + 1) its = xi_sts (xt_kd ts L) (xt_nm ts L) (xt_pl ts L) (xt_en ts L) part k 121 (p + 1 + 1) its := by
      unfold xi_blk; rw [if_neg (fun hh => hh h58)]
    unfold w_md_several
    refine ⟨122, xk_several (ts := ts) (L := L) ho hk 121 (p + 1 + 1) its _ (by omega) n2 (by have := bd.2.2.1; omega) (fun p' its' h I' n' hpp fr' => xa_f (by decide) (h1 p' its' hcc (e.trans h) I' n' (by omega) (xa_fr_t fr1 (xa_fr_t fr2 fr')))) (fun g h I' f' fr' => xa_t rfl (h2 g (Or.inr ⟨hcc, e.trans h⟩) I' f' (xa_fr_t fr1 (xa_fr_t fr2 fr'))))⟩
  · unfold xi_blk; rw [if_pos h58]
theorem xk_N_part {I : pI} {L o p part : Nat} {ts : List (Nat × Nat × Nat × Nat)} {its : List xi_I} (n : xk_N I ts L o p part its) : xk_N (pw_wI I 121 34 (nI (part + 1))) ts L o p (part + 1) its ∧ xa_fr (xk_S o) I (pw_wI I 121 34 (nI (part + 1))) := by
  obtain ⟨st, hp, bd, nc⟩ := n
  have fr : xa_fr (xk_S o) I (pw_wI I 121 34 (nI (part + 1))) := xa_fr_w (xa_fr_r _ _) rfl
  have f : ∀ p' k', ¬ (p' = 121 ∧ k' = 34) → (pw_wI I 121 34 (nI (part + 1))) p' k' = I p' k' := fun p' k' h => by rw [xa_w, if_neg h]
  refine ⟨⟨⟨xr_TK_fr st.1 fr xk_S_tk, ?_, ?_⟩, hp, bd, nc⟩, fr⟩
  · obtain ⟨i0, i1, i2, i3⟩ := st.2.1
    exact ⟨by rw [f _ _ (by omega)]; exact i0, by rw [f _ _ (by omega)]; exact i1, xr_CD_fr i2 (fun q k a b _ _ => f _ _ (by omega)), xr_EV_fr i3 (f _ _ (by omega)) (fun q k a b => f _ _ (by omega))⟩
  · obtain ⟨⟨a1, a2⟩, ⟨b1, b2⟩, c, d, e, g, h, i⟩ := st.2.2
    exact ⟨⟨by rw [f _ _ (by omega)]; exact a1, xk_IO_fr a2 (fun p k a b _ _ => f _ _ (by omega))⟩, ⟨by rw [f _ _ (by omega)]; exact b1, fun i a hi => by rw [f _ _ (by omega)]; exact b2 i a hi⟩, xk_ER_fr c (f _ _ (by omega)) (f _ _ (by omega)), by rw [xa_w]; simp, by rw [f _ _ (by omega)]; exact e, by rw [f _ _ (by omega)]; exact g, fun i e hi => by rw [f _ _ (by omega)]; exact h i e hi, by rw [f _ _ (by omega)]; exact i⟩
theorem xk_prs {R : pR} {L o : Nat} {ts : List (Nat × Nat × Nat × Nat)} {K : pI → pR → Prop} {Q : Int32 → pI → pR → Prop} (ho : o ≤ 1) : ∀ m p its stt I, ts.length < p + m → xk_N I ts L o p stt.length its →
    (∀ p' its' st', xi_prs (xt_kd ts L) (xt_nm ts L) (xt_pl ts L) (xt_en ts L) m p its stt = .inr (p', its', st') → ∀ I', xk_N I' ts L o p' st'.length its' → xa_fr (xk_S o) I I' → K I' R) →
    (∀ g, xi_prs (xt_kd ts L) (xt_nm ts L) (xt_pl ts L) (xt_en ts L) m p its stt = .inl g → ∀ I', I' 121 8 = nI (xt_pl ts L g) → xa_fr (xk_S o) I I' → Q 0 I' R) → l_md_feature_28 K Q (m + 1) 1 I R := by
  intro m; induction m with
  | zero => intro p its stt I h1 n; have := n.2.1; omega
  | succ m ih =>
    intro p its stt I h1 n hK hF
    have hn := n
    obtain ⟨st, hp, bd, nc⟩ := n
    have tk := st.1
    have w := tk.1
    have a1 := w.1; have a2 := w.2.1
    have kb := fun i => xt_ka_b (xt_kd_b w (i := i))
    have b0 := kb p
    have k69 := fun i => xt_ka_eq w (p := i) 69 (by decide)
    have k87 := fun i => xt_ka_eq w (p := i) 87 (by decide)
    have go80 : ∀ p' its' I', xi_prt (xt_kd ts L) (xt_nm ts L) (xt_pl ts L) (xt_en ts L) stt.length p its = .inr (p', its') → p + 3 ≤ p' → xk_N I' ts L o p' stt.length its' → xa_fr (xk_S o) I I' → j_md_feature_80 (fun y1 I4 R3 => l_md_feature_28 K Q (m + 1) y1 I4 R3) Q I' R := by
      intro p' its' I' hprt hpp n' fr'
      rw [xi_prs_r hprt] at hK hF
      unfold j_md_feature_80
      rw [n'.1.2.2.2.2.2.1, nI_1]
      refine xa_a ?_
      obtain ⟨n2, fr2⟩ := xk_N_part n'
      generalize pw_wI I' 121 34 (nI (stt.length + 1)) = I2 at n2 fr2 ⊢
      have hp' := n2.2.1
      have b1 := kb p'
      have e69 := k69 p'
      have e87 := k87 p'
      have n2' : xk_N I2 ts L o p' (stt ++ [its.length]).length its' := by rw [List.length_append, List.length_singleton]; exact n2
      rw [n2.1.2.1.1, nI_clamp (by omega), (xr_tok n2.1.1 hp').1]
      refine ⟨vp_in_nI (by omega) (by omega), ?_⟩
      have more : (xt_kd ts L p' = 69 ∨ xt_kd ts L p' = 87) → l_md_feature_28 K Q (m + 1) 1 I2 R := by
        intro hc
        rw [if_pos hc] at hK hF
        exact ih p' its' (stt ++ [its.length]) I2 (by omega) n2' (fun p3 its3 st3 h I3 n3 fr3 => hK p3 its3 st3 h I3 n3 (xa_fr_t fr' (xa_fr_t fr2 fr3))) (fun g h I3 f3 fr3 => hF g h I3 f3 (xa_fr_t fr' (xa_fr_t fr2 fr3)))
      by_cases c1 : xt_kd ts L p' = 69
      · exact xa_t (xa_e 69 (e69.mpr c1)) (more (Or.inl c1))
      · refine xa_f (xa_ne 69 (by omega)) ⟨vp_in_nI (by omega) (by omega), ?_⟩
        by_cases c2 : xt_kd ts L p' = 87
        · exact xa_t' (xa_e 87 (e87.mpr c2)) (more (Or.inr c2))
        · refine xa_f' (xa_ne 87 (by omega)) ?_
          rw [if_neg (fun h => h.elim c1 c2)] at hK
          show l_md_feature_28 K Q (m + 1) 0 I2 R
          unfold l_md_feature_28
          exact xa_t rfl (hK p' its' _ rfl I2 n2' (xa_fr_t fr' fr2))
    have goF : ∀ g, xi_prt (xt_kd ts L) (xt_nm ts L) (xt_pl ts L) (xt_en ts L) stt.length p its = .inl g → ∀ I', I' 121 8 = nI (xt_pl ts L g) → xa_fr (xk_S o) I I' → Q 0 I' R := fun g hg I' f' fr' => hF g (xi_prs_l hg) I' f' fr'
    unfold l_md_feature_28
    refine xa_f (by decide) ?_
    rw [st.2.1.1, nI_clamp (by omega), (xr_tok tk hp).1]
    refine ⟨vp_in_nI (by omega) (by omega), ?_⟩
    have e69 := k69 p
    by_cases c1 : xt_kd ts L p = 69
    · refine xa_t' (xa_e 69 (e69.mpr c1)) ?_
      have e : xi_prt (xt_kd ts L) (xt_nm ts L) (xt_pl ts L) (xt_en ts L) stt.length p its = xi_blk (xt_kd ts L) (xt_nm ts L) (xt_pl ts L) (xt_en ts L) stt.length 3 (p + 1) its := by
        unfold xi_prt; rw [if_pos c1]
      refine xk_blk (k := 3) (c := 69) ho (by omega) (by omega) hn (fun p' its' _ h I' n' hpp fr' => xa_f' (by decide) (go80 p' its' I' (e.trans h) (by omega) n' fr')) (fun g h I' f' fr' => xa_t' rfl (goF g ?_ I' f' fr'))
      rcases h with ⟨h, _⟩ | ⟨_, h⟩
      · exact absurd c1 h
      · exact e.trans h
    · refine xa_f' (xa_ne 69 (by omega)) ?_
      refine xk_blk (k := 1) (c := 87) ho (by omega) (by omega) hn (fun p' its' h87 h I' n' hpp fr' => xa_f (by decide) ?_) (fun g h I' f' fr' => xa_t rfl (goF g ?_ I' f' fr'))
      · refine xk_blk (k := 4) (c := 84) ho (by omega) (by omega) n' (fun p2 its2 h84 h' I2 n2 hpp2 fr2 => xa_f' (by decide) (go80 p2 its2 I2 ?_ (by omega) n2 (xa_fr_t fr' fr2))) (fun g h' I2 f2 fr2 => xa_t' rfl (goF g ?_ I2 f2 (xa_fr_t fr' fr2)))
        · unfold xi_prt; rw [if_neg c1, if_neg (fun hh => hh h87), h]
          show (if _ then _ else _) = _
          rw [if_neg (fun hh => hh h84)]; exact h'
        · unfold xi_prt; rw [if_neg c1, if_neg (fun hh => hh h87), h]
          show (if _ then _ else _) = _
          rcases h' with ⟨h', e⟩ | ⟨h84, h'⟩
          · rw [if_pos h', e]
          · rw [if_neg (fun hh => hh h84)]; exact h'
      · rcases h with ⟨h, e⟩ | ⟨h87, h⟩
        · unfold xi_prt; rw [if_neg c1, if_pos h, e]
        · unfold xi_prt; rw [if_neg c1, if_neg (fun hh => hh h87), h]
