def xk_rf (hs : List (Nat × Nat)) (n s e p : Nat) (er : Option (Nat × Nat)) : Option (Nat × Nat) := if e - s ≠ hs.length ∨ 6 ≤ n then xk_fd 4 p er else er
/-- what the rows find -/
def xk_rwE (kd nm pl en : Nat → Nat) (hs : List (Nat × Nat)) : Nat → Nat → List xi_I → List Nat → Option (Nat × Nat) → Option (Nat × Nat)
  | 0, _, _, _, er => er
  | m + 1, p, a, rs, er => match xi_cel kd nm pl en rs.length 121 0 p a with
    | .inl _ => er
    | .inr (q, a') => if kd q = 59 then xk_rwE kd nm pl en hs m (q + 1) a' (rs ++ [a.length]) (xk_rf hs rs.length a.length a'.length (pl p) er) else xk_rf hs rs.length a.length a'.length (pl p) er
theorem xk_rwE_r {kd nm pl en : Nat → Nat} {hs : List (Nat × Nat)} {m p q : Nat} {a a' : List xi_I} {rs : List Nat} {er : Option (Nat × Nat)} (h : xi_cel kd nm pl en rs.length 121 0 p a = .inr (q, a')) : xk_rwE kd nm pl en hs (m + 1) p a rs er = (if kd q = 59 then xk_rwE kd nm pl en hs m (q + 1) a' (rs ++ [a.length]) (xk_rf hs rs.length a.length a'.length (pl p) er) else xk_rf hs rs.length a.length a'.length (pl p) er) := by
  rw [xk_rwE, h]
theorem xk_ST_rw {I : pI} {L o p part rows : Nat} {ts : List (Nat × Nat × Nat × Nat)} {hs : List (Nat × Nat)} {its : List xi_I} {ev : List (Nat × Nat × Nat × Int32)} {er : Option (Nat × Nat)} {rc : Int32} (st : xk_ST I ts L o p part rows hs its ev er rc) : xk_ST (pw_wI I 121 35 (nI (rows + 1))) ts L o p part (rows + 1) hs its ev er rc ∧ xa_fr (xk_S o) I (pw_wI I 121 35 (nI (rows + 1))) := by
  have fr : xa_fr (xk_S o) I (pw_wI I 121 35 (nI (rows + 1))) := xa_fr_w (xa_fr_r _ _) rfl
  have f : ∀ p' k', ¬ (p' = 121 ∧ k' = 35) → (pw_wI I 121 35 (nI (rows + 1))) p' k' = I p' k' := fun p' k' h => by rw [xa_w, if_neg h]
  refine ⟨⟨xr_TK_fr st.1 fr xk_S_tk, ?_, ?_⟩, fr⟩
  · obtain ⟨i0, i1, i2, i3⟩ := st.2.1
    exact ⟨by rw [f _ _ (by omega)]; exact i0, by rw [f _ _ (by omega)]; exact i1, xr_CD_fr i2 (fun q k a b _ _ => f _ _ (by omega)), xr_EV_fr i3 (f _ _ (by omega)) (fun q k a b => f _ _ (by omega))⟩
  · obtain ⟨⟨a1, a2⟩, ⟨b1, b2⟩, c, d, e, g, h, i⟩ := st.2.2
    exact ⟨⟨by rw [f _ _ (by omega)]; exact a1, xk_IO_fr a2 (fun p k a b _ _ => f _ _ (by omega))⟩, ⟨by rw [f _ _ (by omega)]; exact b1, fun i a hi => by rw [f _ _ (by omega)]; exact b2 i a hi⟩, xk_ER_fr c (f _ _ (by omega)) (f _ _ (by omega)), by rw [f _ _ (by omega)]; exact d, by rw [xa_w]; simp, by rw [f _ _ (by omega)]; exact g, fun i e hi => by rw [f _ _ (by omega)]; exact h i e hi, by rw [f _ _ (by omega)]; exact i⟩
theorem xk_ST_er {I I' : pI} {L o p part rows : Nat} {ts : List (Nat × Nat × Nat × Nat)} {hs : List (Nat × Nat)} {its : List xi_I} {ev : List (Nat × Nat × Nat × Int32)} {er er' : Option (Nat × Nat)} {rc : Int32} (st : xk_ST I ts L o p part rows hs its ev er rc) (he : xk_ER I' er') (f : ∀ p' k', ¬ (p' = 121 ∧ (k' = 55 ∨ k' = 56)) → I' p' k' = I p' k') : xk_ST I' ts L o p part rows hs its ev er' rc ∧ xa_fr (xk_S o) I I' := by
  have fr : xa_fr (xk_S o) I I' := fun p k hp => f p k (by
    simp only [xk_S, Bool.or_eq_false_iff, Bool.and_eq_false_iff, beq_eq_false_iff_ne, decide_eq_false_iff_not] at hp; omega)
  refine ⟨⟨xr_TK_fr st.1 fr xk_S_tk, ?_, ?_⟩, fr⟩
  · obtain ⟨i0, i1, i2, i3⟩ := st.2.1
    exact ⟨by rw [f _ _ (by omega)]; exact i0, by rw [f _ _ (by omega)]; exact i1, xr_CD_fr i2 (fun q k a b _ _ => f _ _ (by omega)), xr_EV_fr i3 (f _ _ (by omega)) (fun q k a b => f _ _ (by omega))⟩
  · obtain ⟨⟨a1, a2⟩, ⟨b1, b2⟩, c, d, e, g, h, i⟩ := st.2.2
    exact ⟨⟨by rw [f _ _ (by omega)]; exact a1, xk_IO_fr a2 (fun p k a b _ _ => f _ _ (by omega))⟩, ⟨by rw [f _ _ (by omega)]; exact b1, fun i a hi => by rw [f _ _ (by omega)]; exact b2 i a hi⟩, he, by rw [f _ _ (by omega)]; exact d, by rw [f _ _ (by omega)]; exact e, by rw [f _ _ (by omega)]; exact g, fun i e hi => by rw [f _ _ (by omega)]; exact h i e hi, by rw [f _ _ (by omega)]; exact i⟩
theorem xk_row {I : pI} {R : pR} {L o p part : Nat} {rs : List Nat} {ts : List (Nat × Nat × Nat × Nat)} {hs : List (Nat × Nat)} {its : List xi_I} {ev : List (Nat × Nat × Nat × Int32)} {er : Option (Nat × Nat)} {Q : Int32 → pI → pR → Prop} (ho : o ≤ 1) (hhs : hs.length < 80) (st : xk_ST I ts L o p part rs.length hs its ev er (-1)) (hp : p ≤ ts.length) (bd : xk_BD ts L its ev p) (hb1 : 2 * its.length + 1 ≤ p) (hrs : rs.length ≤ 1000)
    (h1 : ∀ p' its', xi_cel (xt_kd ts L) (xt_nm ts L) (xt_pl ts L) (xt_en ts L) rs.length 121 0 p its = .inr (p', its') → ∀ I' add, its' = its ++ add → xk_ST I' ts L o p' part (rs.length + 1) hs its' (ev ++ xk_evs add) (xk_rf hs rs.length its.length its'.length (xt_pl ts L p) er) (-1) → xk_BD ts L its' (ev ++ xk_evs add) p' → p < p' → p' ≤ ts.length → xa_fr (xk_S o) I I' → Q 1 I' R)
    (h2 : ∀ g, xi_cel (xt_kd ts L) (xt_nm ts L) (xt_pl ts L) (xt_en ts L) rs.length 121 0 p its = .inl g → ∀ I', I' 121 8 = nI (xt_pl ts L g) → xa_fr (xk_S o) I I' → Q 0 I' R) : w_md_tableRow I R Q := by
  have tk := st.1
  have w := tk.1
  have a1 := w.1; have a2 := w.2.1
  have hpb := xt_pl_b w (i := p)
  unfold w_md_tableRow
  rw [st.2.1.1, nI_clamp (by omega), (xr_tok tk hp).2.2.1]
  refine ⟨vp_in_nI (by omega) (by omega), xa_a ?_⟩
  obtain ⟨st1, fr1⟩ := xk_ST_w (nI 0) st
  refine ⟨122, xk_cel (ts := ts) (L := L) ho hhs 121 0 p its ev _ (by omega) hp (by omega) st1 bd hb1 (fun p' its' h I2 add ha st2 bd2 hpp hT fr2 => ?_) (fun g h I2 f2 fr2 => h2 g h I2 f2 (xa_fr_t fr1 fr2))⟩
  have fr02 := xa_fr_t fr1 fr2
  have hal : its'.length = its.length + add.length := by rw [ha, List.length_append]
  have hbl := bd2.2.2.1
  have s52 : I2 121 52 = nI (0 + add.length) := st2.2.2.2.2.2.2.2.2.2
  have s54 : I2 121 54 = nI hs.length := st2.2.2.2.2.2.2.2.1
  have s35 : I2 121 35 = nI rs.length := st2.2.2.2.2.2.2.1
  have fin : ∀ I3 er', xk_ST I3 ts L o p' part rs.length hs its' (ev ++ xk_evs add) er' (nI (0 + add.length)) → er' = xk_rf hs rs.length its.length its'.length (xt_pl ts L p) er → xa_fr (xk_S o) I I3 → (∀ I13, I13 = pw_wI I3 121 52 (-1 : Int32) → (∀ I14, I14 = pw_wI I13 121 35 ((I13 121 35) + (1 : Int32)) → Q (1 : Int32) I14 R)) := by
    intro I3 er' st3 he fr3
    refine xa_a ?_
    obtain ⟨st4, fr4⟩ := xk_ST_w (-1) st3
    rw [st4.2.2.2.2.2.2.1, nI_1]
    refine xa_a ?_
    obtain ⟨st5, fr5⟩ := xk_ST_rw st4
    subst he
    exact h1 p' its' h _ add ha st5 bd2 hpp hT (xa_fr_t fr3 (xa_fr_t fr4 fr5))
  have fnd : (its'.length - its.length ≠ hs.length ∨ 6 ≤ rs.length) → j_md_tableRow_127 Q (nI (xt_pl ts L p)) I2 R := by
    intro hc
    unfold j_md_tableRow_127
    refine xk_found (c := 4) st2.2.2.2.2.1 (by decide) (by omega) (fun I3 he f => ?_)
    obtain ⟨st3, fr3⟩ := xk_ST_er st2 he f
    refine fin I3 _ st3 ?_ (xa_fr_t fr02 fr3)
    unfold xk_rf; rw [if_pos hc]
  rw [s52, s54, s35]
  by_cases hc : 0 + add.length = hs.length
  · refine xa_t' (by rw [hc]) ?_
    by_cases h6 : rs.length < 6
    · refine xa_t ((xa_ltl 6 (by omega) (by omega)).mpr h6) (fin I2 er st2 ?_ fr02)
      unfold xk_rf; rw [if_neg (by omega)]
    · exact xa_f (fun hh => h6 ((xa_ltl 6 (by omega) (by omega)).mp hh)) (fnd (Or.inr (by omega)))
  · exact xa_f' (fun hh => hc ((nI_eq (by omega) (by omega)).mp hh)) (fnd (Or.inl (by omega)))
theorem xk_rws {R : pR} {L o part : Nat} {ts : List (Nat × Nat × Nat × Nat)} {hs : List (Nat × Nat)} {K : pI → pR → Prop} {Q : Int32 → pI → pR → Prop} (ho : o ≤ 1) (hhs : hs.length < 80) : ∀ m p its rs ev er I, ts.length < p + 1 + m → p < ts.length → xt_kd ts L p = 59 → rs.length ≤ p → xk_ST I ts L o p part rs.length hs its ev er (-1) → xk_BD ts L its ev p →
    (∀ p' its' rs', xi_rws (xt_kd ts L) (xt_nm ts L) (xt_pl ts L) (xt_en ts L) m (p + 1) its rs = .inr (p', its', rs') → ∀ I' add, its' = its ++ add → xk_ST I' ts L o p' part rs'.length hs its' (ev ++ xk_evs add) (xk_rwE (xt_kd ts L) (xt_nm ts L) (xt_pl ts L) (xt_en ts L) hs m (p + 1) its rs er) (-1) → xk_BD ts L its' (ev ++ xk_evs add) p' → p' ≤ ts.length → xa_fr (xk_S o) I I' → K I' R) →
    (∀ g, xi_rws (xt_kd ts L) (xt_nm ts L) (xt_pl ts L) (xt_en ts L) m (p + 1) its rs = .inl g → ∀ I', I' 121 8 = nI (xt_pl ts L g) → xa_fr (xk_S o) I I' → Q 0 I' R) → l_md_table_151 K Q (m + 1) I R := by
  intro m; induction m with
  | zero => intro p its rs ev er I h1 h2; omega
  | succ m ih =>
    intro p its rs ev er I h1 hT h59 hrs st bd hK hF
    have tk := st.1
    have w := tk.1
    have a1 := w.1; have a2 := w.2.1
    have kb := fun i => xt_ka_b (xt_kd_b w (i := i))
    have k59 := fun i => xt_ka_eq w (p := i) 59 (by decide)
    have e59 := k59 p
    unfold l_md_table_151
    rw [st.2.1.1, nI_clamp (by omega), (xr_tok tk (by omega)).1]
    refine ⟨vp_in_nI (by omega) (by omega), xa_t' (xa_e 59 (e59.mpr h59)) ?_⟩
    rw [nI_1]
    refine xa_a ?_
    obtain ⟨st1, fr1⟩ := xk_ST_at (p + 1) st
    refine xk_row ho hhs st1 (by omega) (xk_BD_m w bd (by omega)) (by have := bd.2.2.1; omega) (by omega) (fun p' its' h I2 add ha st2 bd2 hpp hT2 fr2 => xa_f' (by decide) ?_) (fun g h I2 f2 fr2 => xa_t' rfl (hF g (xi_rws_l h) I2 f2 (xa_fr_t fr1 fr2)))
    have fr02 := xa_fr_t fr1 fr2
    have st2' : xk_ST I2 ts L o p' part (rs ++ [its.length]).length hs its' (ev ++ xk_evs add) (xk_rf hs rs.length its.length its'.length (xt_pl ts L (p + 1)) er) (-1) := by
      rw [List.length_append, List.length_singleton]; exact st2
    rw [xi_rws_r h] at hK hF
    rw [xk_rwE_r h] at hK
    by_cases h59' : xt_kd ts L p' = 59
    · rw [if_pos h59'] at hK hF
      rw [if_pos h59'] at hK
      have hT3 := xt_kd_lt w (i := p') (by omega)
      exact ih p' its' (rs ++ [its.length]) _ _ I2 (by omega) hT3 h59' (by simp; omega) st2' bd2 (fun p3 its3 rs3 h3 I3 add3 ha3 st3 bd3 hT3 fr3 => hK p3 its3 rs3 h3 I3 (add ++ add3) (by rw [ha3, ha, List.append_assoc]) (by
          have e1 : ev ++ xk_evs (add ++ add3) = ev ++ xk_evs add ++ xk_evs add3 := by simp [xk_evs]
          rw [e1]; exact st3) (by
          have e1 : ev ++ xk_evs (add ++ add3) = ev ++ xk_evs add ++ xk_evs add3 := by simp [xk_evs]
          rw [e1]; exact bd3) hT3 (xa_fr_t fr02 fr3)) (fun g h3 I3 f3 fr3 => hF g h3 I3 f3 (xa_fr_t fr02 fr3))
    · rw [if_neg h59'] at hK hF
      rw [if_neg h59'] at hK
      have kbp := kb p'
      have e59' := k59 p'
      unfold l_md_table_151
      rw [st2.2.1.1, nI_clamp (by omega), (xr_tok st2.1 hT2).1]
      exact ⟨vp_in_nI (by omega) (by omega), xa_f' (xa_ne 59 (by omega)) (hK p' its' _ rfl I2 add ha st2' bd2 hT2 fr02)⟩
/-- what a table finds -/
def xk_tbE (kd nm pl en : Nat → Nat) (p : Nat) (a : List xi_I) (er : Option (Nat × Nat)) : Option (Nat × Nat) := match xi_hd kd nm pl 121 (p + 1) [] with
  | .inl _ => er
  | .inr (q, h) => xk_rwE kd nm pl en h 121 (q + 1) a [] er
theorem xi_hd_len {kd nm pl : Nat → Nat} : ∀ m p h p' h', xi_hd kd nm pl m p h = .inr (p', h') → 2 * h'.length + p ≤ p' + 2 * h.length + 1 := by
  intro m; induction m with
  | zero => intro p h p' h' e; cases e; omega
  | succ m ih =>
    intro p h p' h' e
    unfold xi_hd at e
    split at e
    · cases e
    · split at e
      · have := ih _ _ _ _ e
        rw [List.length_append, List.length_singleton] at this; omega
      · cases e; rw [List.length_append, List.length_singleton]; omega
theorem xk_tab {I : pI} {R : pR} {L o p part : Nat} {ts : List (Nat × Nat × Nat × Nat)} {its : List xi_I} {Q : Int32 → pI → pR → Prop} (ho : o ≤ 1) (n : xk_N I ts L o p part its) (h68 : xt_kd ts L p = 68)
    (h1 : ∀ p' its' h rs, xi_tab (xt_kd ts L) (xt_nm ts L) (xt_pl ts L) (xt_en ts L) (p + 1) its = .inr (p', its', h, rs) → ∀ I' add, its' = its ++ add → xk_ST I' ts L o p' part rs.length h its' (xk_evs its ++ xk_hev h ++ xk_evs add) (xk_tbE (xt_kd ts L) (xt_nm ts L) (xt_pl ts L) (xt_en ts L) (p + 1) its (xk_ers none its)) (-1) → p' ≤ ts.length → xa_fr (xk_S o) I I' → Q 1 I' R)
    (h2 : ∀ g, xi_tab (xt_kd ts L) (xt_nm ts L) (xt_pl ts L) (xt_en ts L) (p + 1) its = .inl g → ∀ I', I' 121 8 = nI (xt_pl ts L g) → xa_fr (xk_S o) I I' → Q 0 I' R) : w_md_table I R Q := by
  have hn := n
  obtain ⟨st, hp, bd, nc⟩ := n
  have tk := st.1
  have w := tk.1
  have a1 := w.1; have a2 := w.2.1
  have hT := xt_kd_lt w (i := p) (by omega)
  unfold w_md_table
  rw [st.2.1.1, nI_1]
  refine xa_a ?_
  obtain ⟨n1, fr1⟩ := xk_N_at (p' := p + 1) hn (by omega) (by omega)
  generalize pw_wI I 121 7 (nI (p + 1)) = I1 at n1 fr1 ⊢
  refine xk_want 58 (by decide) n1.1.1 n1.1.2.1.1 (by omega) (fun h58 => xa_f' (by decide) ?_) (fun h58 I' f' fr' => xa_t' rfl (h2 (p + 1) ?_ I' f' (xa_fr_t fr1 (xa_fr_m (fr' (400 * o)) xk_S_r))))
  · have hT1 := xt_kd_lt w (i := p + 1) (by omega)
    obtain ⟨n2, fr2⟩ := xk_N_at (p' := p + 1 + 1) n1 (by omega) (by omega)
    generalize pw_wI I1 121 7 (nI (p + 1 + 1)) = I2 at n2 fr2 ⊢
    have fr02 := xa_fr_t fr1 fr2
    obtain ⟨st2, hp2, bd2, _⟩ := n2
    have st2' : xk_ST I2 ts L o (p + 1 + 1) part 0 [] its (xk_evs its ++ xk_hev []) (xk_ers none its) (-1) := by simpa [xk_hev] using st2
    refine ⟨122, xk_hd (ts := ts) (L := L) ho nc (by have := bd.2.2.1; omega) 121 (p + 1 + 1) [] I2 (by omega) hp2 st2' (by have := bd2.2.1; simpa using this) (by simp) (fun p3 h hh I3 st3 hev3 hpp3 hT3 fr3 => ?_) (fun g hg I3 f3 fr3 => ?_)⟩
    · have hhl := xi_hd_len _ _ _ _ _ hh
      simp only [List.length_nil] at hhl
      have kbp := xt_ka_b (xt_kd_b w (i := p3))
      have e59 := xt_ka_eq w (p := p3) 59 (by decide)
      rw [st3.2.1.1, nI_clamp (by omega), (xr_tok st3.1 hT3).1]
      refine ⟨vp_in_nI (by omega) (by omega), ?_⟩
      by_cases h59 : xt_kd ts L p3 = 59
      · refine xa_t (xa_e 59 (e59.mpr h59)) ⟨122, ?_⟩
        have hT4 := xt_kd_lt w (i := p3) (by omega)
        have hm := xt_pl_mono w (p + 1 + 1) p3 (by omega)
        have bd3 : xk_BD ts L its (xk_evs its ++ xk_hev h) p3 := by
          obtain ⟨a, b, c, d⟩ := bd2
          refine ⟨by omega, by rw [List.length_append, xk_hev_len]; exact hev3, by omega, by omega⟩
        have e0 : xi_tab (xt_kd ts L) (xt_nm ts L) (xt_pl ts L) (xt_en ts L) (p + 1) its = (match xi_rws (xt_kd ts L) (xt_nm ts L) (xt_pl ts L) (xt_en ts L) 121 (p3 + 1) its [] with
            | .inl f => .inl f
            | .inr (q', a', rs) => .inr (q', a', h, rs)) := by
          unfold xi_tab
          rw [if_neg (fun hh => hh h58), hh]
          show (if _ then _ else _) = _
          rw [if_neg (fun hh => hh h59)]
          rcases xi_rws (xt_kd ts L) (xt_nm ts L) (xt_pl ts L) (xt_en ts L) 121 (p3 + 1) its [] with f | ⟨q', a', rs⟩ <;> rfl
        refine xk_rws (rs := []) (ts := ts) (L := L) ho (by omega) 121 p3 its _ _ I3 (by omega) hT4 h59 (by simp) st3 bd3 (fun p4 its4 rs4 h4 I4 add ha st4 bd4 hT5 fr4 => ?_) (fun g hg I4 f4 fr4 => ?_)
        · refine h1 p4 its4 h rs4 (by rw [e0, h4]) I4 add ha ?_ hT5 (xa_fr_t fr02 (xa_fr_t fr3 fr4))
          unfold xk_tbE
          rw [hh]; exact st4
        · exact h2 g (by rw [e0, hg]) I4 f4 (xa_fr_t fr02 (xa_fr_t fr3 fr4))
      · refine xa_f (xa_ne 59 (by omega)) (xr_fail st3.1 st3.2.1.1 (by omega) (h2 p3 ?_ _ (by rw [xa_w]; simp) (xa_fr_t fr02 (xa_fr_t fr3 (xa_fr_w (xa_fr_r _ _) rfl)))))
        unfold xi_tab
        rw [if_neg (fun hh => hh h58), hh]
        show (if _ then _ else _) = _
        rw [if_pos h59]
    · refine h2 g ?_ I3 f3 (xa_fr_t fr02 fr3)
      unfold xi_tab
      rw [if_neg (fun hh => hh h58), hg]
  · unfold xi_tab; rw [if_pos h58]
