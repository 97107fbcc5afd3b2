def xr_pt (i : Nat) (G : List xp_I) : List xp_I := match G[i]? with
  | some e => G.set i (e.1, e.2.1, G.length - i, e.2.2.2)
  | none => G
theorem xr_pt_len (i : Nat) (G : List xp_I) : (xr_pt i G).length = G.length := by
  unfold xr_pt; split <;> simp
def xr_red (b : Nat) : List (Nat × Nat × Nat) → List xp_I → List xp_I
  | [], G => G
  | e :: E, G => xr_red b E ((if xr_rk e.1 < 3 then xr_pt (e.2.2 - b) G else G) ++ [(e.1, 0, 0, e.2.1)])
theorem xr_red_len (b : Nat) : ∀ (E : List (Nat × Nat × Nat)) (G : List xp_I), (xr_red b E G).length = G.length + E.length := by
  intro E; induction E with
  | nil => intro G; rfl
  | cons e E ih =>
    intro G
    show (xr_red b E _).length = _
    rw [ih]
    split <;> simp [xr_pt_len] <;> omega
theorem xr_red_app (b : Nat) : ∀ (E F : List (Nat × Nat × Nat)) (G : List xp_I), xr_red b (E ++ F) G = xr_red b F (xr_red b E G) := by
  intro E; induction E with
  | nil => intro F G; rfl
  | cons e E ih => intro F G; exact ih F _
def xr_EO (k b n : Nat) (E : List (Nat × Nat × Nat)) : Prop := ∀ e, e ∈ E → k ≤ xr_rk e.1 ∧ (xr_rk e.1 < 3 → b ≤ e.2.2 ∧ e.2.2 < b + n) ∧ e.1 < 300
def xr_HW (k : Nat) (W : List (Nat × Nat × Nat)) : Prop := ∀ e W', W = e :: W' → xr_rk e.1 ≤ k ∧ e.1 ≠ 203 ∧ e.1 ≠ 204 ∧ e.1 < 300
theorem xr_patch {I : pI} {b p dp mk ib i : Nat} {W : List (Nat × Nat × Nat)} {G : List xp_I} {sd : Int32} {ev : List (Nat × Nat × Nat × Int32)} (hb4 : b ≤ 400) (st : xr_ST I b p W G dp mk ib sd ev) (hi : i < G.length) (hG : G.length ≤ 400) :
    xr_ST (pw_wI I 129 (b + i) (nI (b + G.length))) b p W (xr_pt i G) dp mk ib sd ev ∧ xa_fr (xr_S b) I (pw_wI I 129 (b + i) (nI (b + G.length))) := by
  obtain ⟨h0, h1, h2, h3, h4, h5, h6, h7, h8, h9⟩ := st
  refine ⟨⟨by rw [xa_p (by decide)]; exact h0, by rw [xa_p (by decide)]; exact h1, xr_WS_fr h2 (fun q k a b _ => by rw [xa_p (by omega)]), by rw [xa_p (by decide), xr_pt_len]; exact h3, ?_, by rw [xa_p (by decide)]; exact h5, by rw [xa_p (by decide)]; exact h6, by rw [xa_p (by decide)]; exact h7, by rw [xa_p (by decide)]; exact h8, xr_EV_fr h9 (by rw [xa_p (by decide)]) (fun q k a b => by rw [xa_p (by omega)])⟩, xa_fr_w (xa_fr_r _ _) (by simp [xr_S]; omega)⟩
  have hg : G[i]? = some G[i] := List.getElem?_eq_getElem hi
  intro j e hj
  rw [xa_p (by decide), xa_w, xa_p (by decide)]
  unfold xr_pt at hj
  rw [hg] at hj
  simp only at hj
  by_cases hji : j = i
  · subst hji
    rw [List.getElem?_set_self hi] at hj
    cases hj
    have := h4 j _ hg
    refine ⟨this.1, ?_, this.2.2⟩
    rw [if_pos ⟨rfl, rfl⟩]
    simp only
    rw [if_neg (by omega)]
    congr 1; omega
  · rw [List.getElem?_set_ne (fun e => hji e.symm)] at hj
    have := h4 j _ hj
    rw [if_neg (by omega)]
    exact this
theorem xr_red_loop {R : pR} {b p dp mk ib k : Nat} {W : List (Nat × Nat × Nat)} {sd : Int32} {ev : List (Nat × Nat × Nat × Int32)} {K Q : pI → pR → Prop} (hb4 : b ≤ 400) (hk : k < 300) (hW : ∀ e W', W = e :: W' → xr_rk e.1 < k ∧ e.1 < 300) : ∀ E G I, xr_ST I b p (E ++ W) G dp mk ib sd ev → xr_EO k b G.length E → (E ++ W).length ≤ 64 → b + G.length + E.length ≤ b + 400 → (∀ I', xr_ST I' b p W (xr_red b E G) dp mk ib sd ev → xa_fr (xr_S b) I I' → K I' R) → l_md_reduce_0 (nI k) K Q (E.length + 1) I R := by
  intro E; induction E with
  | nil =>
    intro G I st eo hl hb hK
    unfold l_md_reduce_0
    rw [st.2.1]
    cases W with
    | nil => exact xa_t (by decide) (hK I st (xa_fr_r _ _))
    | cons e W =>
      have hw := hW e W rfl
      simp only [List.nil_append, List.length_cons] at hl
      refine xa_f ?_ ⟨?_, ?_⟩
      · intro h; have := (xa_lel 0 (by simp; omega) (by omega)).mp h; simp at this
      · show vp_in (nI (W.length + 1) - 1) 64
        rw [nI_pred]; exact vp_in_nI (by omega) (by omega)
      · show w_md_rank (I 150 (nI (W.length + 1) - 1).toNatClampNeg) I R _
        rw [nI_pred, nI_clamp (by omega), st.2.2.1.1, xr_rank (by omega)]
        refine xa_t ((nI_ltI (by omega) (by omega)).mpr hw.1) ?_
        exact hK I st (xa_fr_r _ _)
  | cons e E ih =>
    intro G I st eo hl hb hK
    rw [List.cons_append] at st
    have he := eo e List.mem_cons_self
    have hrk := xr_rk_le e.1
    have hl' : (E ++ W).length < 64 := by simp at hl ⊢; omega
    simp only [List.length_cons] at hb
    unfold l_md_reduce_0
    rw [st.2.1]
    have e0 : nI (e :: (E ++ W)).length - 1 = nI (E ++ W).length := nI_pred _
    refine xa_f ?_ ⟨?_, ?_⟩
    · intro h; have := (xa_lel 0 (by simp at hl ⊢; omega) (by omega)).mp h; simp at this
    · rw [e0]; exact vp_in_nI hl' (by omega)
    · rw [e0, nI_clamp (by omega), st.2.2.1.1, xr_rank (by omega)]
      refine xa_f (fun h => by have := (nI_ltI (by omega) (by omega)).mp h; omega) ?_
      rw [st.2.1, e0]
      refine xa_a ?_
      obtain ⟨st2, fr2⟩ := xr_pop st
      have m0 : (pw_wI I 121 39 (nI (E ++ W).length)) 150 (E ++ W).length = nI e.1 := by rw [xa_p (by decide)]; exact st.2.2.1.1
      have m1 : (pw_wI I 121 39 (nI (E ++ W).length)) 151 (E ++ W).length = nI e.2.1 := by rw [xa_p (by decide)]; exact st.2.2.1.2.1
      have m2 : (pw_wI I 121 39 (nI (E ++ W).length)) 152 (E ++ W).length = nI e.2.2 := by rw [xa_p (by decide)]; exact st.2.2.1.2.2.1
      generalize pw_wI I 121 39 (nI (E ++ W).length) = I2 at st2 fr2 m0 m1 m2 ⊢
      rw [st2.2.1, nI_clamp (by omega), m0]
      refine ⟨vp_in_nI hl' (by omega), ?_⟩
      rw [xr_rank (by omega)]
      by_cases h3 : 3 ≤ xr_rk e.1
      · refine xa_t ((xa_lle 3 (by omega) (by omega)).mpr h3) ?_
        unfold j_md_reduce_69
        rw [st2.2.1, nI_clamp (by omega), m0, m1]
        refine ⟨vp_in_nI hl' (by omega), vp_in_nI hl' (by omega), ?_⟩
        refine xr_emit hb4 (a := 0) st2 (by omega) (fun I3 st3 fr3 => ?_)
        refine ih _ I3 st3 (fun e' he' => ?_) (by omega) (by simp; omega) (fun I' st' fr' => hK I' ?_ (xa_fr_t (xa_fr_t fr2 fr3) fr'))
        · have := eo e' (List.mem_cons_of_mem _ he')
          refine ⟨this.1, fun h => ?_, this.2.2⟩
          have := this.2.1 h
          simp; omega
        · show xr_ST I' b p W (xr_red b E ((if _ then _ else _) ++ _)) dp mk ib sd ev
          rw [if_neg (by omega)]; exact st'
      · refine xa_f (fun h => h3 ((xa_lle 3 (by omega) (by omega)).mp h)) ?_
        have hf := he.2.1 (by omega)
        rw [st2.2.1, nI_clamp (by omega), m2, nI_clamp (by omega), st2.2.2.2.1]
        refine ⟨vp_in_nI hl' (by omega), vp_in_nI (by omega) (by omega), xa_a ?_⟩
        obtain ⟨st3, fr3⟩ := xr_patch hb4 (i := e.2.2 - b) st2 (by omega) (by omega)
        rw [show b + (e.2.2 - b) = e.2.2 by omega] at st3 fr3
        have m0' : (pw_wI I2 129 e.2.2 (nI (b + G.length))) 150 (E ++ W).length = nI e.1 := by rw [xa_p (by decide)]; exact m0
        have m1' : (pw_wI I2 129 e.2.2 (nI (b + G.length))) 151 (E ++ W).length = nI e.2.1 := by rw [xa_p (by decide)]; exact m1
        generalize pw_wI I2 129 e.2.2 (nI (b + G.length)) = I3 at st3 fr3 m0' m1' ⊢
        unfold j_md_reduce_69
        rw [st3.2.1, nI_clamp (by omega), m0', m1']
        refine ⟨vp_in_nI hl' (by omega), vp_in_nI hl' (by omega), ?_⟩
        refine xr_emit hb4 (a := 0) st3 (by rw [xr_pt_len]; omega) (fun I4 st4 fr4 => ?_)
        refine ih _ I4 st4 (fun e' he' => ?_) (by omega) (by simp [xr_pt_len]; omega) (fun I' st' fr' => hK I' ?_ (xa_fr_t (xa_fr_t fr2 (xa_fr_t fr3 fr4)) fr'))
        · have := eo e' (List.mem_cons_of_mem _ he')
          refine ⟨this.1, fun h => ?_, this.2.2⟩
          have := this.2.1 h
          simp [xr_pt_len]; omega
        · show xr_ST I' b p W (xr_red b E ((if _ then _ else _) ++ _)) dp mk ib sd ev
          rw [if_pos (by omega)]; exact st'
theorem xr_reduce {I : pI} {R : pR} {b p dp mk ib k : Nat} {E W : List (Nat × Nat × Nat)} {G : List xp_I} {sd : Int32} {ev : List (Nat × Nat × Nat × Int32)} {Q : pI → pR → Prop} (hb4 : b ≤ 400) (st : xr_ST I b p (E ++ W) G dp mk ib sd ev) (hk : k < 300) (hW : ∀ e W', W = e :: W' → xr_rk e.1 < k ∧ e.1 < 300) (eo : xr_EO k b G.length E) (hl : (E ++ W).length ≤ 64) (hb : b + G.length + E.length ≤ b + 400) (h : ∀ I', xr_ST I' b p W (xr_red b E G) dp mk ib sd ev → xa_fr (xr_S b) I I' → Q I' R) : w_md_reduce (nI k) I R Q :=
  ⟨E.length + 1, xr_red_loop hb4 hk hW E G I st eo hl hb h⟩
def xr_sg (S : List (Nat × Nat × Nat)) : List xp_I := S.map (fun e => (e.1, 0, 0, e.2.1))
theorem xr_sg_loop {R : pR} {b p mk ib : Nat} {W : List (Nat × Nat × Nat)} {sd : Int32} {ev : List (Nat × Nat × Nat × Int32)} {K Q : pI → pR → Prop} (hb4 : b ≤ 400) (hW : ∀ e W', W = e :: W' → e.1 ≠ 203 ∧ e.1 ≠ 204 ∧ e.1 < 300) : ∀ S G dp I, xr_ST I b p (S ++ W) G dp mk ib sd ev → (∀ e, e ∈ S → e.1 = 203 ∨ e.1 = 204) → (S ++ W).length ≤ 64 → b + G.length + S.length ≤ b + 400 → S.length ≤ dp → (∀ I', xr_ST I' b p W (G ++ xr_sg S) (dp - S.length) mk ib sd ev → xa_fr (xr_S b) I I' → K I' R) → l_md_signs_5 K Q (S.length + 1) I R := by
  intro S; induction S with
  | nil =>
    intro G dp I st hs hl hb hd hK
    have hfin := hK I (by simpa [xr_sg] using st) (xa_fr_r _ _)
    unfold l_md_signs_5
    rw [st.2.1]
    cases W with
    | nil => exact xa_t (by decide) hfin
    | cons e W =>
      have hw := hW e W rfl
      simp only [List.nil_append, List.length_cons] at hl
      have e0 : nI ([] ++ e :: W).length - 1 = nI W.length := nI_pred _
      refine xa_f ?_ ⟨?_, ?_⟩
      · intro h; have := (xa_lel 0 (by simp; omega) (by omega)).mp h; simp at this
      · rw [e0]; exact vp_in_nI (by omega) (by omega)
      · rw [e0, nI_clamp (by omega), st.2.2.1.1]
        exact xa_f (xa_ne 203 (by omega)) ⟨vp_in_nI (by omega) (by omega), xa_f' (xa_ne 204 (by omega)) hfin⟩
  | cons e S ih =>
    intro G dp I st hs hl hb hd hK
    rw [List.cons_append] at st
    have he := hs e List.mem_cons_self
    have hl' : (S ++ W).length < 64 := by simp at hl ⊢; omega
    simp only [List.length_cons] at hb hd
    have e0 : nI (e :: (S ++ W)).length - 1 = nI (S ++ W).length := nI_pred _
    have hgo : j_md_signs_46 (fun I5 R2 => l_md_signs_5 K Q (S.length + 1) I5 R2) Q I R := by
      unfold j_md_signs_46
      rw [st.2.1, e0]
      refine xa_a ?_
      obtain ⟨st2, fr2⟩ := xr_pop st
      have m0 : (pw_wI I 121 39 (nI (S ++ W).length)) 150 (S ++ W).length = nI e.1 := by rw [xa_p (by decide)]; exact st.2.2.1.1
      have m1 : (pw_wI I 121 39 (nI (S ++ W).length)) 151 (S ++ W).length = nI e.2.1 := by rw [xa_p (by decide)]; exact st.2.2.1.2.1
      generalize pw_wI I 121 39 (nI (S ++ W).length) = I2 at st2 fr2 m0 m1 ⊢
      rw [st2.2.2.2.2.2.1, xa_m1 (by omega)]
      refine xa_a ?_
      obtain ⟨st3, fr3⟩ := xr_w43 (dp - 1) st2
      have m0' : (pw_wI I2 121 43 (nI (dp - 1))) 150 (S ++ W).length = nI e.1 := by rw [xa_p (by decide)]; exact m0
      have m1' : (pw_wI I2 121 43 (nI (dp - 1))) 151 (S ++ W).length = nI e.2.1 := by rw [xa_p (by decide)]; exact m1
      generalize pw_wI I2 121 43 (nI (dp - 1)) = I3 at st3 fr3 m0' m1' ⊢
      rw [st3.2.1, nI_clamp (by omega), m0', m1']
      refine ⟨vp_in_nI hl' (by omega), vp_in_nI hl' (by omega), ?_⟩
      refine xr_emit hb4 (a := 0) st3 (by omega) (fun I4 st4 fr4 => ?_)
      refine ih _ _ I4 st4 (fun e' he' => hs e' (List.mem_cons_of_mem _ he')) (by omega) (by simp; omega) (by omega) (fun I' st' fr' => hK I' ?_ (xa_fr_t (xa_fr_t fr2 (xa_fr_t fr3 fr4)) fr'))
      rw [show dp - (e :: S).length = dp - 1 - S.length by simp; omega]
      simpa [xr_sg] using st'
    unfold l_md_signs_5
    rw [st.2.1]
    refine xa_f ?_ ⟨?_, ?_⟩
    · intro h; have := (xa_lel 0 (by simp at hl ⊢; omega) (by omega)).mp h; simp at this
    · rw [e0]; exact vp_in_nI hl' (by omega)
    · rw [e0, nI_clamp (by omega), st.2.2.1.1]
      rcases he with he | he
      · exact xa_t (xa_e 203 he) hgo
      · exact xa_f (xa_ne 203 (by omega)) ⟨vp_in_nI hl' (by omega), xa_t' (xa_e 204 he) hgo⟩
theorem xr_signs {I : pI} {R : pR} {b p dp mk ib : Nat} {S W : List (Nat × Nat × Nat)} {G : List xp_I} {sd : Int32} {ev : List (Nat × Nat × Nat × Int32)} {Q : pI → pR → Prop} (hb4 : b ≤ 400) (st : xr_ST I b p (S ++ W) G dp mk ib sd ev) (hW : ∀ e W', W = e :: W' → e.1 ≠ 203 ∧ e.1 ≠ 204 ∧ e.1 < 300) (hs : ∀ e, e ∈ S → e.1 = 203 ∨ e.1 = 204) (hl : (S ++ W).length ≤ 64) (hb : b + G.length + S.length ≤ b + 400) (hd : S.length ≤ dp) (h : ∀ I', xr_ST I' b p W (G ++ xr_sg S) (dp - S.length) mk ib 0 ev → xa_fr (xr_S b) I I' → Q I' R) : w_md_signs I R Q := by
  unfold w_md_signs
  refine xa_a ?_
  obtain ⟨st2, fr2⟩ := xr_w46 0 st
  exact ⟨S.length + 1, xr_sg_loop hb4 hW S G dp _ st2 hs hl hb hd (fun I' a b => h I' a (xa_fr_t fr2 b))⟩
theorem xr_note {I : pI} {R : pR} {b p dp mk ib t a v : Nat} {c : Int32} {W : List (Nat × Nat × Nat)} {G : List xp_I} {sd : Int32} {ev : List (Nat × Nat × Nat × Int32)} {Q : pI → pR → Prop} (st : xr_ST I b p W G dp mk ib sd ev) (hb : ev.length < 170)
    (h : ∀ I', xr_ST I' b p W G dp mk ib sd (ev ++ [(t, a, v, c)]) → xa_fr (xr_S b) I I' → Q I' R) : w_md_note (nI t) (nI a) (nI v) c I R Q := by
  obtain ⟨h0, h1, h2, h3, h4, h5, h6, h7, h8, h9⟩ := st
  have hv : vp_in (nI ev.length) 170 := vp_in_nI hb (by decide)
  have hc : (nI ev.length).toNatClampNeg = ev.length := nI_clamp (by omega)
  unfold w_md_note
  rw [h9.1, hc]
  refine ⟨hv, fun I1 e1 => ?_⟩
  have s1 : I1 121 47 = nI ev.length := by rw [e1, xa_w]; simp [h9.1]
  rw [s1, hc]
  refine ⟨hv, fun I2 e2 => ?_⟩
  have s2 : I2 121 47 = nI ev.length := by rw [e2, xa_w]; simp [s1]
  rw [s2, hc]
  refine ⟨hv, fun I3 e3 => ?_⟩
  have s3 : I3 121 47 = nI ev.length := by rw [e3, xa_w]; simp [s2]
  rw [s3, hc]
  refine ⟨hv, fun I4 e4 => ?_⟩
  have s4 : I4 121 47 = nI ev.length := by rw [e4, xa_w]; simp [s3]
  rw [s4, nI_1]
  intro I5 e5
  have hI : ∀ p' i, I5 p' i = (if p' = 121 ∧ i = 47 then nI (ev.length + 1) else if p' = 156 ∧ i = ev.length then c else if p' = 155 ∧ i = ev.length then nI v else if p' = 154 ∧ i = ev.length then nI a else if p' = 153 ∧ i = ev.length then nI t else I p' i) := by
    intro p' i; rw [e5, xa_w, e4, xa_w, e3, xa_w, e2, xa_w, e1, xa_w]
  refine h I5 ⟨by rw [hI]; simpa using h0, by rw [hI]; simpa using h1, xr_WS_fr h2 (fun q k a b c => by rw [hI, if_neg (by omega), if_neg (by omega), if_neg (by omega), if_neg (by omega), if_neg (by omega)]), by rw [hI]; simpa using h3, xr_CD_fr h4 (fun q k a b _ _ => by rw [hI, if_neg (by omega), if_neg (by omega), if_neg (by omega), if_neg (by omega), if_neg (by omega)]), by rw [hI]; simpa using h5, by rw [hI]; simpa using h6, by rw [hI]; simpa using h7, by rw [hI]; simpa using h8, ?_, ?_⟩ ?_
  · rw [hI]; simp
  · intro i e hi
    rcases xa_app hi with ⟨hi', hl⟩ | ⟨hi', he⟩
    · have := h9.2 i e hi'
      simp only [hI]
      simp only [show ¬ (i = ev.length) by omega, and_false, if_false]
      simpa using this
    · subst hi'; rw [he]; simp [hI]
  · rw [e5, e4, e3, e2, e1]
    refine xa_fr_w (xa_fr_w (xa_fr_w (xa_fr_w (xa_fr_w (xa_fr_r _ _) ?_) ?_) ?_) ?_) rfl <;> simp [xr_S]
theorem xr_deeper {I : pI} {R : pR} {L b p dp mk ib : Nat} {ts : List (Nat × Nat × Nat × Nat)} {W : List (Nat × Nat × Nat)} {G : List xp_I} {sd : Int32} {ev : List (Nat × Nat × Nat × Int32)} {Q : Int32 → pI → pR → Prop} (tk : xr_TK I ts L) (st : xr_ST I b p W G dp mk ib sd ev) (hd : dp ≤ 4) (hp : p < ts.length + 6)
    (h1 : dp < 4 → ∀ I', xr_ST I' b p W G (dp + 1) mk ib sd ev → xa_fr (xr_S b) I I' → Q 1 I' R) (h2 : ¬ dp < 4 → ∀ I', I' 121 8 = nI (xt_pl ts L p) → xa_fr (xr_S b) I I' → Q 0 I' R) : w_md_deeper I R Q := by
  unfold w_md_deeper
  rw [st.2.2.2.2.2.1, nI_1]
  by_cases h4 : dp < 4
  · obtain ⟨st2, fr2⟩ := xr_w43 (dp + 1) st
    exact xa_f' (xa_ne 4 (by omega)) (xa_a (h1 h4 _ st2 fr2))
  · refine xa_t' (xa_e 4 (by omega)) (xr_fail tk st.1 hp (h2 h4 _ ?_ (xa_fr_w (xa_fr_r _ _) rfl)))
    rw [xa_w]; simp
