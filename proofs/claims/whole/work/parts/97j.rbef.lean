/-! THE REFERENCE REMEMBERS -/
theorem yg_key {P : xp_X → Prop} : ∀ (c : List xp_I) (os : List (Nat × xp_D)), xo_G P c os → ∀ e, e ∈ c → e.1 = 202 → ∃ u, u ∈ os ∧ u.1 = e.2.2.2 := by
  intro c; induction c with
  | nil => intro os _ e he; cases he
  | cons x c ih =>
    intro os h e he h2
    by_cases hx : x.1 = 202
    · obtain ⟨y, os', c', hP, h3, h4, hδ, h6⟩ := h.1 hx
      rcases List.mem_cons.mp he with rfl | hm
      · exact ⟨(e.2.2.2, y.2.2.1), by rw [h3]; simp, rfl⟩
      · obtain ⟨u, hu, hu2⟩ := ih os' h6 e hm h2
        exact ⟨u, by rw [h3]; simp [hu], hu2⟩
    · rcases List.mem_cons.mp he with rfl | hm
      · exact absurd h2 hx
      · exact ih os (h.2 hx) e hm h2
theorem yg_rem_app {V : Nat → Int32} : ∀ (os os2 : List (Nat × xp_D)) (O : Nat → Int32) (s : xp_S), xg_rem V (os ++ os2) O s = (match xg_rem V os O s with
    | (O', s', none) => xg_rem V os2 O' s'
    | (O', s', some f) => (O', s', some f)) := by
  intro os; induction os with
  | nil => intro os2 O s; rfl
  | cons e os ih =>
    intro os2 O s
    rw [List.cons_append, xg_rem, xg_rem]
    rcases e.2 (xg_A []) V xg_O0 s with ⟨s', D, f | v⟩
    · rfl
    · exact ih os2 _ _
def yv_SM (now lo hi p k : Nat) : Bool := yv_S now p k || (p == 159 && decide (lo ≤ k) && decide (k < hi))
theorem yv_SM_S {now lo hi : Nat} {I I' : pI} (h : xa_fr (yv_S now) I I') : xa_fr (yv_SM now lo hi) I I' := xa_fr_m h (fun p k hp => by
  unfold yv_SM at hp; simp only [Bool.or_eq_false_iff] at hp; exact hp.1)
theorem yv_SM_m {now lo hi lo' hi' : Nat} {I I' : pI} (h : xa_fr (yv_SM now lo' hi') I I') (h1 : lo ≤ lo') (h2 : hi' ≤ hi) : xa_fr (yv_SM now lo hi) I I' := xa_fr_m h (fun p k hp => by
  simp only [yv_SM, yv_S, Bool.or_eq_false_iff, Bool.and_eq_false_iff, beq_eq_false_iff_ne, decide_eq_false_iff_not] at hp ⊢; omega)
theorem yv_SM_o {now lo hi : Nat} {I I' : pI} (h : xa_fr (yv_SM now lo hi) I I') (p k : Nat) (hp : ¬ (p = 121 ∧ (k = 58 ∨ k = 59 ∨ k = 60 ∨ k = 65)) ∧ p ≠ 158 ∧ p ≠ 160 ∧ p ≠ 161 ∧ p ≠ 145 ∧ p ≠ 167 ∧ ¬ (p = 159 ∧ lo ≤ k ∧ k < hi)) : I' p k = I p k := h p k (by
  simp only [yv_SM, yv_S, Bool.or_eq_false_iff, Bool.and_eq_false_iff, beq_eq_false_iff_ne, decide_eq_false_iff_not]; omega)
theorem yv_E_M {now o lo hi : Nat} {F : xi_F} {a m : Nat} {I I' : pI} (f : xa_fr (yv_SM now lo hi) I I') (h : yv_E o F a m I) : yv_E o F a m I' := by
  refine ⟨yv_FM_p h.1 (fun p k hp => yv_SM_o f p k (by omega)) (yv_SM_o f _ _ (by omega)), ?_⟩
  rw [yv_SM_o f _ _ (by omega), yv_SM_o f _ _ (by omega), yv_SM_o f _ _ (by omega)]; exact h.2
theorem yv_SI_M {now lo hi : Nat} {I I' : pI} (h : xa_fr (yv_SM now lo hi) I I') : xa_fr (yv_SI now) I I' := xa_fr_m h (fun p k hp => by
  simp only [yv_SI, yv_SM, yv_S, Bool.or_eq_false_iff, Bool.and_eq_false_iff, beq_eq_false_iff_ne, decide_eq_false_iff_not] at hp ⊢; omega)
section
variable {g : Bool} {o now : Nat} {F : xi_F} {R : pR} {ts : List (Nat × Nat × Nat × Nat)} {L : Nat}
/-- within an item -/
theorem yv_bef1 {V : Nat → Int32} {p j e2 : Nat} {it : xi_I} {K : pI → pR → Prop} {Q : Int32 → pI → pR → Prop} (hnow : now < 6) (ho : o ≤ 1) (w : xg_W ts L F.1) (hj : F.1[j]? = some it) (h4 : xi_k it = 4) (hpt : xi_pt it = p) (he2 : e2 = 400 * o + (xi_G (F.1.take (j + 1))).length) (he3 : e2 ≤ 800) :
    ∀ c os s O st b I, s + c.length = e2 → c.length ≤ 200 → xr_CD I s c → (∀ e, e ∈ c → e.1 < 300) → xo_G (xf_P (xt_kd ts L) (xt_nm ts L) (xt_pl ts L)) c os → os.Pairwise (fun a b => a.1 < b.1) → yv_E o F 0 0 I → yv_St g I o now F.1 V st → xv_B b st → b + 200 * c.length ≤ 1000000000 →
    (∀ O' s', xg_rem V os O st = (O', s', none) → ∀ I', xa_fr (yv_SM now s e2) I I' → yv_St g I' o now F.1 V s' → xv_B (b + 200 * c.length) s' → yv_OG I' s c O' → K I' R) →
    (∀ O' s' f, xg_rem V os O st = (O', s', some f) → ∀ I', xa_fr (yv_SM now s e2) I I' → yv_St g I' o now F.1 V s' → xv_B (b + 200 * c.length) s' → I' 121 59 = nI f.1 → I' 121 60 = nI f.2 → (f.1 = 2 ∨ f.1 = 3) → Q 0 I' R) →
    l_md_befores_28 (nI p) (nI (100 * o + j)) K Q (c.length + 1) (nI s) I R := by
  have w' := w
  obtain ⟨ww, w1, w2, w3, w4, w5, w6⟩ := w'
  have hjl := xa_some_lt hj
  have hin : vp_in (nI (100 * o + j)) 200 := vp_in_nI (by omega) (by omega)
  intro c; induction c with
  | nil =>
    intro os s O st b I hs hc2 cd ci ho' hp hE hst hB hb h1 h2
    have hs' : s = e2 := by simpa using hs
    unfold l_md_befores_28
    rw [nI_clamp (by omega), (hE.1.1 j it hj).1.2.2.2.2.1, ← he2]
    refine ⟨hin, xa_t ((nI_leI (by omega) (by omega)).mpr (by omega)) (h1 O st ?_ I (xa_fr_r _ _) hst (xv_B_m hB (by omega)) (fun i e hi => by simp at hi))⟩
    rw [show os = [] from ho']; rfl
  | cons e c ih =>
    intro os s O st b I hs hc2 cd ci ho' hp hE hst hB hb h1 h2
    have hl : (e :: c).length = c.length + 1 := rfl
    rw [hl] at hs hc2 hb h1 h2 ⊢
    obtain ⟨ce, cdr⟩ := yv_CD_cn cd
    have ce1 := ci e (by simp)
    have ie := (hE.1.1 j it hj).1
    have hin8 : vp_in (nI s) 800 := vp_in_nI (by omega) (by omega)
    unfold l_md_befores_28
    rw [nI_clamp (by omega), ie.2.2.2.2.1, ← he2, ie.1, ie.2.1, h4, hpt]
    refine ⟨hin, xa_f (fun hh => by have := (nI_leI (by omega) (by omega)).mp hh; omega) ⟨hin, xa_t' rfl ⟨hin, xa_t' rfl ⟨hin8, ?_⟩⟩⟩⟩
    rw [nI_clamp (by omega), ce.1]
    by_cases h5 : e.1 = 202
    · refine xa_t' (xa_e 202 h5) ⟨hin8, ?_⟩
      obtain ⟨y, os', c', hP, h3, h4', hδ, h6⟩ := ho'.1 h5
      obtain ⟨dp, pp, p', hdp, hD, _, hyc⟩ := hP
      rw [ce.2.1, if_neg (by omega), nI_1, show s + e.2.2.1 = s + 1 + y.2.1.length by omega]
      have hcl : y.2.1.length + c'.length = c.length := by rw [h4', List.length_append]
      have cdy : xr_CD I (s + 1) y.2.1 := by rw [h4'] at cdr; exact (yv_CD_sp cdr).1
      have evy : yv_EV g o now F.1 R V xg_O0 (xg_A (xg_rng F.1 0 0)) (yv_E o F 0 0) 0 dp y := yv_evD hnow yv_E_S (yv_HAc hnow ho w1 w5 (fun it hi => ⟨(w6 it hi).1, (w6 it hi).2.1⟩) (by omega) (Or.inl rfl)) xg_B hD
      rw [h3] at hp
      obtain ⟨hp1, hp2⟩ := List.pairwise_cons.mp hp
      refine yv_perform (V := V) evy (by omega) hdp (by omega) (by omega) cdy (fun i u hi h5' => absurd h5' (hyc u (List.mem_of_getElem? hi)).1) (fun u hu => (hyc u hu).2) yv_E_S hE hst hB (by omega) (fun s' D v hd I1 f1 st1 hB1 hv dl1 => ?_) (fun s' D f hd I1 f1 st1 hB1 ha hb' h23 => ?_)
      · refine xa_f' (by decide) ⟨vp_in_nI (n := 0) (by omega) (by omega), hin8, xa_a ?_⟩
        rw [show (0 : Int32).toNatClampNeg = 0 from rfl, hv]
        have f2 : xa_fr (yv_SM now s e2) I1 (pw_wI I1 159 s v) := xa_fr_w (xa_fr_r _ _) (by simp [yv_SM]; omega)
        have e159 : pw_wI I1 159 s v 159 s = v := by rw [xa_w, if_pos ⟨rfl, rfl⟩]
        have st2 : yv_St g (pw_wI I1 159 s v) o now F.1 V s' := ⟨by rw [xa_p (by decide)]; exact st1.1, fun v hv => by rw [xa_p (by decide)]; exact st1.2.1 v hv, by rw [xa_p (by decide)]; exact st1.2.2.1, by rw [xa_p (by decide)]; exact st1.2.2.2.1, fun hg j it hj h7 => by rw [xa_p (by decide)]; exact st1.2.2.2.2 hg j it hj h7⟩
        generalize pw_wI I1 159 s v = I2 at *
        have f12 := xa_fr_t (yv_SM_S (lo := s) (hi := e2) f1) f2
        have hrem : ∀ r, xg_rem V os' (xv_u O e.2.2.2 v) s' = r → xg_rem V os O st = r := by
          intro r hr
          rw [h3]
          show (match y.2.2.1 (xg_A []) V xg_O0 st with
            | (s', _, .inr v) => xg_rem V os' (xv_u O e.2.2.2 v) s'
            | (s', _, .inl f) => (O, s', some f)) = r
          have hd' : y.2.2.1 (xg_A []) V xg_O0 st = (s', D, .inr v) := hd
          rw [hd']; exact hr
        have cd2 : xr_CD I2 (s + 1) c := fun i u hi => by
          rw [yv_SM_o f12 _ _ (by omega), yv_SM_o f12 _ _ (by omega), yv_SM_o f12 _ _ (by omega)]; exact cdr i u hi
        refine ih os' (s + 1) (xv_u O e.2.2.2 v) s' (b + 200) I2 (by omega) (by omega) cd2 (fun u hu => ci u (by simp [hu])) h6 hp2 (yv_E_M f12 hE) st2 (xv_B_m hB1 (by omega)) (by omega) (fun O' s2 h I' f' st' hB' oc' => h1 O' s2 (hrem _ h) I' (xa_fr_t f12 (yv_SM_m f' (by omega) (by omega))) st' (xv_B_m hB' (by omega)) ?_) (fun O' s2 f h I' f' st' hB' => h2 O' s2 f (hrem _ h) I' (xa_fr_t f12 (yv_SM_m f' (by omega) (by omega))) st' (xv_B_m hB' (by omega)))
        intro i u hi hu5
        cases i with
        | zero =>
          cases hi
          rw [Nat.add_zero, yv_SM_o f' _ _ (by omega), e159]
          rw [xg_rem_o _ _ _ _ _ _ h e.2.2.2 (fun a ha => by have := hp1 a ha; show a.1 ≠ e.2.2.2; simp only at this; omega)]
          unfold xv_u; rw [if_pos rfl]
        | succ i =>
          have := oc' i u hi hu5
          rw [show s + (i + 1) = s + 1 + i by omega]; exact this
      · refine xa_t' rfl (h2 O s' f ?_ I1 (yv_SM_S f1) st1 (xv_B_m hB1 (by omega)) ha hb' h23)
        rw [h3]
        show (match y.2.2.1 (xg_A []) V xg_O0 st with
            | (s', _, .inr v) => xg_rem V os' (xv_u O e.2.2.2 v) s'
            | (s', _, .inl f) => (O, s', some f)) = _
        have hd' : y.2.2.1 (xg_A []) V xg_O0 st = (s', D, .inl f) := hd
        rw [hd']
    · refine xa_f' (xa_ne 202 (by omega)) ?_
      rw [nI_1]
      refine ih os (s + 1) O st b I (by omega) (by omega) cdr (fun u hu => ci u (by simp [hu])) (ho'.2 h5) hp hE hst hB (by omega) (fun O' s2 h I' f' st' hB' oc' => h1 O' s2 h I' (yv_SM_m f' (by omega) (by omega)) st' (xv_B_m hB' (by omega)) ?_) (fun O' s2 f h I' f' st' hB' => h2 O' s2 f h I' (yv_SM_m f' (by omega) (by omega)) st' (xv_B_m hB' (by omega)))
      intro i u hi hu5
      cases i with
      | zero => cases hi; exact absurd hu5 h5
      | succ i =>
        have := oc' i u hi hu5
        rw [show s + (i + 1) = s + 1 + i by omega]; exact this
/-- the O's of the claims of a part -/
def yg_os (p : Nat) (l : List xi_I) : List (Nat × xp_D) := xg_os (l.filter (fun it => decide (xi_k it = 4) && decide (xi_pt it = p)))
theorem yg_os_c (p : Nat) (it : xi_I) (l : List xi_I) : yg_os p (it :: l) = (if xi_k it = 4 ∧ xi_pt it = p then (xi_x it).2.2.2.2 else []) ++ yg_os p l := by
  unfold yg_os
  by_cases h : xi_k it = 4 ∧ xi_pt it = p
  · rw [if_pos h, List.filter_cons_of_pos (by simp [h.1, h.2])]; simp [xg_os]
  · rw [if_neg h, List.filter_cons_of_neg (by simp; omega)]; rfl
theorem yg_os_sub (p : Nat) (l : List xi_I) : (yg_os p l).Sublist (xg_os l) := by
  induction l with
  | nil => exact List.Sublist.refl _
  | cons it l ih =>
    rw [yg_os_c, show xg_os (it :: l) = (xi_x it).2.2.2.2 ++ xg_os l by simp [xg_os]]
    refine List.Sublist.append ?_ ih
    split
    · exact List.Sublist.refl _
    · exact List.nil_sublist _
set_option maxRecDepth 100000 in
theorem yv_befL {V : Nat → Int32} {p : Nat} {K : pI → pR → Prop} {Q : Int32 → pI → pR → Prop} (hnow : now < 6) (ho : o ≤ 1) (w : xg_W ts L F.1) (hop : (xg_os F.1).Pairwise (fun a b => a.1 < b.1)) (hpt : ∀ it, it ∈ F.1 → xi_pt it < 1000) (hp : p < 1000) :
    ∀ m j O s b I, j + m = F.1.length → yv_E o F 0 0 I → yv_St g I o now F.1 V s → xv_B b s → b + 40000 * m ≤ 1000000000 →
    (∀ O' s', xg_rem V (yg_os p (F.1.drop j)) O s = (O', s', none) → ∀ I', xa_fr (yv_SM now (400 * o + (xi_G (F.1.take j)).length) 800) I I' → yv_St g I' o now F.1 V s' → xv_B (b + 40000 * m) s' → (∀ j' it, j ≤ j' → F.1[j']? = some it → xi_k it = 4 → xi_pt it = p → yv_OG I' (400 * o + (xi_G (F.1.take j')).length) (xi_x it).2.1 O') → K I' R) →
    (∀ O' s' f, xg_rem V (yg_os p (F.1.drop j)) O s = (O', s', some f) → ∀ I', xa_fr (yv_SM now (400 * o + (xi_G (F.1.take j)).length) 800) I I' → yv_St g I' o now F.1 V s' → xv_B (b + 40000 * m) s' → I' 121 59 = nI f.1 → I' 121 60 = nI f.2 → (f.1 = 2 ∨ f.1 = 3) → Q 0 I' R) →
    l_md_befores_8 (nI p) K Q (m + 1) (nI (100 * o + j)) I R := by
  have w' := w
  obtain ⟨ww, w1, w2, w3, w4, w5, w6⟩ := w'
  have hin2 : vp_in (nI o) 2 := vp_in_nI (by omega) (by omega)
  intro m; induction m with
  | zero =>
    intro j O s b I hj hE st hB hb h1 h2
    unfold l_md_befores_8
    rw [hE.1.2.2.2.1, nI_clamp (by omega), hE.1.2.2.2.2.1]
    refine ⟨hin2, xa_t ((nI_leI (by omega) (by omega)).mpr (by omega)) (h1 O s ?_ I (xa_fr_r _ _) st (xv_B_m hB (by omega)) (fun j' it hj' hg => ?_))⟩
    · rw [List.drop_of_length_le (by omega)]; rfl
    · have := xa_some_lt hg; omega
  | succ m ih =>
    intro j O s b I hj hE st hB hb h1 h2
    have hg : F.1[j]? = some F.1[j] := List.getElem?_eq_getElem (by omega)
    have ed : F.1.drop j = F.1[j] :: F.1.drop (j + 1) := List.drop_eq_getElem_cons (by omega)
    have hop' : (xg_os (F.1.drop j)).Pairwise (fun a b => a.1 < b.1) := by
      have : xg_os F.1 = xg_os (F.1.take j) ++ xg_os (F.1.drop j) := by
        rw [show xg_os (F.1.take j) ++ xg_os (F.1.drop j) = xg_os (F.1.take j ++ F.1.drop j) from List.flatMap_append.symm, List.take_append_drop]
      rw [this] at hop; exact (List.pairwise_append.mp hop).2.1
    rw [ed] at h1 h2 hop'
    generalize F.1[j] = it at *
    have hm := List.mem_of_getElem? hg
    have iw := w6 it hm
    have hpt1 := hpt it hm
    have hkb := xk_kd_b iw.1
    have ie := (hE.1.1 j it hg).1
    have hGj := yg_Gj hg
    have hlen : (xi_G (F.1.take j)).length + (xi_x it).2.1.length ≤ 200 := by
      have := congrArg List.length hGj.2
      rw [List.length_append, List.length_append] at this; omega
    have hin : vp_in (nI (100 * o + j)) 200 := vp_in_nI (by omega) (by omega)
    unfold l_md_befores_8
    rw [hE.1.2.2.2.1, nI_clamp (by omega), nI_clamp (by omega), hE.1.2.2.2.2.1, ie.2.2.2.1, nI_1]
    refine ⟨hin2, xa_f (fun hh => by have := (nI_leI (by omega) (by omega)).mp hh; omega) ⟨hin, (xi_x it).2.1.length + 1, ?_⟩⟩
    by_cases hc : xi_k it = 4 ∧ xi_pt it = p
    · have eos : yg_os p (it :: F.1.drop (j + 1)) = (xi_x it).2.2.2.2 ++ yg_os p (F.1.drop (j + 1)) := by rw [yg_os_c, if_pos hc]
      rw [eos] at h1 h2
      obtain ⟨lv, q, q', hlv, hD, _, _⟩ := iw.2.2.1 (by omega)
      have a := xf_all ww (by omega) hD
      have xo := a.2.2.2.2.2.1.2
      have hcross : ∀ u, u ∈ (xi_x it).2.2.2.2 → ∀ v, v ∈ yg_os p (F.1.drop (j + 1)) → u.1 < v.1 := by
        rw [show xg_os (it :: F.1.drop (j + 1)) = (xi_x it).2.2.2.2 ++ xg_os (F.1.drop (j + 1)) by simp [xg_os]] at hop'
        exact fun u hu v hv => (List.pairwise_append.mp hop').2.2 u hu v ((yg_os_sub p _).subset hv)
      refine yv_bef1 (V := V) (e2 := 400 * o + (xi_G (F.1.take (j + 1))).length) hnow ho w hg hc.1 hc.2 rfl (by omega) (xi_x it).2.1 (xi_x it).2.2.2.2 _ O s b I (by omega) (by omega) (yg_GDj hE.1.2.2.1 hg) (fun e he => (a.2.2.1 e he).1.1) xo a.2.2.2.2.2.2.1.2 hE st hB (by omega) (fun O1 s1 hr1 I1 f1 st1 hB1 og1 => ?_) (fun O1 s1 f hr1 I1 f1 st1 hB1 ha hb' h23 => ?_)
      · have hre : ∀ r, xg_rem V (yg_os p (F.1.drop (j + 1))) O1 s1 = r → xg_rem V ((xi_x it).2.2.2.2 ++ yg_os p (F.1.drop (j + 1))) O s = r := by
          intro r hr; rw [yg_rem_app, hr1]; exact hr
        have f1' : xa_fr (yv_SM now (400 * o + (xi_G (F.1.take j)).length) 800) I I1 := yv_SM_m f1 (by omega) (by omega)
        refine ih (j + 1) O1 s1 (b + 40000) I1 (by omega) (yv_E_M f1 hE) st1 (xv_B_m hB1 (by omega)) (by omega) (fun O' s' h I' f' st' hB' og' => h1 O' s' (hre _ h) I' (xa_fr_t f1' (yv_SM_m f' (by omega) (by omega))) st' (xv_B_m hB' (by omega)) (fun j' it' hj' hg' h4' hp' => ?_)) (fun O' s' f h I' f' st' hB' => h2 O' s' f (hre _ h) I' (xa_fr_t f1' (yv_SM_m f' (by omega) (by omega))) st' (xv_B_m hB' (by omega)))
        by_cases hjj : j' = j
        · subst hjj
          rw [hg] at hg'; cases hg'
          intro i e hi h5
          have hil := xa_some_lt hi
          obtain ⟨u, hu, hu2⟩ := yg_key _ _ xo e (List.mem_of_getElem? hi) h5
          rw [yv_SM_o f' _ _ (by omega), og1 i e hi h5]
          exact (xg_rem_o _ _ _ _ _ _ h e.2.2.2 (fun v hv => by have := hcross u hu v hv; omega)).symm
        · exact og' j' it' (by omega) hg' h4' hp'
      · refine h2 O1 s1 f ?_ I1 (yv_SM_m f1 (by omega) (by omega)) st1 (xv_B_m hB1 (by omega)) ha hb' h23
        rw [yg_rem_app, hr1]
    · have eos : yg_os p (it :: F.1.drop (j + 1)) = yg_os p (F.1.drop (j + 1)) := by rw [yg_os_c, if_neg hc]; rfl
      rw [eos] at h1 h2
      have k : l_md_befores_8 (nI p) K Q (m + 1) (nI (100 * o + (j + 1))) I R := by
        refine ih (j + 1) O s b I (by omega) hE st hB (by omega) (fun O' s' h I' f' st' hB' og' => h1 O' s' h I' (yv_SM_m f' (by omega) (by omega)) st' (xv_B_m hB' (by omega)) (fun j' it' hj' hg' h4' hp' => ?_)) (fun O' s' f h I' f' st' hB' => h2 O' s' f h I' (yv_SM_m f' (by omega) (by omega)) st' (xv_B_m hB' (by omega)))
        by_cases hjj : j' = j
        · subst hjj
          rw [hg] at hg'; cases hg'
          exact absurd ⟨h4', hp'⟩ hc
        · exact og' j' it' (by omega) hg' h4' hp'
      unfold l_md_befores_28
      rw [nI_clamp (by omega), ie.2.2.2.2.1, ie.1, ie.2.1]
      refine ⟨hin, fun _ => k, fun _ => ⟨hin, ?_⟩⟩
      by_cases h4 : xi_k it = 4
      · have hp' : xi_pt it ≠ p := fun e => hc ⟨h4, e⟩
        exact xa_t' (by rw [h4]; rfl) ⟨hin, xa_f' (fun e => hp' ((nI_eq (by omega) (by omega)).mp e)) k⟩
      · refine xa_f' (fun e => h4 ?_) k
        have h44 : xk_kd 4 = 4 := rfl
        have := (xa_eql 4 (by omega) (by omega)).mp e
        exact (xk_kd_inj iw.1 (by omega)).mp (this.trans h44.symm)
/-- is there an item of a kind in a part -/
theorem yv_fstL {f1 p : Nat} {I : pI} {K Q : Int32 → pI → pR → Prop} (ho : o ≤ 1) (w : xg_W ts L F.1) (hpt : ∀ it, it ∈ F.1 → xi_pt it < 1000) (hp : p < 1000) (hf1 : f1 < 9) (hE : yv_FM I o F)
    (h1 : (∀ it, it ∈ F.1 → ¬ (xi_k it = f1 ∧ xi_pt it = p)) → K (-1) I R) (h2 : ∀ n, (∃ it, it ∈ F.1 ∧ xi_k it = f1 ∧ xi_pt it = p) → n < 200 → K (nI n) I R) :
    ∀ m x3, m ≤ F.1.length → ((∀ j it, m ≤ j → F.1[j]? = some it → ¬ (xi_k it = f1 ∧ xi_pt it = p)) ∧ x3 = -1 ∨ (∃ n it, it ∈ F.1 ∧ xi_k it = f1 ∧ xi_pt it = p ∧ n < 200 ∧ x3 = nI n)) → l_md_firstItem_15 (nI (xk_kd f1)) (nI p) K Q (m + 1) x3 (nI (100 * o + m) - 1) I R := by
  have w1 := w.2.1
  have e100 : (100 : Int32) * I 121 10 = nI (100 * o) := by rw [hE.2.2.2.1]; exact pk_mul _ _
  intro m; induction m with
  | zero =>
    intro x3 hm hx
    unfold l_md_firstItem_15
    rw [e100]
    have hk : K x3 I R := by
      rcases hx with ⟨a, rfl⟩ | ⟨n, it, b1, b2, b3, b4, rfl⟩
      · refine h1 (fun it hi => ?_)
        obtain ⟨j, hj, e⟩ := List.getElem_of_mem hi
        exact a j it (by omega) (by rw [List.getElem?_eq_getElem hj, e])
      · exact h2 n ⟨it, b1, b2, b3⟩ b4
    refine xa_t ?_ hk
    rcases (show o = 0 ∨ o = 1 by omega) with rfl | rfl <;> decide
  | succ m ih =>
    intro x3 hm hx
    have hg : F.1[m]? = some F.1[m] := List.getElem?_eq_getElem (by omega)
    generalize F.1[m] = it at hg
    have him := List.mem_of_getElem? hg
    have iw := w.2.2.2.2.2.2 it him
    have hkb := xk_kd_b iw.1
    have hfb := xk_kd_b hf1
    have hp1 := hpt it him
    have ie := (hE.1 m it hg).1
    have hin : vp_in (nI (100 * o + m)) 200 := vp_in_nI (by omega) (by omega)
    have em : nI (100 * o + (m + 1)) - 1 = nI (100 * o + m) := nI_pred _
    have ed : nI (100 * o + m) + (-1) = nI (100 * o + m) - 1 := by rw [Int32.sub_eq_add_neg]
    unfold l_md_firstItem_15
    rw [e100, em, nI_clamp (by omega), ie.1, ie.2.1, ed]
    refine xa_f (fun e => by have := (nI_ltI (by omega) (by omega)).mp e; omega) ⟨hin, ?_⟩
    have keep : ¬ (xi_k it = f1 ∧ xi_pt it = p) → l_md_firstItem_15 (nI (xk_kd f1)) (nI p) K Q (m + 1) x3 (nI (100 * o + m) - 1) I R := by
      intro hn
      refine ih x3 (by omega) ?_
      rcases hx with ⟨a, b⟩ | b
      · refine Or.inl ⟨fun j it' hj hg' => ?_, b⟩
        by_cases hjm : j = m
        · subst hjm; rw [hg] at hg'; cases hg'; exact hn
        · exact a j it' (by omega) hg'
      · exact Or.inr b
    by_cases hk : xi_k it = f1
    · refine xa_t' (by rw [hk]) ⟨hin, ?_⟩
      by_cases hpp : xi_pt it = p
      · exact xa_t' (by rw [hpp]) (ih _ (by omega) (Or.inr ⟨100 * o + m, it, him, hk, hpp, by omega, rfl⟩))
      · exact xa_f' (fun e => hpp ((nI_eq (by omega) (by omega)).mp e)) (keep (fun h => hpp h.2))
    · exact xa_f' (fun e => hk ((xk_kd_inj iw.1 hf1).mp ((nI_eq (by omega) (by omega)).mp e))) (keep (fun h => hk h.1))
theorem yv_first {f1 p : Nat} {I : pI} {Q : Int32 → pI → pR → Prop} (ho : o ≤ 1) (w : xg_W ts L F.1) (hpt : ∀ it, it ∈ F.1 → xi_pt it < 1000) (hp : p < 1000) (hf1 : f1 < 9) (hE : yv_FM I o F)
    (h1 : (∀ it, it ∈ F.1 → ¬ (xi_k it = f1 ∧ xi_pt it = p)) → Q (-1) I R) (h2 : ∀ n, (∃ it, it ∈ F.1 ∧ xi_k it = f1 ∧ xi_pt it = p) → n < 200 → Q (nI n) I R) : w_md_firstItem (nI (xk_kd f1)) (nI p) I R Q := by
  unfold w_md_firstItem
  rw [hE.2.2.2.1, nI_clamp (by omega), hE.2.2.2.2.1]
  refine ⟨vp_in_nI (by omega) (by omega), F.1.length + 1, yv_fstL (ts := ts) (L := L) ho w hpt hp hf1 hE h1 h2 F.1.length (-1) (Nat.le_refl _) (Or.inl ⟨fun j it hj hg => ?_, rfl⟩)⟩
  have := xa_some_lt hg; omega
end
