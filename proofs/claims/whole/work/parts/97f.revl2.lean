theorem yv_step {I : pI} {R : pR} {f2 s0 m : Nat} {K : pI → pR → Prop} {Q : Int32 → pI → pR → Prop} (h2 : s0 < f2) (h3 : f2 ≤ 800) (hm : f2 + 1 ≤ s0 + m) (h : w_md_one (nI s0) I R (fun v1 I3 R1 => ((0 ≤ v1 → l_md_perform_12 (nI f2) K Q (m - 1) v1 I3 R1) ∧ (¬ 0 ≤ v1 → Q (0 : Int32) I3 R1)))) : l_md_perform_12 (nI f2) K Q m (nI s0) I R := by
  rw [show m = (m - 1) + 1 by omega]
  unfold l_md_perform_12
  exact xa_f (fun hh => by have := (nI_leI (by omega) (by omega)).mp hh; omega) h
/-- the stand-ins' contract -/
def yv_HA (g : Bool) (o now : Nat) (its : List xi_I) (R : pR) (V : Nat → Int32) (A : xp_A) (E : pI → Prop) : Prop := ∀ (I : pI) (s : xp_S) (b m p t : Nat) (v : Int32) (D : List (Nat × Int32)) (Q : Int32 → pI → pR → Prop), E I → yv_St g I o now its V s → xv_B b s → b < 1000000000 → m ≤ 1 → p < 120 → I 121 58 = nI t → t < 64 → yv_DL I D → D.length < 200 →
  (∀ w, (A s m v).2 = some w → ∀ I', xa_fr (yv_S now) I I' → yv_St g I' o now its V (A s m v).1 → yv_DL I' (D ++ [(p, w)]) → (∀ j, j ≠ t → I' 158 j = I 158 j) → I' 158 t = w → I' 121 58 = nI (t + 1) → Q 1 I' R) →
  ((A s m v).2 = none → ∀ I', xa_fr (yv_S now) I I' → yv_St g I' o now its V (A s m v).1 → I' 121 59 = 2 → I' 121 60 = nI p → Q 0 I' R) → w_md_call (nI m) v (nI p) I R Q
def yv_EV (g : Bool) (o now : Nat) (its : List xi_I) (R : pR) (V O : Nat → Int32) (A : xp_A) (E : pI → Prop) (lv dp : Nat) (x : xp_X) : Prop :=
  ∀ (f2 : Nat) (K : pI → pR → Prop) (Q : Int32 → pI → pR → Prop) (s0 t m : Nat) (I : pI) (s : xp_S) (b : Nat) (D0 : List (Nat × Int32)), lv ≤ 5 → dp ≤ 4 → t ≤ 6 * dp + lv → s0 + x.2.1.length ≤ f2 → f2 ≤ 800 → f2 + 1 ≤ s0 + m → xr_CD I s0 x.2.1 → yv_OG I s0 x.2.1 O → yv_CI x.2.1 → E I → yv_St g I o now its V s → xv_B b s → b + x.2.1.length ≤ 1000000000 → I 121 58 = nI t → yv_DL I D0 → D0.length + x.2.1.length ≤ 200 →
  (∀ s' D v, x.2.2.1 A V O s = (s', D, .inr v) → ∀ m' I', f2 + 1 ≤ s0 + x.2.1.length + m' → xa_fr (yv_S now) I I' → yv_St g I' o now its V s' → xv_B (b + x.2.1.length) s' → (∀ j, j < t → I' 158 j = I 158 j) → I' 158 t = v → I' 121 58 = nI (t + 1) → yv_DL I' (D0 ++ D) → D.length ≤ x.2.1.length → l_md_perform_12 (nI f2) K Q m' (nI (s0 + x.2.1.length)) I' R) →
  (∀ s' D e, x.2.2.1 A V O s = (s', D, .inl e) → ∀ I', xa_fr (yv_S now) I I' → yv_St g I' o now its V s' → xv_B (b + x.2.1.length) s' → I' 121 59 = nI e.1 → I' 121 60 = nI e.2 → (e.1 = 2 ∨ e.1 = 3) → Q 0 I' R) →
  l_md_perform_12 (nI f2) K Q m (nI s0) I R
section
variable {g : Bool} {o now : Nat} {its : List xi_I} {R : pR} {V O : Nat → Int32} {A : xp_A} {E : pI → Prop} {lv dp : Nat}
theorem yv_num (n p : Nat) : yv_EV g o now its R V O A E lv dp (xp_num n p) := by
  intro f2 K Q s0 t m I s b D0 hlv hdp ht hf hf2 hm cd oC ci hE st hB hbb h58 dl hD hS hF
  have c := (yv_CD_cn (d := []) cd).1
  have hl : (xp_num n p).2.1.length = 1 := rfl
  rw [hl] at hS hf
  refine yv_step (by omega) hf2 hm (yv_k1 (n := n) (by omega) c.1 c.2.1 h58 (by omega) dl (fun I' f d a e1 e2 => xa_t (nI_pos' (by omega)) ?_))
  exact hS s [] (nI n) rfl (m - 1) I' (by omega) (yv_SN_f f) (yv_St_N st f) (xv_B_m hB (by omega)) (fun j hj => a j (by omega)) e1 e2 (by rw [List.append_nil]; exact d) (by simp)
theorem yv_var (hnow : now < 6) (v p : Nat) : yv_EV g o now its R V O A E lv dp (xp_var v p) := by
  intro f2 K Q s0 t m I s b D0 hlv hdp ht hf hf2 hm cd oC ci hE st hB hbb h58 dl hD hS hF
  have c := (yv_CD_cn (d := []) cd).1
  have w := (yv_CI_cn (d := []) ci).1
  have hl : (xp_var v p).2.1.length = 1 := rfl
  rw [hl] at hS hf hD
  refine yv_step (by omega) hf2 hm (yv_k2 (v := v) (p := p) (by omega) hnow st c.1 c.2.1 c.2.2 (w.1.2.2.1 rfl) h58 (by omega) dl (by omega) (fun I' f d a e1 e2 => xa_t (nI_pos' (by omega)) ?_))
  exact hS s [(p, V v)] (V v) rfl (m - 1) I' (by omega) (yv_SN_f f) (yv_St_N st f) (xv_B_m hB (by omega)) (fun j hj => a j (by omega)) e1 e2 d (by simp)
theorem yv_neg {x : xp_X} (p : Nat) (hdp4 : dp < 4) (ih : yv_EV g o now its R V O A E 5 (dp + 1) x) : yv_EV g o now its R V O A E 5 dp (xp_neg x p) := by
  intro f2 K Q s0 t m I s b D0 hlv hdp ht hf hf2 hm cd oC ci hE st hB hbb h58 dl hD hS hF
  have hl : (xp_neg x p).2.1.length = x.2.1.length + 1 := by simp [xp_neg]
  rw [hl] at hS hF hf hbb hD
  obtain ⟨cd1, cd2⟩ := yv_CD_sp (c := x.2.1) (d := [(203, 0, 0, p)]) cd
  obtain ⟨oc1, _⟩ := yv_OG_sp (c := x.2.1) (d := [(203, 0, 0, p)]) oC
  obtain ⟨ci1, ci2⟩ := yv_CI_sp (c := x.2.1) (d := [(203, 0, 0, p)]) ci
  refine ih f2 K Q s0 t m I s b D0 (by omega) (by omega) (by omega) (by omega) hf2 hm cd1 oc1 ci1 hE st hB (by omega) h58 dl (by omega) (fun s' D v hd m' I' hm' f1 st1 hB1 hj hv h71 dl1 hD1 => ?_) (fun s' D e hd I' f1 st1 hB1 ha hb h23 => ?_)
  · have c := (yv_CD_cn (d := []) (yv_CD_S cd2 f1)).1
    refine yv_step (by omega) hf2 (by omega) (yv_k203 (p := p) (by omega) c.1 c.2.2 h71 (by omega) dl1 (by rw [List.length_append]; omega) (fun I2 f d a e1 e2 => xa_t (nI_pos' (by omega)) ?_))
    rw [hv] at d e1
    refine hS s' (D ++ [(p, -v)]) (-v) ?_ (m' - 1) I2 (by omega) (xa_fr_t f1 (yv_SN_f f)) (yv_St_N st1 f) (xv_B_m hB1 (by omega)) (fun j hj' => by rw [a j (by omega), hj j hj']) e1 e2 (by rw [← List.append_assoc]; exact d) (by simp; exact hD1)
    show xp_un1 (fun v => -v) x.2.2.1 p A V O s = _
    unfold xp_un1; rw [hd]
  · refine hF s' D e ?_ I' f1 st1 (xv_B_m hB1 (by omega)) ha hb h23
    show xp_un1 (fun v => -v) x.2.2.1 p A V O s = _
    unfold xp_un1; rw [hd]
theorem yv_not {x : xp_X} (p : Nat) (hdp4 : dp < 4) (ih : yv_EV g o now its R V O A E 5 (dp + 1) x) : yv_EV g o now its R V O A E 5 dp (xp_not x p) := by
  intro f2 K Q s0 t m I s b D0 hlv hdp ht hf hf2 hm cd oC ci hE st hB hbb h58 dl hD hS hF
  have hl : (xp_not x p).2.1.length = x.2.1.length + 1 := by simp [xp_not]
  rw [hl] at hS hF hf hbb hD
  obtain ⟨cd1, cd2⟩ := yv_CD_sp (c := x.2.1) (d := [(204, 0, 0, p)]) cd
  obtain ⟨oc1, _⟩ := yv_OG_sp (c := x.2.1) (d := [(204, 0, 0, p)]) oC
  obtain ⟨ci1, ci2⟩ := yv_CI_sp (c := x.2.1) (d := [(204, 0, 0, p)]) ci
  refine ih f2 K Q s0 t m I s b D0 (by omega) (by omega) (by omega) (by omega) hf2 hm cd1 oc1 ci1 hE st hB (by omega) h58 dl (by omega) (fun s' D v hd m' I' hm' f1 st1 hB1 hj hv h71 dl1 hD1 => ?_) (fun s' D e hd I' f1 st1 hB1 ha hb h23 => ?_)
  · have c := (yv_CD_cn (d := []) (yv_CD_S cd2 f1)).1
    refine yv_step (by omega) hf2 (by omega) (yv_k204 (p := p) (by omega) c.1 c.2.2 h71 (by omega) dl1 (by rw [List.length_append]; omega) (fun I2 f d a e1 e2 => xa_t (nI_pos' (by omega)) ?_))
    rw [hv] at d e1
    refine hS s' (D ++ [(p, xp_tr (v = 0))]) (xp_tr (v = 0)) ?_ (m' - 1) I2 (by omega) (xa_fr_t f1 (yv_SN_f f)) (yv_St_N st1 f) (xv_B_m hB1 (by omega)) (fun j hj' => by rw [a j (by omega), hj j hj']) e1 e2 (by rw [← List.append_assoc]; exact d) (by simp; exact hD1)
    show xp_un1 (fun v => xp_tr (v = 0)) x.2.2.1 p A V O s = _
    unfold xp_un1; rw [hd]
  · refine hF s' D e ?_ I' f1 st1 (xv_B_m hB1 (by omega)) ha hb h23
    show xp_un1 (fun v => xp_tr (v = 0)) x.2.2.1 p A V O s = _
    unfold xp_un1; rw [hd]
theorem yv_par {x : xp_X} (hdp4 : dp < 4) (ih : yv_EV g o now its R V O A E 0 (dp + 1) x) : yv_EV g o now its R V O A E 5 dp x := by
  intro f2 K Q s0 t m I s b D0 hlv hdp ht
  exact ih f2 K Q s0 t m I s b D0 (by omega) (by omega) (by omega)
theorem yv_up {x : xp_X} (hl : lv ≤ 4) (ih : yv_EV g o now its R V O A E (lv + 1) dp x) : yv_EV g o now its R V O A E lv dp x := by
  intro f2 K Q s0 t m I s b D0 hlv hdp ht
  exact ih f2 K Q s0 t m I s b D0 (by omega) (by omega) (by omega)
theorem yv_call (hE : ∀ I I', xa_fr (yv_S now) I I' → E I → E I') (hA : yv_HA g o now its R V A E) (hBA : xv_HB A) {x : xp_X} (mm p : Nat) (hdp4 : dp < 4) (ih : yv_EV g o now its R V O A E 0 (dp + 1) x) : yv_EV g o now its R V O A E 5 dp (xp_call mm x p) := by
  intro f2 K Q s0 t m I s b D0 hlv hdp ht hf hf2 hm cd oC ci hEI st hB hbb h58 dl hD hS hF
  have hl : (xp_call mm x p).2.1.length = x.2.1.length + 1 := by simp [xp_call]
  rw [hl] at hS hF hf hbb hD
  obtain ⟨cd1, cd2⟩ := yv_CD_sp (c := x.2.1) (d := [(201, mm, 0, p)]) cd
  obtain ⟨oc1, _⟩ := yv_OG_sp (c := x.2.1) (d := [(201, mm, 0, p)]) oC
  obtain ⟨ci1, ci2⟩ := yv_CI_sp (c := x.2.1) (d := [(201, mm, 0, p)]) ci
  refine ih f2 K Q s0 t m I s b D0 (by omega) (by omega) (by omega) (by omega) hf2 hm cd1 oc1 ci1 hEI st hB (by omega) h58 dl (by omega) (fun s' D v hd m' I' hm' f1 st1 hB1 hj hv h71 dl1 hD1 => ?_) (fun s' D e hd I' f1 st1 hB1 ha hb h23 => ?_)
  · have c := (yv_CD_cn (d := []) (yv_CD_S cd2 f1)).1
    have w := (yv_CI_cn (d := []) ci2).1
    have hmm : mm ≤ 1 := w.1.2.2.2 rfl
    have hB2 := hBA s' mm v _ hB1 hmm
    refine yv_step (by omega) hf2 (by omega) (yv_k201 (m := mm) (p := p) (by omega) c.1 c.2.1 c.2.2 h71 (by omega) dl1 (fun I2 f d a e2 => ?_))
    rw [hv]
    refine hA I2 s' (b + x.2.1.length) mm p t v _ _ (hE _ _ (xa_fr_t f1 (yv_SN_f f)) hEI) (yv_St_N st1 f) hB1 (by omega) hmm w.2 e2 (by omega) d (by rw [List.length_append]; omega) (fun w2 hw I3 f3 st3 d3 a3 e3 t3 => xa_f' (by decide) (xa_t (nI_pos' (by omega)) ?_)) (fun hw I3 f3 st3 ha hb => xa_t' rfl (xa_f (by decide) ?_))
    · refine hS (A s' mm v).1 (D ++ [(p, w2)]) w2 ?_ (m' - 1) I3 (by omega) (xa_fr_t f1 (xa_fr_t (yv_SN_f f) f3)) st3 hB2 (fun j hj' => by rw [a3 j (by omega), a, hj j hj']) e3 t3 (by rw [← List.append_assoc]; exact d3) (by simp; exact hD1)
      show xp_call1 mm x.2.2.1 p A V O s = _
      unfold xp_call1; rw [hd]; simp only
      rw [show A s' mm v = ((A s' mm v).1, some w2) from by rw [← hw]]
    · refine hF (A s' mm v).1 D (2, p) ?_ I3 (xa_fr_t f1 (xa_fr_t (yv_SN_f f) f3)) st3 hB2 ha hb (Or.inl rfl)
      show xp_call1 mm x.2.2.1 p A V O s = _
      unfold xp_call1; rw [hd]; simp only
      rw [show A s' mm v = ((A s' mm v).1, none) from by rw [← hw]]
  · refine hF s' D e ?_ I' f1 st1 (xv_B_m hB1 (by omega)) ha hb h23
    show xp_call1 mm x.2.2.1 p A V O s = _
    unfold xp_call1; rw [hd]
theorem yv_old (x : xp_X) (p : Nat) : yv_EV g o now its R V O A E lv dp (xp_old x p) := by
  intro f2 K Q s0 t m I s b D0 hlv hdp ht hf hf2 hm cd oC ci hE st hB hbb h58 dl hD hS hF
  have hl : (xp_old x p).2.1.length = x.2.1.length + 2 := by simp [xp_old]
  have c := (yv_CD_cn (u := (202, 0, x.2.1.length + 1, p)) (d := x.2.1 ++ [(206, 0, 0, p)]) cd).1
  have ow := oC 0 (202, 0, x.2.1.length + 1, p) rfl rfl
  rw [hl] at hS hf hD
  have c2 := c.2.1
  simp only at c2
  rw [if_neg (by omega)] at c2
  refine yv_step (by omega) hf2 hm (yv_k202 (p := p) (w := O p) (by omega) c.1 c2 c.2.2 ow h58 (by omega) dl (by omega) (fun I' f d a e1 e2 => xa_t (nI_pos' (by omega)) ?_))
  rw [show s0 + (x.2.1.length + 1) + 1 = s0 + (x.2.1.length + 2) by omega]
  exact hS s [(p, O p)] (O p) rfl (m - 1) I' (by omega) (yv_SN_f f) (yv_St_N st f) (xv_B_m hB (by omega)) (fun j hj => a j (by omega)) e1 e2 d (by simp)
theorem yv_St_T {I I' : pI} {s : xp_S} (h : yv_St g I o now its V s) (f1 : ∀ p k, p ≠ 121 → I' p k = I p k) (f2 : ∀ k, k ≠ 58 → k ≠ 59 → k ≠ 60 → I' 121 k = I 121 k) : yv_St g I' o now its V s := by
  obtain ⟨a, b, c, d, e⟩ := h
  refine ⟨?_, fun v hv => ?_, ?_, ?_, fun hg j it hj h7 => ?_⟩
  · rw [f2 _ (by omega) (by omega) (by omega)]; exact a
  · rw [f1 _ _ (by omega)]; exact b v hv
  · rw [f1 _ _ (by omega)]; exact c
  · rw [f1 _ _ (by omega)]; exact d
  · rw [f1 _ _ (by omega)]; exact e hg j it hj h7
theorem yv_fr_T {I I' : pI} (f1 : ∀ p k, p ≠ 121 → I' p k = I p k) (f2 : ∀ k, k ≠ 58 → k ≠ 59 → k ≠ 60 → I' 121 k = I 121 k) : xa_fr (yv_S now) I I' := by
  intro p k hp
  simp only [yv_S, Bool.or_eq_false_iff, Bool.and_eq_false_iff, beq_eq_false_iff_ne] at hp
  by_cases h : p = 121
  · subst h; exact f2 k (by omega) (by omega) (by omega)
  · exact f1 p k h
theorem yv_bin (hE : ∀ I I', xa_fr (yv_S now) I I' → E I → E I') {x y : xp_X} (oo p : Nat) (h2 : 2 ≤ lv) (h4 : lv ≤ 4) (hlev : xp_lev oo = lv) (ihx : yv_EV g o now its R V O A E lv dp x) (ihy : yv_EV g o now its R V O A E (lv + 1) dp y) : yv_EV g o now its R V O A E lv dp (xp_bin oo x y p) := by
  intro f2 K Q s0 t m I s b D0 hlv hdp ht hf hf2 hm cd oC ci hEI st hB hbb h58 dl hD hS hF
  have hl : (xp_bin oo x y p).2.1.length = x.2.1.length + y.2.1.length + 1 := by simp [xp_bin]; omega
  rw [hl] at hS hF hf hbb hD
  obtain ⟨cd12, cd3⟩ := yv_CD_sp (c := x.2.1 ++ y.2.1) (d := [(xt_ka oo, 0, 0, p)]) cd
  obtain ⟨cd1, cd2⟩ := yv_CD_sp cd12
  obtain ⟨oc12, _⟩ := yv_OG_sp (c := x.2.1 ++ y.2.1) (d := [(xt_ka oo, 0, 0, p)]) oC
  obtain ⟨oc1, oc2⟩ := yv_OG_sp oc12
  obtain ⟨ci12, ci3⟩ := yv_CI_sp (c := x.2.1 ++ y.2.1) (d := [(xt_ka oo, 0, 0, p)]) ci
  obtain ⟨ci1, ci2⟩ := yv_CI_sp ci12
  refine ihx f2 K Q s0 t m I s b D0 (by omega) (by omega) (by omega) (by omega) hf2 hm cd1 oc1 ci1 hEI st hB (by omega) h58 dl (by omega) (fun s1 D v hd m1 I1 hm1 f1 st1 hB1 hj hv h71 dl1 hD1 => ?_) (fun s' D e hd I' f1 st1 hB1 ha hb h23 => ?_)
  · refine ihy f2 K Q (s0 + x.2.1.length) (t + 1) m1 I1 s1 _ _ (by omega) (by omega) (by omega) (by omega) hf2 hm1 (yv_CD_S cd2 f1) (yv_OG_S oc2 f1) ci2 (hE _ _ f1 hEI) st1 hB1 (by omega) h71 dl1 (by rw [List.length_append]; omega) (fun s3 D3 v3 hd3 m3 I3 hm3 f3 st3 hB3 hj3 hv3 h73 dl3 hD3 => ?_) (fun s' D' e hd' I' f3 st3 hB3 ha hb h23 => ?_)
    · have c := (yv_CD_cn (d := []) (yv_CD_S (yv_CD_S cd3 f1) f3)).1
      rw [List.length_append, ← Nat.add_assoc] at c
      have e1 : I3 158 t = v := by rw [hj3 t (by omega), hv]
      refine yv_step (by omega) hf2 hm3 (yv_kB (p := p) (by omega) c.1 c.2.2 hlev h2 h4 (yv_reckon (t := t) hlev h2 h4 h73 (by omega) dl3 (by rw [List.length_append, List.length_append]; omega) (fun w2 hw I4 f4 d4 a4 b4 t4 => xa_f' (by decide) (xa_t (nI_pos' (by omega)) ?_)) (fun hw I4 f4 g4 t1 t2 => xa_t' rfl (xa_f (by decide) ?_))))
      · rw [e1, hv3] at hw
        rw [show s0 + x.2.1.length + y.2.1.length + 1 = s0 + (x.2.1.length + y.2.1.length + 1) by omega]
        refine hS s3 (D ++ D3 ++ [(p, w2)]) w2 ?_ (m3 - 1) I4 (by omega) (xa_fr_t f1 (xa_fr_t f3 (yv_SN_f f4))) (yv_St_N st3 f4) (xv_B_m hB3 (by omega)) (fun j hj' => ?_) b4 t4 (by rw [← List.append_assoc, ← List.append_assoc]; exact d4) (by simp; omega)
        · show xp_bin1 oo x.2.2.1 y.2.2.1 p A V O s = _
          unfold xp_bin1; rw [hd]; simp only; rw [hd3]; simp only; rw [hw]
        · rw [a4 j (by omega), hj3 j (by omega), hj j hj']
      · rw [e1, hv3] at hw
        refine hF s3 (D ++ D3) (3, p) ?_ I4 (xa_fr_t f1 (xa_fr_t f3 (yv_fr_T f4 g4))) (yv_St_T st3 f4 g4) (xv_B_m hB3 (by omega)) t1 t2 (Or.inr rfl)
        show xp_bin1 oo x.2.2.1 y.2.2.1 p A V O s = _
        unfold xp_bin1; rw [hd]; simp only; rw [hd3]; simp only; rw [hw]
    · refine hF s' (D ++ D') e ?_ I' (xa_fr_t f1 f3) st3 (xv_B_m hB3 (by omega)) ha hb h23
      show xp_bin1 oo x.2.2.1 y.2.2.1 p A V O s = _
      unfold xp_bin1; rw [hd]; simp only; rw [hd']
  · refine hF s' D e ?_ I' f1 st1 (xv_B_m hB1 (by omega)) ha hb h23
    show xp_bin1 oo x.2.2.1 y.2.2.1 p A V O s = _
    unfold xp_bin1; rw [hd]
theorem yv_lg (hE : ∀ I I', xa_fr (yv_S now) I I' → E I → E I') {x y : xp_X} (oo p : Nat) (h2 : lv < 2) (hlev : xp_lev oo = lv) (ihx : yv_EV g o now its R V O A E lv dp x) (ihy : yv_EV g o now its R V O A E (lv + 1) dp y) : yv_EV g o now its R V O A E lv dp (xp_lg oo x y p) := by
  intro f2 K Q s0 t m I s b D0 hlv hdp ht hf hf2 hm cd oC ci hEI st hB hbb h58 dl hD hS hF
  have ho := xv_lgo hlev h2
  have hl : (xp_lg oo x y p).2.1.length = x.2.1.length + y.2.1.length + 2 := by simp [xp_lg]; omega
  rw [hl] at hS hF hf hbb hD
  have hcode : (xp_lg oo x y p).2.1 = x.2.1 ++ ((205, 0, y.2.1.length + 1, p) :: (y.2.1 ++ [(xt_ka oo, 0, 0, p)])) := by simp [xp_lg]
  rw [hcode] at cd oC ci
  obtain ⟨cd1, cd2⟩ := yv_CD_sp cd
  obtain ⟨oc1, oc2⟩ := yv_OG_sp oC
  obtain ⟨ci1, ci2⟩ := yv_CI_sp ci
  refine ihx f2 K Q s0 t m I s b D0 (by omega) (by omega) (by omega) (by omega) hf2 hm cd1 oc1 ci1 hEI st hB (by omega) h58 dl (by omega) (fun s1 D v hd m1 I1 hm1 f1 st1 hB1 hj hv h71 dl1 hD1 => ?_) (fun s' D e hd I' f1 st1 hB1 ha hb h23 => ?_)
  · obtain ⟨c, cd3⟩ := yv_CD_cn (yv_CD_S cd2 f1)
    obtain ⟨cd4, cd5⟩ := yv_CD_sp cd3
    have c5 := (yv_CD_cn (d := []) cd5).1
    have c2 := c.2.1
    simp only at c2
    rw [if_neg (by omega)] at c2
    have oc3 := (yv_OG_sp (c := [(205, 0, y.2.1.length + 1, p)]) (d := y.2.1 ++ [(xt_ka oo, 0, 0, p)]) (yv_OG_S oc2 f1)).2
    obtain ⟨oc4, _⟩ := yv_OG_sp oc3
    obtain ⟨ci4, ci5⟩ := yv_CI_sp (yv_CI_cn ci2).2
    refine yv_step (by omega) hf2 hm1 (yv_k205 (t := t) (p := p) (o := oo) (by omega) ho c.1 c2 (by omega) ?_ c.2.2 h71 (by omega) dl1 (by rw [List.length_append]; omega) (fun hdec I2 f2' d2 a2 b2 t2 => xa_t (nI_pos' (by omega)) ?_) (fun hdec I2 f2' d2 a2 t2 => xa_t (nI_pos' (by omega)) ?_))
    · rw [show s0 + x.2.1.length + (y.2.1.length + 1) = s0 + x.2.1.length + 1 + y.2.1.length by omega]; exact c5.1
    · rw [hv] at hdec b2 d2
      rw [show s0 + x.2.1.length + (y.2.1.length + 1) + 1 = s0 + (x.2.1.length + y.2.1.length + 2) by omega]
      refine hS s1 (D ++ [(p, xp_tr (v ≠ 0))]) (xp_tr (v ≠ 0)) ?_ (m1 - 1) I2 (by omega) (xa_fr_t f1 (yv_SN_f f2')) (yv_St_N st1 f2') (xv_B_m hB1 (by omega)) (fun j hj' => by rw [a2 j (by omega), hj j hj']) b2 t2 (by rw [← List.append_assoc]; exact d2) (by simp; omega)
      show xp_lg1 oo x.2.2.1 y.2.2.1 p A V O s = _
      unfold xp_lg1; rw [hd]; simp only
      rw [if_pos hdec]
    · rw [hv] at hdec
      have f12 := xa_fr_t f1 (yv_SN_f (now := now) f2')
      refine ihy f2 K Q (s0 + x.2.1.length + 1) t (m1 - 1) I2 s1 _ _ (by omega) (by omega) (by omega) (by omega) hf2 (by omega) (yv_CD_S cd4 (yv_SN_f (now := now) f2')) (yv_OG_S oc4 (yv_SN_f (now := now) f2')) ci4 (hE _ _ f12 hEI) (yv_St_N st1 f2') hB1 (by omega) t2 d2 (by rw [List.length_append]; omega) (fun s3 D3 v3 hd3 m3 I3 hm3 f3 st3 hB3 hj3 hv3 h73 dl3 hD3 => ?_) (fun s' D' e hd' I' f3 st3 hB3 ha hb h23 => ?_)
      · have c6 := (yv_CD_cn (d := []) (yv_CD_S (yv_CD_S cd5 (yv_SN_f (now := now) f2')) f3)).1
        refine yv_step (by omega) hf2 hm3 (yv_kL (t := t) (p := p) (by omega) ho c6.1 c6.2.2 h73 (by omega) dl3 (by rw [List.length_append, List.length_append]; omega) (fun I4 f4 d4 a4 b4 t4 => xa_t (nI_pos' (by omega)) ?_))
        rw [hv3] at d4 b4
        rw [show s0 + x.2.1.length + 1 + y.2.1.length + 1 = s0 + (x.2.1.length + y.2.1.length + 2) by omega]
        refine hS s3 (D ++ D3 ++ [(p, xp_tr (v3 ≠ 0))]) (xp_tr (v3 ≠ 0)) ?_ (m3 - 1) I4 (by omega) (xa_fr_t f12 (xa_fr_t f3 (yv_SN_f f4))) (yv_St_N st3 f4) (xv_B_m hB3 (by omega)) (fun j hj' => ?_) b4 t4 (by rw [← List.append_assoc, ← List.append_assoc]; exact d4) (by simp; omega)
        · show xp_lg1 oo x.2.2.1 y.2.2.1 p A V O s = _
          unfold xp_lg1; rw [hd]; simp only; rw [if_neg (by rw [hdec]; decide), hd3]
        · rw [a4 j (by omega), hj3 j hj', a2, hj j hj']
      · refine hF s' (D ++ D') e ?_ I' (xa_fr_t f12 f3) st3 (xv_B_m hB3 (by omega)) ha hb h23
        show xp_lg1 oo x.2.2.1 y.2.2.1 p A V O s = _
        unfold xp_lg1; rw [hd]; simp only; rw [if_neg (by rw [hdec]; decide), hd']
  · refine hF s' D e ?_ I' f1 st1 (xv_B_m hB1 (by omega)) ha hb h23
    show xp_lg1 oo x.2.2.1 y.2.2.1 p A V O s = _
    unfold xp_lg1; rw [hd]
/-- what the grammar derives is evaluated so -/
theorem yv_evD {kd nm pl : Nat → Nat} (hnow : now < 6) (hE : ∀ I I', xa_fr (yv_S now) I I' → E I → E I') (hA : yv_HA g o now its R V A E) (hBA : xv_HB A) {p p' : Nat} {ok : Bool} {x : xp_X} (h : xf_D kd nm pl lv dp ok p p' x) : yv_EV g o now its R V O A E lv dp x :=
  h (fun lv dp _ _ _ x => yv_EV g o now its R V O A E lv dp x) ⟨fun _ _ _ _ => yv_num _ _, fun _ _ _ _ => yv_var hnow _ _, fun _ _ _ _ _ h4 _ ih => yv_neg _ h4 ih, fun _ _ _ _ _ h4 _ ih => yv_not _ h4 ih, fun _ _ _ _ _ h4 _ _ ih => yv_par h4 ih, fun _ _ _ _ _ h4 _ _ _ ih => yv_call hE hA hBA _ _ h4 ih, fun _ _ _ _ _ _ _ _ _ => yv_old _ _, fun _ _ _ _ _ _ h4 ih => yv_up h4 ih, fun _ _ _ _ _ _ _ _ h2 h4 hl ihx ihy => yv_bin hE _ _ h2 h4 hl ihx ihy, fun _ _ _ _ _ _ _ _ h2 hl ihx ihy => yv_lg hE _ _ h2 hl ihx ihy⟩
end
