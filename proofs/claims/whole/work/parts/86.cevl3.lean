/-- the stand-ins' contract -/
def xv_HA (g : Bool) (oc : Nat) (R : pR) (V : Nat → Int32) (A : xp_A) (E : pI → Prop) : Prop := ∀ (I : pI) (s : xp_S) (b m p : Nat) (v : Int32) (Q : Int32 → pI → pR → Prop), E I → xv_St g I oc V s → xv_B b s → b < 1000000000 → m ≤ 1 → p < 120 → I 115 11 = 0 →
  (∀ w, (A s m v).2 = some w → ∀ I', xa_fr (xv_SC oc) I I' → xv_St g I' oc V (A s m v).1 → Q w I' R) →
  ((A s m v).2 = none → ∀ I', xa_fr (xv_SD oc) I I' → xv_St g I' oc V (A s m v).1 → I' 115 11 = 2 → I' 115 12 = nI p → Q 0 I' R) → w_ev_answer (nI m) v (nI p) I R Q
def xv_HB (A : xp_A) : Prop := ∀ s m v b, xv_B b s → m ≤ 1 → xv_B (b + 1) (A s m v).1
def xv_EV (g : Bool) (q oc : Nat) (R : pR) (V O : Nat → Int32) (A : xp_A) (E : pI → Prop) (lv dp : Nat) (x : xp_X) : Prop :=
  ∀ (f2 : Nat) (K : pI → pR → Prop) (Q : Int32 → pI → pR → Prop) (s0 t turn : Nat) (I : pI) (s : xp_S) (b : Nat), lv ≤ 5 → dp ≤ 4 → t ≤ 6 * dp + lv → turn ≤ s0 → s0 + x.1.length ≤ f2 → f2 ≤ 120 → xc_CD I q s0 x.1 → xv_OC I s0 x.1 O → xv_CI x.1 → E I → xv_St g I oc V s → xv_B b s → b + x.1.length ≤ 1000000000 → I 115 7 = nI t → I 115 11 = 0 →
  (∀ s' D v, x.2.2.1 A V O s = (s', D, .inr v) → ∀ turn' I', turn' ≤ s0 + x.1.length → xa_fr (xv_S oc) I I' → xv_St g I' oc V s' → xv_B (b + x.1.length) s' → (∀ j, j < t → I' 116 j = I 116 j) → I' 116 t = v → I' 115 7 = nI (t + 1) → I' 115 11 = 0 → I' 117 = xv_w1 (I 117) D → I' 118 = xv_w2 (I 118) D → l_ev_evaluate_15 (nI f2) K Q (121 - turn') (nI (s0 + x.1.length)) (nI turn') I' R) →
  (∀ s' D e, x.2.2.1 A V O s = (s', D, .inl e) → ∀ I', xa_fr (xv_S oc) I I' → xv_St g I' oc V s' → xv_B (b + x.1.length) s' → (∃ t', t' < 119 ∧ I' 115 7 = nI (t' + 1)) → I' 115 11 = nI e.1 → I' 115 12 = nI e.2 → (e.1 = 2 ∨ e.1 = 3) → K I' R) →
  l_ev_evaluate_15 (nI f2) K Q (121 - turn) (nI s0) (nI turn) I R
section
variable {q oc : Nat} {R : pR} {V O : Nat → Int32} {A : xp_A} {E : pI → Prop} {lv dp : Nat}
theorem xv_num {g : Bool} (hq : q = 54 ∨ q = 81) (hR : R 115 5 = some q) (hoc : xv_oc oc) (n p : Nat) : xv_EV g q oc R V O A E lv dp (xp_num n p) := by
  intro f2 K Q s0 t turn I s b hlv hdp ht hturn hf hf2 cd oC ci hE st hB hbb h7 h11 hS hF
  have c := (xv_CD_cn (d := []) cd).1
  have w := (xv_CI_cn (d := []) ci).1
  have hl : (xp_num n p).1.length = 1 := rfl
  rw [hl] at hS hf
  refine xv_step hturn (by omega) hf2 h11 (xv_k0 hq hR (by omega) c h7 (by omega) rfl (fun I' f a b' c' d e => ?_))
  refine hS s [] (nI n) rfl (turn + 1) I' (by omega) (xv_SN_f f) (xv_St_N hoc st f) (xv_B_m hB (by omega)) (fun j hj => c' j (by omega)) d e ?_ a b'
  rw [xv_SN_o f _ _ (by omega)]; exact h11
theorem xv_var {g : Bool} (hq : q = 54 ∨ q = 81) (hR : R 115 5 = some q) (hoc : xv_oc oc) (hR6 : R 115 6 = some oc) (v p : Nat) : xv_EV g q oc R V O A E lv dp (xp_var v p) := by
  intro f2 K Q s0 t turn I s b hlv hdp ht hturn hf hf2 cd oC ci hE st hB hbb h7 h11 hS hF
  have c := (xv_CD_cn (d := []) cd).1
  have w := (xv_CI_cn (d := []) ci).1
  have hl : (xp_var v p).1.length = 1 := rfl
  rw [hl] at hS hf
  refine xv_step hturn (by omega) hf2 h11 (xv_k1 hq hR hoc hR6 st (by omega) c h7 (by omega) rfl (w.2.2.2.1 rfl) w.2.2.1 (fun I' f a b' c' d e => ?_))
  refine hS s [(p, V v)] (V v) rfl (turn + 1) I' (by omega) (xv_SN_f f) (xv_St_N hoc st f) (xv_B_m hB (by omega)) (fun j hj => c' j (by omega)) d e ?_ a b'
  rw [xv_SN_o f _ _ (by omega)]; exact h11
theorem xv_neg {g : Bool} (hq : q = 54 ∨ q = 81) (hR : R 115 5 = some q) (hoc : xv_oc oc) {x : xp_X} (p : Nat) (hdp4 : dp < 4) (ih : xv_EV g q oc R V O A E 5 (dp + 1) x) : xv_EV g q oc R V O A E 5 dp (xp_neg x p) := by
  intro f2 K Q s0 t turn I s b hlv hdp ht hturn hf hf2 cd oC ci hE st hB hbb h7 h11 hS hF
  have hl : (xp_neg x p).1.length = x.1.length + 1 := by simp [xp_neg]
  rw [hl] at hS hF hf hbb
  obtain ⟨cd1, cd2⟩ := xv_CD_sp (c := x.1) (d := [(2, 0, 1, p)]) cd
  obtain ⟨oc1, _⟩ := xv_OC_sp (c := x.1) (d := [(2, 0, 1, p)]) oC
  obtain ⟨ci1, ci2⟩ := xv_CI_sp (c := x.1) (d := [(2, 0, 1, p)]) ci
  refine ih f2 K Q s0 t turn I s b (by omega) (by omega) (by omega) hturn (by omega) hf2 cd1 oc1 ci1 hE st hB (by omega) h7 h11 (fun s' D v hd turn' I' ht' f1 st1 hB1 hj hv h71 h111 g7 g8 => ?_) (fun s' D e hd I' f1 st1 hB1 htp ha hb h23 => ?_)
  · have c := (xv_CD_cn (d := []) (xv_CD_S hq hoc cd2 f1)).1
    have w := (xv_CI_cn (d := []) ci2).1
    refine xv_step (by omega) (by omega) hf2 h111 (xv_k2 hq hR (by omega) c h71 (by omega) rfl w.2.2.1 (fun I2 f a b' c' d e => ?_))
    refine hS s' (D ++ [(p, -v)]) (-v) ?_ (turn' + 1) I2 (by omega) (xa_fr_t f1 (xv_SN_f f)) (xv_St_N hoc st1 f) (xv_B_m hB1 (by omega)) (fun j hj' => by rw [c' j (by omega), hj j hj']) (by rw [d, hv]) e ?_ ?_ ?_
    · show xp_un1 (fun v => -v) x.2.2.1 p A V O s = _
      unfold xp_un1; rw [hd]
    · rw [xv_SN_o f _ _ (by omega)]; exact h111
    · rw [a, g7, xv_w1_app, hv]
    · rw [b', g8, xv_w2_app, hv]
  · refine hF s' D e ?_ I' f1 st1 (xv_B_m hB1 (by omega)) htp ha hb h23
    show xp_un1 (fun v => -v) x.2.2.1 p A V O s = _
    unfold xp_un1; rw [hd]
theorem xv_not {g : Bool} (hq : q = 54 ∨ q = 81) (hR : R 115 5 = some q) (hoc : xv_oc oc) {x : xp_X} (p : Nat) (hdp4 : dp < 4) (ih : xv_EV g q oc R V O A E 5 (dp + 1) x) : xv_EV g q oc R V O A E 5 dp (xp_not x p) := by
  intro f2 K Q s0 t turn I s b hlv hdp ht hturn hf hf2 cd oC ci hE st hB hbb h7 h11 hS hF
  have hl : (xp_not x p).1.length = x.1.length + 1 := by simp [xp_not]
  rw [hl] at hS hF hf hbb
  obtain ⟨cd1, cd2⟩ := xv_CD_sp (c := x.1) (d := [(3, 0, 1, p)]) cd
  obtain ⟨oc1, _⟩ := xv_OC_sp (c := x.1) (d := [(3, 0, 1, p)]) oC
  obtain ⟨ci1, ci2⟩ := xv_CI_sp (c := x.1) (d := [(3, 0, 1, p)]) ci
  refine ih f2 K Q s0 t turn I s b (by omega) (by omega) (by omega) hturn (by omega) hf2 cd1 oc1 ci1 hE st hB (by omega) h7 h11 (fun s' D v hd turn' I' ht' f1 st1 hB1 hj hv h71 h111 g7 g8 => ?_) (fun s' D e hd I' f1 st1 hB1 htp ha hb h23 => ?_)
  · have c := (xv_CD_cn (d := []) (xv_CD_S hq hoc cd2 f1)).1
    have w := (xv_CI_cn (d := []) ci2).1
    refine xv_step (by omega) (by omega) hf2 h111 (xv_k3 hq hR (by omega) c h71 (by omega) rfl w.2.2.1 (fun I2 f a b' c' d e => ?_))
    rw [hv] at a b' d
    refine hS s' (D ++ [(p, xp_tr (v = 0))]) (xp_tr (v = 0)) ?_ (turn' + 1) I2 (by omega) (xa_fr_t f1 (xv_SN_f f)) (xv_St_N hoc st1 f) (xv_B_m hB1 (by omega)) (fun j hj' => by rw [c' j (by omega), hj j hj']) d e ?_ ?_ ?_
    · show xp_un1 (fun v => xp_tr (v = 0)) x.2.2.1 p A V O s = _
      unfold xp_un1; rw [hd]
    · rw [xv_SN_o f _ _ (by omega)]; exact h111
    · rw [a, g7, xv_w1_app]
    · rw [b', g8, xv_w2_app]
  · refine hF s' D e ?_ I' f1 st1 (xv_B_m hB1 (by omega)) htp ha hb h23
    show xp_un1 (fun v => xp_tr (v = 0)) x.2.2.1 p A V O s = _
    unfold xp_un1; rw [hd]
theorem xv_par {g : Bool} {x : xp_X} (hdp4 : dp < 4) (ih : xv_EV g q oc R V O A E 0 (dp + 1) x) : xv_EV g q oc R V O A E 5 dp x := by
  intro f2 K Q s0 t turn I s b hlv hdp ht
  exact ih f2 K Q s0 t turn I s b (by omega) (by omega) (by omega)
theorem xv_up {g : Bool} {x : xp_X} (hl : lv ≤ 4) (ih : xv_EV g q oc R V O A E (lv + 1) dp x) : xv_EV g q oc R V O A E lv dp x := by
  intro f2 K Q s0 t turn I s b hlv hdp ht
  exact ih f2 K Q s0 t turn I s b (by omega) (by omega) (by omega)
theorem xv_call {g : Bool} (hq : q = 54 ∨ q = 81) (hR : R 115 5 = some q) (hoc : xv_oc oc) (hE : ∀ I I', xa_fr (xv_S oc) I I' → E I → E I') (hA : xv_HA g oc R V A E) (hBA : xv_HB A) {x : xp_X} (m p : Nat) (hdp4 : dp < 4) (ih : xv_EV g q oc R V O A E 0 (dp + 1) x) : xv_EV g q oc R V O A E 5 dp (xp_call m x p) := by
  intro f2 K Q s0 t turn I s b hlv hdp ht hturn hf hf2 cd oC ci hEI st hB hbb h7 h11 hS hF
  have hl : (xp_call m x p).1.length = x.1.length + 1 := by simp [xp_call]
  rw [hl] at hS hF hf hbb
  obtain ⟨cd1, cd2⟩ := xv_CD_sp (c := x.1) (d := [(4, m, 1, p)]) cd
  obtain ⟨oc1, _⟩ := xv_OC_sp (c := x.1) (d := [(4, m, 1, p)]) oC
  obtain ⟨ci1, ci2⟩ := xv_CI_sp (c := x.1) (d := [(4, m, 1, p)]) ci
  refine ih f2 K Q s0 t turn I s b (by omega) (by omega) (by omega) hturn (by omega) hf2 cd1 oc1 ci1 hEI st hB (by omega) h7 h11 (fun s' D v hd turn' I' ht' f1 st1 hB1 hj hv h71 h111 g7 g8 => ?_) (fun s' D e hd I' f1 st1 hB1 htp ha hb h23 => ?_)
  · have c := (xv_CD_cn (d := []) (xv_CD_S hq hoc cd2 f1)).1
    have w := (xv_CI_cn (d := []) ci2).1
    have hm : m ≤ 1 := w.2.2.2.2 rfl
    refine xv_step (by omega) (by omega) hf2 h111 (xv_k4 hq hR (by omega) c h71 (by omega) rfl (fun I2 f a b' c' e => ?_))
    rw [hv]
    have st2 := xv_St_N hoc st1 f
    have hB2 := hBA s' m v _ hB1 hm
    unfold xv_oc at hoc
    refine hA I2 s' (b + x.1.length) m p v _ (hE _ _ (xa_fr_t f1 (xv_SN_f f)) hEI) st2 hB1 (by omega) hm w.2.2.1 ?_ (fun w2 hw I3 f3 st3 => ?_) (fun hw I3 f3 st3 h3a h3b => ?_)
    · rw [xv_SN_o f _ _ (by omega)]; exact h111
    · refine xv_note (t := t) ?_ (by omega) w.2.2.1 (fun I4 f4 a4 b4 c4 d4 e4 => ?_)
      · rw [xv_SC_o f3 _ _ (by omega)]; exact e
      have g6 : ∀ k, I3 116 k = I' 116 k := fun k => by rw [xv_SC_o f3 _ _ (by omega), c']
      refine hS (A s' m v).1 (D ++ [(p, w2)]) w2 ?_ (turn' + 1) I4 (by omega) (xa_fr_t f1 (xa_fr_t (xv_SN_f f) (xa_fr_t (xv_SC_f f3) (xv_SN_f f4)))) (xv_St_N hoc st3 f4) hB2 (fun j hj' => by rw [c4 j (by omega), g6, hj j hj']) d4 e4 ?_ ?_ ?_
      · show xp_call1 m x.2.2.1 p A V O s = _
        unfold xp_call1; rw [hd]; simp only
        rw [show A s' m v = ((A s' m v).1, some w2) from by rw [← hw]]
      · rw [xv_SN_o f4 _ _ (by omega), xv_SC_o f3 _ _ (by omega), xv_SN_o f _ _ (by omega)]; exact h111
      · rw [a4, show I3 117 = I2 117 from funext (fun k => xv_SC_o f3 _ _ (by omega)), a, g7, xv_w1_app]
      · rw [b4, show I3 118 = I2 118 from funext (fun k => xv_SC_o f3 _ _ (by omega)), b', g8, xv_w2_app]
    · refine xv_note (t := t) ?_ (by omega) w.2.2.1 (fun I4 f4 a4 b4 c4 d4 e4 => ?_)
      · rw [xv_SD_o f3 _ _ (by omega)]; exact e
      have h411 : I4 115 11 = 2 := by rw [xv_SN_o f4 _ _ (by omega)]; exact h3a
      refine xv_stp (by omega) (by rw [h411]; decide) ?_
      refine hF (A s' m v).1 D (2, p) ?_ I4 (xa_fr_t f1 (xa_fr_t (xv_SN_f f) (xa_fr_t (xv_SD_f f3) (xv_SN_f f4)))) (xv_St_N hoc st3 f4) hB2 ⟨t, by omega, e4⟩ h411 ?_ (Or.inl rfl)
      · show xp_call1 m x.2.2.1 p A V O s = _
        unfold xp_call1; rw [hd]; simp only
        rw [show A s' m v = ((A s' m v).1, none) from by rw [← hw]]
      · rw [xv_SN_o f4 _ _ (by omega)]; exact h3b
  · refine hF s' D e ?_ I' f1 st1 (xv_B_m hB1 (by omega)) htp ha hb h23
    show xp_call1 m x.2.2.1 p A V O s = _
    unfold xp_call1; rw [hd]
theorem xv_old {g : Bool} (hq : q = 54 ∨ q = 81) (hR : R 115 5 = some q) (hoc : xv_oc oc) (x : xp_X) (p : Nat) : xv_EV g q oc R V O A E lv dp (xp_old x p) := by
  intro f2 K Q s0 t turn I s b hlv hdp ht hturn hf hf2 cd oC ci hE st hB hbb h7 h11 hS hF
  have hl : (xp_old x p).1.length = x.1.length + 1 := by simp [xp_old]
  have c := (xv_CD_cn (d := x.1) cd).1
  have w := (xv_CI_cn (d := x.1) ci).1
  have o := oC 0 _ rfl rfl
  rw [hl] at hS hf
  refine xv_step hturn (by omega) hf2 h11 (xv_k5 hq hR (by omega) c h7 (by omega) rfl w.2.2.1 (fun I' f a b' c' d e => ?_))
  rw [show I 119 s0 = O p from o] at a b' d
  refine hS s [(p, O p)] (O p) rfl (turn + 1) I' (by omega) (xv_SN_f f) (xv_St_N hoc st f) (xv_B_m hB (by omega)) (fun j hj => c' j (by omega)) d e ?_ a b'
  rw [xv_SN_o f _ _ (by omega)]; exact h11
theorem xv_bin {g : Bool} (hq : q = 54 ∨ q = 81) (hR : R 115 5 = some q) (hoc : xv_oc oc) (hE : ∀ I I', xa_fr (xv_S oc) I I' → E I → E I') {x y : xp_X} (o p : Nat) (h2 : 2 ≤ lv) (h4 : lv ≤ 4) (hlev : xp_lev o = lv) (ihx : xv_EV g q oc R V O A E lv dp x) (ihy : xv_EV g q oc R V O A E (lv + 1) dp y) : xv_EV g q oc R V O A E lv dp (xp_bin o x y p) := by
  intro f2 K Q s0 t turn I s b hlv hdp ht hturn hf hf2 cd oC ci hEI st hB hbb h7 h11 hS hF
  have hl : (xp_bin o x y p).1.length = x.1.length + y.1.length + 1 := by simp [xp_bin]; omega
  rw [hl] at hS hF hf hbb
  obtain ⟨cd12, cd3⟩ := xv_CD_sp (c := x.1 ++ y.1) (d := [(7, o, 1, p)]) cd
  obtain ⟨cd1, cd2⟩ := xv_CD_sp cd12
  obtain ⟨oc12, _⟩ := xv_OC_sp (c := x.1 ++ y.1) (d := [(7, o, 1, p)]) oC
  obtain ⟨oc1, oc2⟩ := xv_OC_sp oc12
  obtain ⟨ci12, ci3⟩ := xv_CI_sp (c := x.1 ++ y.1) (d := [(7, o, 1, p)]) ci
  obtain ⟨ci1, ci2⟩ := xv_CI_sp ci12
  have w := (xv_CI_cn (d := []) ci3).1
  refine ihx f2 K Q s0 t turn I s b (by omega) (by omega) (by omega) hturn (by omega) hf2 cd1 oc1 ci1 hEI st hB (by omega) h7 h11 (fun s1 D v hd turn1 I1 ht1 f1 st1 hB1 hj hv h71 h111 g7 g8 => ?_) (fun s' D e hd I' f1 st1 hB1 htp ha hb h23 => ?_)
  · refine ihy f2 K Q (s0 + x.1.length) (t + 1) turn1 I1 s1 _ (by omega) (by omega) (by omega) ht1 (by omega) hf2 (xv_CD_S hq hoc cd2 f1) (xv_OC_S hoc oc2 f1) ci2 (hE _ _ f1 hEI) st1 hB1 (by omega) h71 h111 (fun s3 D3 v3 hd3 turn3 I3 ht3 f3 st3 hB3 hj3 hv3 h73 h113 g73 g83 => ?_) (fun s' D' e hd' I' f3 st3 hB3 htp ha hb h23 => ?_)
    · have c := (xv_CD_cn (d := []) (xv_CD_S hq hoc (xv_CD_S hq hoc cd3 f1) f3)).1
      rw [List.length_append, ← Nat.add_assoc] at c
      refine xv_step ht3 (by omega) hf2 h113 (xv_k7 (t := t) hq hR (by omega) c h73 (by omega) rfl (fun I4 f4 a4 b4 c4 e4 => ?_))
      have e1 : I3 116 t = v := by rw [hj3 t (by omega), hv]
      rw [e1, hv3]
      have fin4 := xa_fr_t f1 (xa_fr_t f3 (xv_SN_f (oc := oc) f4))
      refine xv_operate hlev h2 h4 (fun w2 hw => ?_) (fun hw => ?_)
      · refine xv_note (t := t) e4 (by omega) w.2.2.1 (fun I5 f5 a5 b5 c5 d5 e5 => ?_)
        rw [show s0 + x.1.length + y.1.length + 1 = s0 + (x.1.length + y.1.length + 1) by omega]
        refine hS s3 (D ++ D3 ++ [(p, w2)]) w2 ?_ (turn3 + 1) I5 (by omega) (xa_fr_t fin4 (xv_SN_f f5)) (xv_St_N hoc (xv_St_N hoc st3 f4) f5) (xv_B_m hB3 (by omega)) (fun j hj' => ?_) d5 e5 ?_ ?_ ?_
        · show xp_bin1 o x.2.2.1 y.2.2.1 p A V O s = _
          unfold xp_bin1; rw [hd]; simp only; rw [hd3]; simp only; rw [hw]
        · rw [c5 j (by omega), c4, hj3 j (by omega), hj j hj']
        · rw [xv_SN_o f5 _ _ (by omega), xv_SN_o f4 _ _ (by omega)]; exact h113
        · rw [a5, a4, g73, g7, xv_w1_app, xv_w1_app]
        · rw [b5, b4, g83, g8, xv_w2_app, xv_w2_app]
      · refine xv_note (t := t) (by rw [xa_w, if_neg (by decide), xa_w, if_neg (by decide)]; exact e4) (by omega) w.2.2.1 (fun I5 f5 a5 b5 c5 d5 e5 => ?_)
        have f45 : xa_fr (xv_S oc) I4 (pw_wI (pw_wI I4 115 11 3) 115 12 (nI p)) := xa_fr_w (xa_fr_w (xa_fr_r _ _) rfl) rfl
        have h511 : I5 115 11 = 3 := by rw [xv_SN_o f5 _ _ (by omega), xa_w, if_neg (by decide), xa_w, if_pos ⟨rfl, rfl⟩]
        refine xv_stp (by omega) (by rw [h511]; decide) ?_
        refine hF s3 (D ++ D3) (3, p) ?_ I5 (xa_fr_t fin4 (xa_fr_t f45 (xv_SN_f f5))) (xv_St_N hoc ?_ f5) (xv_B_m hB3 (by omega)) ⟨t, by omega, e5⟩ h511 ?_ (Or.inr rfl)
        · show xp_bin1 o x.2.2.1 y.2.2.1 p A V O s = _
          unfold xp_bin1; rw [hd]; simp only; rw [hd3]; simp only; rw [hw]
        · have := xv_St_N hoc st3 f4
          unfold xv_oc at hoc
          refine ⟨fun v hv => ?_, ?_, ?_, fun hg r hr => ?_⟩
          · rw [xa_p (by omega), xa_p (by omega)]; exact this.1 v hv
          · rw [xa_p (by omega), xa_p (by omega)]; exact this.2.1
          · rw [xa_p (by omega), xa_p (by omega)]; exact this.2.2.1
          · rw [xa_p (by omega), xa_p (by omega)]; exact this.2.2.2 hg r hr
        · rw [xv_SN_o f5 _ _ (by omega), xa_w, if_pos ⟨rfl, rfl⟩]
    · refine hF s' (D ++ D') e ?_ I' (xa_fr_t f1 f3) st3 (xv_B_m hB3 (by omega)) htp ha hb h23
      show xp_bin1 o x.2.2.1 y.2.2.1 p A V O s = _
      unfold xp_bin1; rw [hd]; simp only; rw [hd']
  · refine hF s' D e ?_ I' f1 st1 (xv_B_m hB1 (by omega)) htp ha hb h23
    show xp_bin1 o x.2.2.1 y.2.2.1 p A V O s = _
    unfold xp_bin1; rw [hd]
theorem xv_lgo {o : Nat} (hlev : xp_lev o = lv) (h2 : lv < 2) : o = 264 ∨ o = 265 := by
  unfold xp_lev at hlev
  repeat' split at hlev
  all_goals omega
theorem xv_lg {g : Bool} (hq : q = 54 ∨ q = 81) (hR : R 115 5 = some q) (hoc : xv_oc oc) (hE : ∀ I I', xa_fr (xv_S oc) I I' → E I → E I') {x y : xp_X} (o p : Nat) (h2 : lv < 2) (hlev : xp_lev o = lv) (ihx : xv_EV g q oc R V O A E lv dp x) (ihy : xv_EV g q oc R V O A E (lv + 1) dp y) : xv_EV g q oc R V O A E lv dp (xp_lg o x y p) := by
  intro f2 K Q s0 t turn I s b hlv hdp ht hturn hf hf2 cd oC ci hEI st hB hbb h7 h11 hS hF
  have ho := xv_lgo hlev h2
  have hl : (xp_lg o x y p).1.length = x.1.length + y.1.length + 2 := by simp [xp_lg]; omega
  rw [hl] at hS hF hf hbb
  have hcode : (xp_lg o x y p).1 = x.1 ++ ((6, o, y.1.length + 2, p) :: (y.1 ++ [(7, o, 1, p)])) := by simp [xp_lg]
  rw [hcode] at cd oC ci
  obtain ⟨cd1, cd2⟩ := xv_CD_sp cd
  obtain ⟨oc1, oc2⟩ := xv_OC_sp oC
  obtain ⟨ci1, ci2⟩ := xv_CI_sp ci
  have w := (xv_CI_cn ci2).1
  refine ihx f2 K Q s0 t turn I s b (by omega) (by omega) (by omega) hturn (by omega) hf2 cd1 oc1 ci1 hEI st hB (by omega) h7 h11 (fun s1 D v hd turn1 I1 ht1 f1 st1 hB1 hj hv h71 h111 g7 g8 => ?_) (fun s' D e hd I' f1 st1 hB1 htp ha hb h23 => ?_)
  · obtain ⟨c, cd3⟩ := xv_CD_cn (xv_CD_S hq hoc cd2 f1)
    refine xv_step ht1 (by omega) hf2 h111 (xv_k6 (t := t) hq hR (by omega) c h71 (by omega) rfl ho w.2.2.1 (fun hdec I2 f2' a b' c' d e => ?_) (fun hdec => ?_))
    · rw [hv] at hdec a b' d
      show l_ev_evaluate_15 _ _ _ _ (nI (s0 + x.1.length + (y.1.length + 2))) _ _ _
      rw [show s0 + x.1.length + (y.1.length + 2) = s0 + (x.1.length + y.1.length + 2) by omega]
      refine hS s1 (D ++ [(p, xp_tr (v ≠ 0))]) (xp_tr (v ≠ 0)) ?_ (turn1 + 1) I2 (by omega) (xa_fr_t f1 (xv_SN_f f2')) (xv_St_N hoc st1 f2') (xv_B_m hB1 (by omega)) (fun j hj' => by rw [c' j (by omega), hj j hj']) d e ?_ ?_ ?_
      · show xp_lg1 o x.2.2.1 y.2.2.1 p A V O s = _
        unfold xp_lg1; rw [hd]; simp only
        rw [if_pos hdec]
      · rw [xv_SN_o f2' _ _ (by omega)]; exact h111
      · rw [a, g7, xv_w1_app]
      · rw [b', g8, xv_w2_app]
    · rw [hv] at hdec
      have oc3 := (xv_OC_sp (c := [(6, o, y.1.length + 2, p)]) (d := y.1 ++ [(7, o, 1, p)]) (xv_OC_S hoc oc2 f1)).2
      obtain ⟨cd4, cd5⟩ := xv_CD_sp cd3
      obtain ⟨oc4, _⟩ := xv_OC_sp oc3
      obtain ⟨ci4, ci5⟩ := xv_CI_sp (xv_CI_cn ci2).2
      refine ihy f2 K Q (s0 + x.1.length + 1) (t + 1) (turn1 + 1) I1 s1 _ (by omega) (by omega) (by omega) (by omega) (by omega) hf2 cd4 oc4 ci4 (hE _ _ f1 hEI) st1 hB1 (by omega) h71 h111 (fun s3 D3 v3 hd3 turn3 I3 ht3 f3 st3 hB3 hj3 hv3 h73 h113 g73 g83 => ?_) (fun s' D' e hd' I' f3 st3 hB3 htp ha hb h23 => ?_)
      · have c5 := (xv_CD_cn (d := []) (xv_CD_S hq hoc cd5 f3)).1
        refine xv_step ht3 (by omega) hf2 h113 (xv_k7 (t := t) hq hR (by omega) c5 h73 (by omega) rfl (fun I4 f4 a4 b4 c4 e4 => ?_))
        rw [hv3]
        refine xv_operateL ho ?_
        refine xv_note (t := t) e4 (by omega) w.2.2.1 (fun I5 f5 a5 b5 c5 d5 e5 => ?_)
        rw [show s0 + x.1.length + 1 + y.1.length + 1 = s0 + (x.1.length + y.1.length + 2) by omega]
        refine hS s3 (D ++ D3 ++ [(p, xp_tr (v3 ≠ 0))]) (xp_tr (v3 ≠ 0)) ?_ (turn3 + 1) I5 (by omega) (xa_fr_t f1 (xa_fr_t f3 (xa_fr_t (xv_SN_f f4) (xv_SN_f f5)))) (xv_St_N hoc (xv_St_N hoc st3 f4) f5) (xv_B_m hB3 (by omega)) (fun j hj' => ?_) d5 e5 ?_ ?_ ?_
        · show xp_lg1 o x.2.2.1 y.2.2.1 p A V O s = _
          unfold xp_lg1; rw [hd]; simp only; rw [if_neg (by rw [hdec]; decide), hd3]
        · rw [c5 j (by omega), c4, hj3 j (by omega), hj j hj']
        · rw [xv_SN_o f5 _ _ (by omega), xv_SN_o f4 _ _ (by omega)]; exact h113
        · rw [a5, a4, g73, g7, xv_w1_app, xv_w1_app]
        · rw [b5, b4, g83, g8, xv_w2_app, xv_w2_app]
      · refine hF s' (D ++ D') e ?_ I' (xa_fr_t f1 f3) st3 (xv_B_m hB3 (by omega)) htp ha hb h23
        show xp_lg1 o x.2.2.1 y.2.2.1 p A V O s = _
        unfold xp_lg1; rw [hd]; simp only; rw [if_neg (by rw [hdec]; decide), hd']
  · refine hF s' D e ?_ I' f1 st1 (xv_B_m hB1 (by omega)) htp ha hb h23
    show xp_lg1 o x.2.2.1 y.2.2.1 p A V O s = _
    unfold xp_lg1; rw [hd]
end
