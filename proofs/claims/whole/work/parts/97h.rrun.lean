/-! THE REFERENCE RUNS: PERFORMING, STEPS -/
theorem yv_perform {g : Bool} {o now : Nat} {its : List xi_I} {R : pR} {V O : Nat → Int32} {A : xp_A} {E : pI → Prop} {lv dp s0 b : Nat} {x : xp_X} {I : pI} {s : xp_S} {Q : Int32 → pI → pR → Prop} (ev : yv_EV g o now its R V O A E lv dp x) (hlv : lv ≤ 5) (hdp : dp ≤ 4) (hs : s0 + x.2.1.length ≤ 800) (hx : x.2.1.length ≤ 200) (cd : xr_CD I s0 x.2.1) (oC : yv_OG I s0 x.2.1 O) (ci : yv_CI x.2.1) (hES : ∀ I I', xa_fr (yv_S now) I I' → E I → E I') (hE : E I) (st : yv_St g I o now its V s) (hB : xv_B b s) (hb : b + x.2.1.length ≤ 1000000000)
    (h1 : ∀ s' D v, x.2.2.1 A V O s = (s', D, .inr v) → ∀ I', xa_fr (yv_S now) I I' → yv_St g I' o now its V s' → xv_B (b + x.2.1.length) s' → I' 158 0 = v → yv_DL I' D → Q 1 I' R)
    (h2 : ∀ s' D e, x.2.2.1 A V O s = (s', D, .inl e) → ∀ I', xa_fr (yv_S now) I I' → yv_St g I' o now its V s' → xv_B (b + x.2.1.length) s' → I' 121 59 = nI e.1 → I' 121 60 = nI e.2 → (e.1 = 2 ∨ e.1 = 3) → Q 0 I' R) : w_md_perform (nI s0) (nI (s0 + x.2.1.length)) I R Q := by
  unfold w_md_perform
  refine xa_a (xa_a ⟨x.2.1.length + 1, ?_⟩)
  have f1 : xa_fr yv_SN I (pw_wI (pw_wI I 121 58 0) 121 65 0) := xa_fr_w (xa_fr_w (xa_fr_r _ _) rfl) rfl
  have t58 : (pw_wI (pw_wI I 121 58 0) 121 65 0) 121 58 = nI 0 := by rw [xa_w, if_neg (by decide), xa_w, if_pos ⟨rfl, rfl⟩]; rfl
  have dl : yv_DL (pw_wI (pw_wI I 121 58 0) 121 65 0) [] := ⟨by rw [xa_w, if_pos ⟨rfl, rfl⟩]; rfl, fun j e hj => by simp at hj⟩
  generalize pw_wI (pw_wI I 121 58 0) 121 65 0 = I1 at *
  have f1' := yv_SN_f (now := now) f1
  refine ev (s0 + x.2.1.length) _ _ s0 0 (x.2.1.length + 1) I1 s b [] hlv hdp (by omega) (by omega) hs (by omega) (yv_CD_S cd f1') (yv_OG_S oC f1') ci (hES _ _ f1' hE) (yv_St_N st f1) hB hb t58 dl (by simpa using hx) (fun s' D v hd m' I2 hm' f2 st2 hB2 hj hv h72 dl2 hD2 => ?_) (fun s' D e hd I2 f2 st2 hB2 ha hb2 h23 => ?_)
  · rw [show m' = (m' - 1) + 1 by omega]
    unfold l_md_perform_12
    exact xa_t ((nI_leI (by omega) (by omega)).mpr (by omega)) (h1 s' D v hd I2 (xa_fr_t f1' f2) st2 hB2 hv dl2)
  · exact h2 s' D e hd I2 (xa_fr_t f1' f2) st2 hB2 ha hb2 h23
theorem yg_Gj {its : List xi_I} {j : Nat} {it : xi_I} (hj : its[j]? = some it) : (xi_G (its.take (j + 1))).length = (xi_G (its.take j)).length + (xi_x it).2.1.length ∧ (xi_G its) = xi_G (its.take j) ++ ((xi_x it).2.1 ++ xi_G (its.drop (j + 1))) := by
  have e : its.take (j + 1) = its.take j ++ [it] := by rw [List.take_add_one, hj]; rfl
  have e2 : its = its.take (j + 1) ++ its.drop (j + 1) := (List.take_append_drop (j + 1) its).symm
  refine ⟨by rw [e, xi_G_app, xi_G_one, List.length_append], ?_⟩
  conv => lhs; rw [e2, e]
  rw [xi_G_app, xi_G_app, xi_G_one, List.append_assoc]
theorem yg_GDj {I : pI} {b : Nat} {its : List xi_I} {j : Nat} {it : xi_I} (h : xr_CD I b (xi_G its)) (hj : its[j]? = some it) : xr_CD I (b + (xi_G (its.take j)).length) (xi_x it).2.1 := by
  rw [(yg_Gj hj).2] at h
  exact (yv_CD_sp (yv_CD_sp h).2).1
theorem yg_GI {ts : List (Nat × Nat × Nat × Nat)} {L : Nat} {it : xi_I} (w : xt_WF ts L) (h : xg_IX ts L it) : yv_CI (xi_x it).2.1 ∧ (∃ lv, lv ≤ 5 ∧ ∃ p p', xf_D (xt_kd ts L) (xt_nm ts L) (xt_pl ts L) lv 0 (decide (xi_k it = 4)) p p' (xi_x it)) ∧ (xi_k it ≠ 4 → ∀ e, e ∈ (xi_x it).2.1 → e.1 ≠ 202) := by
  obtain ⟨lv, p, p', hlv, hD, _, _⟩ := h
  have a := xf_all w (by omega) hD
  refine ⟨fun e he => ?_, ⟨lv, hlv, p, p', hD⟩, fun h4 => (a.2.2.2.2.1 (by simp [h4])).2.1⟩
  obtain ⟨c1, i, i1, i2, i3⟩ := a.2.2.1 e he
  refine ⟨c1, ?_⟩
  have := a.1
  rw [i3]; exact xt_pl_lt w (by omega)
/-- variables too -/
def yv_SV (now p k : Nat) : Bool := yv_S now p k || (p == 166 && decide (26 * now ≤ k) && decide (k < 26 * now + 26))
theorem yv_SV_S {now : Nat} {I I' : pI} (h : xa_fr (yv_S now) I I') : xa_fr (yv_SV now) I I' := xa_fr_m h (fun p k hp => by
  unfold yv_SV at hp; simp only [Bool.or_eq_false_iff] at hp; exact hp.1)
theorem yv_SV_o {now : Nat} {I I' : pI} (h : xa_fr (yv_SV now) I I') (p k : Nat) (hp : ¬ (p = 121 ∧ (k = 58 ∨ k = 59 ∨ k = 60 ∨ k = 65)) ∧ p ≠ 158 ∧ p ≠ 160 ∧ p ≠ 161 ∧ p ≠ 145 ∧ p ≠ 167 ∧ p ≠ 166) : I' p k = I p k := h p k (by
  simp only [yv_SV, yv_S, Bool.or_eq_false_iff, Bool.and_eq_false_iff, beq_eq_false_iff_ne]; omega)
theorem yv_E_V {o now : Nat} {F : xi_F} {a m : Nat} {I I' : pI} (f : xa_fr (yv_SV now) I I') (h : yv_E o F a m I) : yv_E o F a m I' := by
  refine ⟨yv_FM_p h.1 (fun p k hp => yv_SV_o f p k (by omega)) (yv_SV_o f _ _ (by omega)), ?_⟩
  rw [yv_SV_o f _ _ (by omega), yv_SV_o f _ _ (by omega), yv_SV_o f _ _ (by omega)]; exact h.2
section
variable {g : Bool} {o now : Nat} {F : xi_F} {R : pR} {ts : List (Nat × Nat × Nat × Nat)} {L : Nat}
theorem yv_item {V O : Nat → Int32} {fa fm b j : Nat} {it : xi_I} {I : pI} {s : xp_S} {Q : Int32 → pI → pR → Prop} (hnow : now < 6) (ho : o ≤ 1) (w : xg_W ts L F.1) (hfm : fa + fm ≤ F.1.length) (hgm : fm = 0 ∨ g = true) (hj : F.1[j]? = some it) (hk : xi_k it ≤ 4 ∨ xi_k it = 8) (oC : xi_k it = 4 → yv_OG I (400 * o + (xi_G (F.1.take j)).length) (xi_x it).2.1 O) (hE : yv_E o F fa fm I) (st : yv_St g I o now F.1 V s) (hB : xv_B b s) (hb : b + 200 ≤ 1000000000)
    (h1 : ∀ s' D v, (xi_x it).2.2.1 (xg_A (xg_rng F.1 fa fm)) V O s = (s', D, .inr v) → ∀ I', xa_fr (yv_S now) I I' → yv_St g I' o now F.1 V s' → xv_B (b + 200) s' → I' 158 0 = v → yv_DL I' D → Q 1 I' R)
    (h2 : ∀ s' D e, (xi_x it).2.2.1 (xg_A (xg_rng F.1 fa fm)) V O s = (s', D, .inl e) → ∀ I', xa_fr (yv_S now) I I' → yv_St g I' o now F.1 V s' → xv_B (b + 200) s' → I' 121 59 = nI e.1 → I' 121 60 = nI e.2 → (e.1 = 2 ∨ e.1 = 3) → Q 0 I' R) : w_md_perform (I 134 (100 * o + j)) (I 135 (100 * o + j)) I R Q := by
  obtain ⟨ww, w1, w2, w3, w4, w5, w6⟩ := w
  have iw := w6 it (List.mem_of_getElem? hj)
  obtain ⟨ci, ⟨lv, hlv, p, p', hD⟩, hno⟩ := yg_GI ww (iw.2.2.1 hk)
  have hc := yg_Gj hj
  have hlen : (xi_G (F.1.take j)).length + (xi_x it).2.1.length ≤ 200 := by
    have := congrArg List.length hc.2
    rw [List.length_append, List.length_append] at this; omega
  obtain ⟨⟨_, _, _, a4, a5, _, _⟩, _⟩ := hE.1.1 j it hj
  rw [a4, a5, hc.1, ← Nat.add_assoc]
  refine yv_perform (V := V) (O := O) (A := xg_A (xg_rng F.1 fa fm)) (dp := 0) (yv_evD hnow yv_E_S (yv_HAc hnow ho w1 w5 (fun it hi => ⟨(w6 it hi).1, (w6 it hi).2.1⟩) hfm hgm) xg_B hD) hlv (by omega) (by omega) (by omega) (yg_GDj hE.1.2.2.1 hj) ?_ ci yv_E_S hE st hB (by omega) (fun s' D v hd I' f st' hB' => h1 s' D v hd I' f st' (xv_B_m hB' (by omega))) (fun s' D e hd I' f st' hB' => h2 s' D e hd I' f st' (xv_B_m hB' (by omega)))
  by_cases h4 : xi_k it = 4
  · exact oC h4
  · intro i e hi h5; exact absurd h5 (hno h4 e (List.mem_of_getElem? hi))
theorem yv_does {V : Nat → Int32} {fa fm b j : Nat} {it : xi_I} {tg : Option Nat} {I : pI} {s : xp_S} {Q : Int32 → pI → pR → Prop} (hnow : now < 6) (ho : o ≤ 1) (w : xg_W ts L F.1) (hfm : fa + fm ≤ F.1.length) (hgm : fm = 0 ∨ g = true) (hj : F.1[j]? = some it) (hk : xi_k it ≤ 2 ∨ xi_k it = 8) (htg : xk_tg F.2.2.2.1 it = xg_ti tg) (htb : ∀ t, tg = some t → t < 26) (hE : yv_E o F fa fm I) (st : yv_St g I o now F.1 V s) (hB : xv_B b s) (hb : b + 200 ≤ 1000000000)
    (h1 : ∀ s' D v, (xi_x it).2.2.1 (xg_A (xg_rng F.1 fa fm)) V xg_O0 s = (s', D, .inr v) → ∀ I', xa_fr (yv_SV now) I I' → yv_St g I' o now F.1 (xg_up V tg v) s' → xv_B (b + 200) s' → Q 1 I' R)
    (h2 : ∀ s' D e, (xi_x it).2.2.1 (xg_A (xg_rng F.1 fa fm)) V xg_O0 s = (s', D, .inl e) → ∀ I', xa_fr (yv_SV now) I I' → yv_St g I' o now F.1 V s' → xv_B (b + 200) s' → I' 121 59 = nI e.1 → I' 121 60 = nI e.2 → (e.1 = 2 ∨ e.1 = 3) → Q 0 I' R) : w_md_does (nI (100 * o + j)) I R Q := by
  have hjl := xa_some_lt hj
  have w1 := w.2.1
  have hin : vp_in (nI (100 * o + j)) 200 := vp_in_nI (by omega) (by omega)
  unfold w_md_does
  rw [nI_clamp (by omega)]
  refine ⟨hin, hin, yv_item (O := xg_O0) hnow ho w hfm hgm hj (by omega) (fun h4 => by omega) hE st hB hb (fun s' D v hd I1 f1 st1 hB1 hv dl1 => xa_f' (by decide) ⟨hin, ?_⟩) (fun s' D e hd I1 f1 st1 hB1 ha hb' h23 => xa_t' rfl (h2 s' D e hd I1 (yv_SV_S f1) st1 hB1 ha hb' h23))⟩
  have et : I1 133 (100 * o + j) = xg_ti tg := by
    rw [yv_S_o f1 _ _ (by omega), (hE.1.1 j it hj).1.2.2.1]; exact htg
  rw [et]
  cases tg with
  | none => exact xa_t (by decide) (h1 s' D v hd I1 (yv_SV_S f1) st1 hB1)
  | some t =>
    have ht := htb t rfl
    show (nI t < 0 → _) ∧ (¬ nI t < 0 → _)
    refine xa_f (nI_pos (by omega)) ⟨hin, vp_in_nI (n := 0) (by omega) (by omega), ?_⟩
    rw [st1.1, show (26 : Int32) * nI now = nI (26 * now) from pk_mul _ _, show xg_ti (some t) = nI t from rfl, nI_add, nI_clamp (by omega)]
    refine ⟨vp_in_nI (by omega) (by omega), xa_a (h1 s' D v hd _ (xa_fr_w (yv_SV_S f1) (by simp [yv_SV]; omega)) ⟨?_, fun u hu => ?_, ?_, ?_, fun hg j' it' hj' h7' => ?_⟩ hB1)⟩
    · rw [xa_p (by decide)]; exact st1.1
    · rw [xa_w]
      show _ = xv_u V t v u
      unfold xv_u
      by_cases hut : u = t
      · rw [if_pos ⟨rfl, by omega⟩, if_pos hut]; exact hv
      · rw [if_neg (by omega), if_neg hut]; exact st1.2.1 u hu
    · rw [xa_p (by decide)]; exact st1.2.2.1
    · rw [xa_p (by decide)]; exact st1.2.2.2.1
    · rw [xa_p (by decide)]; exact st1.2.2.2.2 hg j' it' hj' h7'
/-- a drawing of the reference -/
def yd_DR (I : pI) (now : Nat) (dr : Option (Nat × Nat × List (Nat × Int32))) : Prop := match dr with
  | none => I 168 now = -1
  | some d => I 168 now = nI (xd_lf d.1 d.2.2 (d.2.1 - d.1) 0).length ∧ I 171 now = nI d.1 ∧ I 172 now = nI d.2.1 ∧ ∀ i e, (xd_lf d.1 d.2.2 (d.2.1 - d.1) 0)[i]? = some e → I 169 (120 * now + i) = nI e.1 ∧ I 170 (120 * now + i) = e.2
def yv_FH (I : pI) (now : Nat) (h : xg_H) : Prop := (match h with
  | none => I 163 now = 0 ∧ I 164 now = -1
  | some f => I 163 now = nI f.1.1 ∧ I 164 now = nI f.1.2 ∧ 0 < f.1.1 ∧ f.1.1 < 10) ∧ I 165 now = 0 ∧ yd_DR I now (h.bind (fun f => f.2))
theorem yd_DR_fr {I I' : pI} {now : Nat} {dr : Option (Nat × Nat × List (Nat × Int32))} (h : yd_DR I now dr) (f : ∀ p k, 168 ≤ p ∧ p ≤ 172 → I' p k = I p k) : yd_DR I' now dr := by
  cases dr with
  | none => exact (f _ _ (by omega)).trans h
  | some d =>
    obtain ⟨a, b, c, e⟩ := h
    exact ⟨(f _ _ (by omega)).trans a, (f _ _ (by omega)).trans b, (f _ _ (by omega)).trans c, fun i u hi => ⟨(f _ _ (by omega)).trans (e i u hi).1, (f _ _ (by omega)).trans (e i u hi).2⟩⟩
theorem yv_FH_fr {I I' : pI} {now : Nat} {h : xg_H} (fh : yv_FH I now h) (f : ∀ p k, 163 ≤ p ∧ p ≤ 172 ∧ p ≠ 166 ∧ p ≠ 167 → I' p k = I p k) : yv_FH I' now h := by
  obtain ⟨a, b, c⟩ := fh
  refine ⟨?_, (f _ _ (by omega)).trans b, yd_DR_fr c (fun p k h1 => f p k (by omega))⟩
  cases h with
  | none => exact ⟨(f _ _ (by omega)).trans a.1, (f _ _ (by omega)).trans a.2⟩
  | some g => exact ⟨(f _ _ (by omega)).trans a.1, (f _ _ (by omega)).trans a.2.1, a.2.2⟩
/-- what conditions may write -/
def yv_SH (now p k : Nat) : Bool := yv_S now p k || ((p == 163 || p == 164 || p == 165 || p == 168 || p == 171 || p == 172) && k == now) || ((p == 169 || p == 170) && decide (120 * now ≤ k) && decide (k < 120 * now + 120))
theorem yv_SH_S {now : Nat} {I I' : pI} (h : xa_fr (yv_S now) I I') : xa_fr (yv_SH now) I I' := xa_fr_m h (fun p k hp => by
  unfold yv_SH at hp; simp only [Bool.or_eq_false_iff] at hp; exact hp.1.1)
theorem yv_SH_o {now : Nat} {I I' : pI} (h : xa_fr (yv_SH now) I I') (p k : Nat) (hp : ¬ (p = 121 ∧ (k = 58 ∨ k = 59 ∨ k = 60 ∨ k = 65)) ∧ p ≠ 158 ∧ p ≠ 160 ∧ p ≠ 161 ∧ p ≠ 145 ∧ p ≠ 167 ∧ ¬ (163 ≤ p ∧ p ≤ 165) ∧ ¬ (168 ≤ p ∧ p ≤ 172)) : I' p k = I p k := h p k (by
  simp only [yv_SH, yv_S, Bool.or_eq_false_iff, Bool.and_eq_false_iff, beq_eq_false_iff_ne]; omega)
theorem yv_E_H {a m : Nat} {I I' : pI} (f : xa_fr (yv_SH now) I I') (h : yv_E o F a m I) : yv_E o F a m I' := by
  refine ⟨yv_FM_p h.1 (fun p k hp => yv_SH_o f p k (by omega)) (yv_SH_o f _ _ (by omega)), ?_⟩
  rw [yv_SH_o f _ _ (by omega), yv_SH_o f _ _ (by omega), yv_SH_o f _ _ (by omega)]; exact h.2
theorem yv_OG_H {I I' : pI} {s : Nat} {c : List xp_I} {O : Nat → Int32} (h : yv_OG I s c O) (f : xa_fr (yv_SH now) I I') : yv_OG I' s c O := by
  intro i e hi h5
  rw [yv_SH_o f _ _ (by omega)]; exact h i e hi h5
/-- a first failure -/
theorem yv_fail1 {I : pI} {c p : Nat} {its : List xi_I} {V : Nat → Int32} {s : xp_S} {Q : pI → pR → Prop} (hnow : now < 6) (fh : yv_FH I now none) (st : yv_St g I o now its V s) (hc : 0 < c ∧ c < 10) (h : ∀ I', xa_fr (yv_SH now) I I' → (∀ p' k', p' ≠ 163 → p' ≠ 164 → I' p' k' = I p' k') → yv_St g I' o now its V s → yv_FH I' now (some ((c, p), none)) → Q I' R) : w_md_fails (nI c) (nI p) I R Q := by
  unfold w_md_fails
  obtain ⟨⟨a, b⟩, e, d⟩ := fh
  have hin : vp_in (nI now) 6 := vp_in_nI hnow (by omega)
  rw [st.1, nI_clamp (by omega)]
  refine ⟨hin, xa_t' a ⟨hin, xa_a ?_⟩⟩
  have e1 : pw_wI I 163 now (nI c) 121 68 = nI now := by rw [xa_p (by decide)]; exact st.1
  rw [e1, nI_clamp (by omega)]
  have gg : ∀ p' k', p' ≠ 163 → p' ≠ 164 → pw_wI (pw_wI I 163 now (nI c)) 164 now (nI p) p' k' = I p' k' := fun p' k' h1 h2 => by rw [xa_p h2, xa_p h1]
  refine ⟨hin, xa_a (h _ (xa_fr_w (xa_fr_w (xa_fr_r _ _) (by simp [yv_SH])) (by simp [yv_SH])) gg ?_ ⟨⟨?_, ?_, hc⟩, ?_, ?_⟩)⟩
  · exact ⟨by rw [gg _ _ (by omega) (by omega)]; exact st.1, fun v hv => by rw [gg _ _ (by omega) (by omega)]; exact st.2.1 v hv, by rw [gg _ _ (by omega) (by omega)]; exact st.2.2.1, by rw [gg _ _ (by omega) (by omega)]; exact st.2.2.2.1, fun hg j it hj h7 => by rw [gg _ _ (by omega) (by omega)]; exact st.2.2.2.2 hg j it hj h7⟩
  · rw [xa_p (by decide), xa_w, if_pos ⟨rfl, rfl⟩]
  · rw [xa_w, if_pos ⟨rfl, rfl⟩]
  · rw [gg _ _ (by omega) (by omega)]; exact e
  · show _ = _
    rw [gg _ _ (by omega) (by omega)]; exact d
/-- what an iteration may write -/
def yv_SI (now p k : Nat) : Bool := (p == 121 && decide (58 ≤ k) && decide (k ≤ 68)) || p == 145 || (decide (158 ≤ p) && decide (p ≤ 161)) || (p == 167 && (k == 2 * now || k == 2 * now + 1)) || (p == 166 && decide (26 * now ≤ k) && decide (k < 26 * now + 26)) || ((p == 163 || p == 164 || p == 165 || p == 168 || p == 171 || p == 172) && k == now) || ((p == 169 || p == 170) && decide (120 * now ≤ k) && decide (k < 120 * now + 120))
theorem yv_SI_V {I I' : pI} (h : xa_fr (yv_SV now) I I') : xa_fr (yv_SI now) I I' := xa_fr_m h (fun p k hp => by
  simp only [yv_SI, yv_SV, yv_S, Bool.or_eq_false_iff, Bool.and_eq_false_iff, beq_eq_false_iff_ne, decide_eq_false_iff_not] at hp ⊢; omega)
theorem yv_SI_H {I I' : pI} (h : xa_fr (yv_SH now) I I') : xa_fr (yv_SI now) I I' := xa_fr_m h (fun p k hp => by
  simp only [yv_SI, yv_SH, yv_S, Bool.or_eq_false_iff, Bool.and_eq_false_iff, beq_eq_false_iff_ne, decide_eq_false_iff_not] at hp ⊢; omega)
theorem yv_SI_o {I I' : pI} (h : xa_fr (yv_SI now) I I') (p k : Nat) (hp : ¬ (p = 121 ∧ 58 ≤ k ∧ k ≤ 68) ∧ p ≠ 145 ∧ ¬ (158 ≤ p ∧ p ≤ 161) ∧ ¬ (163 ≤ p ∧ p ≤ 172)) : I' p k = I p k := h p k (by
  simp only [yv_SI, Bool.or_eq_false_iff, Bool.and_eq_false_iff, beq_eq_false_iff_ne, decide_eq_false_iff_not]; omega)
theorem yv_FM_I {I I' : pI} (h : yv_FM I o F) (f : xa_fr (yv_SI now) I I') : yv_FM I' o F := yv_FM_p h (fun p k hp => yv_SI_o f p k (by omega)) (yv_SI_o f _ _ (by omega))
/-- how an iteration stands behind steps -/
def yv_FE (I : pI) (now : Nat) (h : xg_H) (e : Option (Nat × Nat)) : Prop := match e with
  | none => yv_FH I now h
  | some e => (match h with
    | none => yv_FH I now (some (e, none))
    | some f => (I 163 now = nI f.1.1 ∧ I 164 now = nI f.1.2 ∧ 0 < f.1.1 ∧ f.1.1 < 10) ∧ I 165 now = 1 ∧ yd_DR I now f.2)
theorem yv_failG {I : pI} {h : xg_H} {e : Nat × Nat} {its : List xi_I} {V : Nat → Int32} {s : xp_S} {Q : pI → pR → Prop} (hnow : now < 6) (fh : yv_FH I now h) (st : yv_St g I o now its V s) (hc : 0 < e.1 ∧ e.1 < 10) (hQ : ∀ I', xa_fr (yv_SH now) I I' → yv_St g I' o now its V s → yv_FE I' now h (some e) → Q I' R) : w_md_fails (nI e.1) (nI e.2) I R Q := by
  cases h with
  | none => exact yv_fail1 hnow fh st hc (fun I' f _ st' fh' => hQ I' f st' fh')
  | some f =>
    have hin : vp_in (nI now) 6 := vp_in_nI hnow (by omega)
    have hf := fh.1.2.2
    unfold w_md_fails
    rw [st.1, nI_clamp (by omega), fh.1.1]
    refine ⟨hin, xa_f' (xa_ne 0 (by omega)) ⟨hin, xa_a (hQ _ (xa_fr_w (xa_fr_r _ _) (by simp [yv_SH])) ?_ ⟨⟨?_, ?_, hf⟩, ?_, ?_⟩)⟩⟩
    · exact ⟨by rw [xa_p (by decide)]; exact st.1, fun v hv => by rw [xa_p (by decide)]; exact st.2.1 v hv, by rw [xa_p (by decide)]; exact st.2.2.1, by rw [xa_p (by decide)]; exact st.2.2.2.1, fun hg j it hj h7 => by rw [xa_p (by decide)]; exact st.2.2.2.2 hg j it hj h7⟩
    · rw [xa_p (by decide)]; exact fh.1.1
    · rw [xa_p (by decide)]; exact fh.1.2.1
    · rw [xa_w, if_pos ⟨rfl, rfl⟩]; rfl
    · exact yd_DR_fr fh.2.2 (fun p k hp => by rw [xa_p (by omega)])
theorem xk_kd_inj {k l : Nat} (h : k < 9) (h2 : l < 9) : xk_kd k = xk_kd l ↔ k = l := by
  have : ∀ k, k < 9 → ∀ l, l < 9 → (xk_kd k = xk_kd l ↔ k = l) := by decide
  exact this k h l h2
theorem yv_FH_V {I I' : pI} {h : xg_H} (fh : yv_FH I now h) (f : xa_fr (yv_SV now) I I') : yv_FH I' now h := yv_FH_fr fh (fun p k hp => yv_SV_o f p k (by omega))
/-- the steps of a kind -/
theorem yv_stepsL {f1 f2 : Nat} {tgf : xi_I → Option Nat} {P : xi_I → Bool} {h : xg_H} {K Q : pI → pR → Prop} (hnow : now < 6) (ho : o ≤ 1) (w : xg_W ts L F.1) (hf1 : f1 = 0 ∨ f1 = 2 ∨ f1 = 8) (hf2 : f2 < 60) (hpt : ∀ it, it ∈ F.1 → xi_pt it < 1000) (hP : ∀ it, P it = (decide (xi_k it = f1) && (decide (xi_pt it = f2) || decide (f1 ≠ 8)))) (htg : ∀ it, it ∈ F.1 → P it = true → xk_tg F.2.2.2.1 it = xg_ti (tgf it) ∧ ∀ t, tgf it = some t → t < 26) :
    ∀ m a V s b I, a + m = F.1.length → yv_E o F 0 0 I → yv_St false I o now F.1 V s → xv_B b s → b + 200 * m ≤ 1000000000 → yv_FH I now h →
    (∀ V' s' r, xg_steps (xg_A []) (((F.1.drop a).filter P).map (fun it => ((xi_x it).2.2.1, tgf it))) V s = (V', s', r) → ∀ I', xa_fr (yv_SI now) I I' → yv_E o F 0 0 I' → yv_St false I' o now F.1 V' s' → xv_B (b + 200 * m) s' → yv_FE I' now h r → K I' R) →
    l_md_steps_11 (nI (xk_kd f1)) (nI f2) K Q (m + 1) 1 (nI (100 * o + a)) I R := by
  have w' := w
  obtain ⟨ww, w1, w2, w3, w4, w5, w6⟩ := w'
  have hin2 : vp_in (nI o) 2 := vp_in_nI (by omega) (by omega)
  intro m; induction m with
  | zero =>
    intro a V s b I ha hE st hB hb fh hK
    unfold l_md_steps_11
    rw [hE.1.2.2.2.1, nI_clamp (by omega), hE.1.2.2.2.2.1]
    refine ⟨hin2, xa_t ((nI_leI (by omega) (by omega)).mpr (by omega)) (hK V s none ?_ I (xa_fr_r _ _) hE st (xv_B_m hB (by omega)) fh)⟩
    rw [List.drop_of_length_le (by omega)]; rfl
  | succ m ih =>
    intro a V s b I ha hE st hB hb fh hK
    have hg : F.1[a]? = some F.1[a] := List.getElem?_eq_getElem (by omega)
    have ed : F.1.drop a = F.1[a] :: F.1.drop (a + 1) := List.drop_eq_getElem_cons (by omega)
    rw [ed] at hK
    generalize F.1[a] = it at *
    have hm := List.mem_of_getElem? hg
    have iw := w6 it hm
    have hp1 := hpt it hm
    have hk9 := iw.1
    have hkb := xk_kd_b hk9
    obtain ⟨ie, _⟩ := hE.1.1 a it hg
    have hin : vp_in (nI (100 * o + a)) 200 := vp_in_nI (by omega) (by omega)
    unfold l_md_steps_11
    rw [hE.1.2.2.2.1, nI_clamp (by omega), hE.1.2.2.2.2.1]
    refine ⟨hin2, xa_f (fun hh => by have := (nI_leI (by omega) (by omega)).mp hh; omega) (xa_f (by decide) ⟨hin, ?_⟩)⟩
    rw [nI_clamp (by omega), ie.1, ie.2.1]
    have skip : P it = false → l_md_steps_11 (nI (xk_kd f1)) (nI f2) K Q (m + 1) 1 (nI (100 * o + a) + 1) I R := by
      intro hp
      rw [List.filter_cons_of_neg (by simp [hp])] at hK
      rw [nI_1]
      exact ih (a + 1) V s b I (by omega) hE st hB (by omega) fh (fun V' s' r hr I' f' e' st' hB' => hK V' s' r hr I' f' e' st' (xv_B_m hB' (by omega)))
    have does : P it = true → j_md_steps_62 (fun y1 y2 I3 R3 => l_md_steps_11 (nI (xk_kd f1)) (nI f2) K Q (m + 1) y1 y2 I3 R3) Q (nI (xk_kd f1)) (nI f2) (nI (100 * o + a)) I R := by
      intro hp
      have hk : xi_k it = f1 := by
        have := hP it; rw [hp] at this
        have := this.symm
        simp only [Bool.and_eq_true, decide_eq_true_eq] at this
        exact this.1
      rw [List.filter_cons_of_pos (by simp [hp]), List.map_cons] at hK
      obtain ⟨ht1, ht2⟩ := htg it hm hp
      have est : ∀ r, (xi_x it).2.2.1 (xg_A []) V xg_O0 s = r → xg_steps (xg_A []) (((xi_x it).2.2.1, tgf it) :: ((F.1.drop (a + 1)).filter P).map (fun it => ((xi_x it).2.2.1, tgf it))) V s = (match r with
          | (s', _, .inr v) => xg_steps (xg_A []) (((F.1.drop (a + 1)).filter P).map (fun it => ((xi_x it).2.2.1, tgf it))) (xg_up V (tgf it) v) s'
          | (s', _, .inl f) => (V, s', some f)) := by
        intro r hr
        rw [xg_steps]
        simp only
        rw [hr]
        rcases r with ⟨s', D, f | v⟩ <;> rfl
      unfold j_md_steps_62
      refine yv_does (fa := 0) (fm := 0) (b := b) hnow ho w (by omega) (Or.inl rfl) hg (by omega) ht1 ht2 hE st hB (by omega) (fun s' D v hd I1 f1' st1 hB1 => xa_f' (by decide) ?_) (fun s' D e hd I1 f1' st1 hB1 ha' hb' h23 => xa_t' rfl ?_)
      · rw [nI_1]
        exact ih (a + 1) _ s' (b + 200) I1 (by omega) (yv_E_V f1' hE) st1 hB1 (by omega) (yv_FH_V fh f1') (fun V' s2 r hr I' f' e' st' hB' => hK V' s2 r (by rw [est _ hd]; exact hr) I' (xa_fr_t (yv_SI_V f1') f') e' st' (xv_B_m hB' (by omega)))
      · rw [ha', hb']
        refine yv_failG hnow (yv_FH_V fh f1') st1 (by omega) (fun I2 f2' st2 fe2 => ?_)
        have hE2 := yv_E_H f2' (yv_E_V f1' hE)
        have k := hK V s' (some e) (est _ hd) I2 (xa_fr_t (yv_SI_V f1') (yv_SI_H f2')) hE2 st2 (xv_B_m hB1 (by omega)) fe2
        show l_md_steps_11 (nI (xk_kd f1)) (nI f2) K Q (m + 1) 0 (nI (100 * o + a) + 1) I2 R
        unfold l_md_steps_11
        rw [hE2.1.2.2.2.1, nI_clamp (by omega)]
        exact ⟨hin2, fun _ => k, fun _ => xa_t rfl k⟩
    have hPi := hP it
    by_cases hk : xi_k it = f1
    · refine xa_t' (by rw [hk]) ⟨hin, ?_⟩
      by_cases hp : xi_pt it = f2
      · exact xa_t (by rw [hp]) (does (by rw [hPi]; simp [hk, hp]))
      · refine xa_f (fun e => hp ((nI_eq (by omega) (by omega)).mp e)) ?_
        rcases hf1 with rfl | rfl | rfl
        · exact xa_t rfl (does (by rw [hPi]; simp [hk]))
        · exact xa_f (by decide) (xa_t' rfl (does (by rw [hPi]; simp [hk])))
        · exact xa_f (by decide) (xa_f' (by decide) (skip (by rw [hPi]; simp [hp])))
    · refine xa_f' (fun e => hk ?_) (skip (by rw [hPi]; simp [hk]))
      have hf9 : f1 < 9 := by omega
      have := xk_kd_b hf9
      exact (xk_kd_inj hk9 hf9).mp ((nI_eq (by omega) (by omega)).mp e)
theorem yv_steps {f1 f2 : Nat} {tgf : xi_I → Option Nat} {P : xi_I → Bool} {h : xg_H} {V : Nat → Int32} {s : xp_S} {b : Nat} {I : pI} {Q : pI → pR → Prop} (hnow : now < 6) (ho : o ≤ 1) (w : xg_W ts L F.1) (hf1 : f1 = 0 ∨ f1 = 2 ∨ f1 = 8) (hf2 : f2 < 60) (hpt : ∀ it, it ∈ F.1 → xi_pt it < 1000) (hP : ∀ it, P it = (decide (xi_k it = f1) && (decide (xi_pt it = f2) || decide (f1 ≠ 8)))) (htg : ∀ it, it ∈ F.1 → P it = true → xk_tg F.2.2.2.1 it = xg_ti (tgf it) ∧ ∀ t, tgf it = some t → t < 26) (hE : yv_E o F 0 0 I) (st : yv_St false I o now F.1 V s) (hB : xv_B b s) (hb : b + 12000 ≤ 1000000000) (fh : yv_FH I now h)
    (hK : ∀ V' s' r, xg_steps (xg_A []) ((F.1.filter P).map (fun it => ((xi_x it).2.2.1, tgf it))) V s = (V', s', r) → ∀ I', xa_fr (yv_SI now) I I' → yv_E o F 0 0 I' → yv_St false I' o now F.1 V' s' → xv_B (b + 12000) s' → yv_FE I' now h r → Q I' R) : w_md_steps (nI (xk_kd f1)) (nI f2) I R Q := by
  have w1 := w.2.1
  unfold w_md_steps
  rw [hE.1.2.2.2.1, show (100 : Int32) * nI o = nI (100 * o) from pk_mul _ _]
  exact ⟨F.1.length + 1, yv_stepsL hnow ho w hf1 hf2 hpt hP htg F.1.length 0 V s b I (by omega) hE st hB (by omega) fh (fun V' s' r hr I' f e st' hB' => hK V' s' r hr I' f e st' (xv_B_m hB' (by omega)))⟩
end
