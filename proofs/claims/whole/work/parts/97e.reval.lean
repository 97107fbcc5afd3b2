/-! THE REFERENCE EVALUATES -/
def yv_DL (I : pI) (D : List (Nat × Int32)) : Prop := I 121 65 = nI D.length ∧ ∀ j e, D[j]? = some e → I 160 j = nI e.1 ∧ I 161 j = e.2
def yv_St (g : Bool) (I : pI) (o now : Nat) (its : List xi_I) (V : Nat → Int32) (s : xp_S) : Prop := I 121 68 = nI now ∧ (∀ v, v < 26 → I 166 (26 * now + v) = V v) ∧ I 167 (2 * now) = s 0 ∧ I 167 (2 * now + 1) = s 1 ∧ (g = true → ∀ j it, its[j]? = some it → xi_k it = 7 → I 145 (100 * o + j) = s (2 + xi_nr (its.take j)))
theorem yv_St_f {g : Bool} {I : pI} {o now : Nat} {its : List xi_I} {V : Nat → Int32} {s : xp_S} (h : yv_St g I o now its V s) : yv_St false I o now its V s := ⟨h.1, h.2.1, h.2.2.1, h.2.2.2.1, fun hg => absurd hg (by decide)⟩
def yv_OG (I : pI) (s0 : Nat) (c : List xp_I) (O : Nat → Int32) : Prop := ∀ i e, c[i]? = some e → e.1 = 202 → I 159 (s0 + i) = O e.2.2.2
def yv_CI (c : List xp_I) : Prop := ∀ e, e ∈ c → xf_GE e ∧ e.2.2.2 < 120
def yv_S (now p k : Nat) : Bool := (p == 121 && (k == 58 || k == 59 || k == 60 || k == 65)) || p == 158 || p == 160 || p == 161 || p == 145 || (p == 167 && (k == 2 * now || k == 2 * now + 1))
def yv_SN (p k : Nat) : Bool := (p == 121 && (k == 58 || k == 65)) || p == 158 || p == 160 || p == 161
theorem yv_SN_f {now : Nat} {I I' : pI} (h : xa_fr yv_SN I I') : xa_fr (yv_S now) I I' := xa_fr_m h (fun p k hp => by
  simp only [yv_S, yv_SN, Bool.or_eq_false_iff, Bool.and_eq_false_iff, beq_eq_false_iff_ne] at hp ⊢; omega)
theorem yv_SN_o {I I' : pI} (h : xa_fr yv_SN I I') (p k : Nat) (hp : ¬ (p = 121 ∧ (k = 58 ∨ k = 65)) ∧ p ≠ 158 ∧ p ≠ 160 ∧ p ≠ 161) : I' p k = I p k := h p k (by
  simp only [yv_SN, Bool.or_eq_false_iff, Bool.and_eq_false_iff, beq_eq_false_iff_ne]; omega)
theorem yv_S_o {now : Nat} {I I' : pI} (h : xa_fr (yv_S now) I I') (p k : Nat) (hp : ¬ (p = 121 ∧ (k = 58 ∨ k = 59 ∨ k = 60 ∨ k = 65)) ∧ p ≠ 158 ∧ p ≠ 160 ∧ p ≠ 161 ∧ p ≠ 145 ∧ p ≠ 167) : I' p k = I p k := h p k (by
  simp only [yv_S, Bool.or_eq_false_iff, Bool.and_eq_false_iff, beq_eq_false_iff_ne]; omega)
theorem yv_St_N {g : Bool} {I I' : pI} {o now : Nat} {its : List xi_I} {V : Nat → Int32} {s : xp_S} (h : yv_St g I o now its V s) (f : xa_fr yv_SN I I') : yv_St g I' o now its V s := by
  obtain ⟨a, b, c, d, e⟩ := h
  refine ⟨?_, fun v hv => ?_, ?_, ?_, fun hg j it hj h7 => ?_⟩
  · rw [yv_SN_o f _ _ (by omega)]; exact a
  · rw [yv_SN_o f _ _ (by omega)]; exact b v hv
  · rw [yv_SN_o f _ _ (by omega)]; exact c
  · rw [yv_SN_o f _ _ (by omega)]; exact d
  · rw [yv_SN_o f _ _ (by omega)]; exact e hg j it hj h7
theorem yv_give {I : pI} {R : pR} {t : Nat} {v : Int32} {D : List (Nat × Int32)} {Q : pI → pR → Prop} (ht : I 121 58 = nI t) (hb : t < 64) (dl : yv_DL I D) (h : ∀ I', xa_fr yv_SN I I' → yv_DL I' D → (∀ j, j ≠ t → I' 158 j = I 158 j) → I' 158 t = v → I' 121 58 = nI (t + 1) → Q I' R) : w_md_give v I R Q := by
  unfold w_md_give
  rw [ht, nI_clamp (by omega)]
  refine ⟨vp_in_nI hb (by omega), xa_a (xa_a (h _ ?_ ⟨?_, fun j e hj => ?_⟩ ?_ ?_ ?_))⟩
  · exact xa_fr_w (xa_fr_w (xa_fr_r _ _) rfl) rfl
  · rw [xa_w, if_neg (by decide), xa_p (by decide)]; exact dl.1
  · rw [xa_p (by decide), xa_p (by decide), xa_p (by decide), xa_p (by decide)]; exact dl.2 j e hj
  · intro j hj; rw [xa_p (by decide), xa_w, if_neg (fun h => hj h.2)]
  · rw [xa_p (by decide), xa_w, if_pos ⟨rfl, rfl⟩]
  · rw [xa_w, if_pos ⟨rfl, rfl⟩, xa_p (by decide), ht, nI_1]
theorem yv_draw {I : pI} {R : pR} {p : Nat} {v : Int32} {D : List (Nat × Int32)} {Q : pI → pR → Prop} (dl : yv_DL I D) (hb : D.length < 200) (h : ∀ I', xa_fr yv_SN I I' → yv_DL I' (D ++ [(p, v)]) → (∀ j, I' 158 j = I 158 j) → I' 121 58 = I 121 58 → Q I' R) : w_md_draw (nI p) v I R Q := by
  unfold w_md_draw
  rw [dl.1, nI_clamp (by omega)]
  refine ⟨vp_in_nI hb (by omega), xa_a ?_⟩
  have e1 : pw_wI I 160 D.length (nI p) 121 65 = nI D.length := by rw [xa_p (by decide)]; exact dl.1
  rw [e1, nI_clamp (by omega)]
  refine ⟨vp_in_nI hb (by omega), xa_a (xa_a (h _ ?_ ⟨?_, fun j e hj => ?_⟩ ?_ ?_))⟩
  · exact xa_fr_w (xa_fr_w (xa_fr_w (xa_fr_r _ _) rfl) rfl) rfl
  · rw [xa_w, if_pos ⟨rfl, rfl⟩, xa_p (by decide), e1, nI_1, List.length_append]; rfl
  · rcases xa_app hj with ⟨hj, hl⟩ | ⟨hj, he⟩
    · rw [xa_p (by decide), xa_p (by decide), xa_w, if_neg (by omega), xa_p (by decide), xa_w, if_neg (by omega), xa_p (by decide)]; exact dl.2 j e hj
    · rw [hj, he]
      exact ⟨by rw [xa_p (by decide), xa_p (by decide), xa_w, if_pos ⟨rfl, rfl⟩], by rw [xa_p (by decide), xa_w, if_pos ⟨rfl, rfl⟩]⟩
  · intro j; rw [xa_p (by decide), xa_p (by decide), xa_p (by decide)]
  · rw [xa_w, if_neg (by decide), xa_p (by decide), xa_p (by decide)]
/-- draw what lies on top -/
theorem yv_top {I : pI} {R : pR} {t p : Nat} {ip : Int32} {D : List (Nat × Int32)} {Q : pI → pR → Prop} (ht : I 121 58 = nI (t + 1)) (hb : t < 64) (hp : ip = nI p) (dl : yv_DL I D) (hD : D.length < 200) (h : ∀ I', xa_fr yv_SN I I' → yv_DL I' (D ++ [(p, I 158 t)]) → (∀ j, I' 158 j = I 158 j) → I' 121 58 = nI (t + 1) → Q I' R) : vp_in ((I 121 58) - (1 : Int32)) 64 ∧ w_md_draw ip (I 158 ((I 121 58) - (1 : Int32)).toNatClampNeg) I R Q := by
  rw [ht, nI_pred, nI_clamp (by omega), hp]
  exact ⟨vp_in_nI hb (by omega), yv_draw dl hD (fun I' f d e g => h I' f d e (g.trans ht))⟩
theorem yv_CD_sp {I : pI} {s : Nat} {c d : List xp_I} (h : xr_CD I s (c ++ d)) : xr_CD I s c ∧ xr_CD I (s + c.length) d := by
  refine ⟨fun i e hi => ?_, fun i e hi => ?_⟩
  · have hl := xa_some_lt hi
    exact h i e (by rw [List.getElem?_append_left hl]; exact hi)
  · have := h (c.length + i) e (by rw [List.getElem?_append_right (by omega)]; simpa using hi)
    rw [← Nat.add_assoc] at this; exact this
theorem yv_CD_cn {I : pI} {s : Nat} {u : xp_I} {d : List xp_I} (h : xr_CD I s (u :: d)) : (I 128 s = nI u.1 ∧ I 129 s = nI (if u.2.2.1 = 0 then u.2.1 else s + u.2.2.1) ∧ I 130 s = nI u.2.2.2) ∧ xr_CD I (s + 1) d := by
  have h1 := h 0 u rfl
  have h2 := (yv_CD_sp (c := [u]) (d := d) h).2
  exact ⟨h1, h2⟩
theorem yv_OG_sp {I : pI} {s : Nat} {c d : List xp_I} {O : Nat → Int32} (h : yv_OG I s (c ++ d) O) : yv_OG I s c O ∧ yv_OG I (s + c.length) d O := by
  refine ⟨fun i e hi => ?_, fun i e hi => ?_⟩
  · have hl := xa_some_lt hi
    exact h i e (by rw [List.getElem?_append_left hl]; exact hi)
  · have := h (c.length + i) e (by rw [List.getElem?_append_right (by omega)]; simpa using hi)
    rw [← Nat.add_assoc] at this; exact this
theorem yv_CI_sp {c d : List xp_I} (h : yv_CI (c ++ d)) : yv_CI c ∧ yv_CI d := ⟨fun e he => h e (List.mem_append_left _ he), fun e he => h e (List.mem_append_right _ he)⟩
theorem yv_CI_cn {u : xp_I} {d : List xp_I} (h : yv_CI (u :: d)) : (xf_GE u ∧ u.2.2.2 < 120) ∧ yv_CI d := ⟨h u (by simp), fun e he => h e (by simp [he])⟩
theorem yv_CD_S {I I' : pI} {now s : Nat} {c : List xp_I} (h : xr_CD I s c) (f : xa_fr (yv_S now) I I') : xr_CD I' s c := by
  intro i e hi
  have := h i e hi
  rw [yv_S_o f _ _ (by omega), yv_S_o f _ _ (by omega), yv_S_o f _ _ (by omega)]
  exact this
theorem yv_OG_S {I I' : pI} {now s : Nat} {c : List xp_I} {O : Nat → Int32} (h : yv_OG I s c O) (f : xa_fr (yv_S now) I I') : yv_OG I' s c O := by
  intro i e hi h5
  rw [yv_S_o f _ _ (by omega)]; exact h i e hi h5
section
variable {I : pI} {R : pR} {s0 t : Nat} {D : List (Nat × Int32)} {Q : Int32 → pI → pR → Prop}
theorem yv_k1 {n : Nat} (hs : s0 < 800) (ho : I 128 s0 = nI 1) (ha : I 129 s0 = nI n) (ht : I 121 58 = nI t) (hb : t < 64) (dl : yv_DL I D) (h : ∀ I', xa_fr yv_SN I I' → yv_DL I' D → (∀ j, j ≠ t → I' 158 j = I 158 j) → I' 158 t = nI n → I' 121 58 = nI (t + 1) → Q (nI (s0 + 1)) I' R) : w_md_one (nI s0) I R Q := by
  have hin : vp_in (nI s0) 800 := vp_in_nI hs (by omega)
  unfold w_md_one
  rw [nI_clamp (by omega), ho, nI_1]
  refine ⟨hin, xa_t' rfl ⟨hin, ?_⟩⟩
  rw [ha]
  exact yv_give ht hb dl h
theorem yv_k2 {g : Bool} {o now v p : Nat} {its : List xi_I} {V : Nat → Int32} {s : xp_S} (hs : s0 < 800) (hnow : now < 6) (st : yv_St g I o now its V s) (ho : I 128 s0 = nI 2) (ha : I 129 s0 = nI v) (hsp : I 130 s0 = nI p) (hv : v < 26) (ht : I 121 58 = nI t) (hb : t < 64) (dl : yv_DL I D) (hD : D.length < 200) (h : ∀ I', xa_fr yv_SN I I' → yv_DL I' (D ++ [(p, V v)]) → (∀ j, j ≠ t → I' 158 j = I 158 j) → I' 158 t = V v → I' 121 58 = nI (t + 1) → Q (nI (s0 + 1)) I' R) : w_md_one (nI s0) I R Q := by
  have hin : vp_in (nI s0) 800 := vp_in_nI hs (by omega)
  unfold w_md_one
  rw [nI_clamp (by omega), ho, nI_1]
  refine ⟨hin, xa_f' (by decide) (xa_t' rfl ⟨hin, ?_⟩)⟩
  rw [ha, st.1, show (26 : Int32) * nI now = nI (26 * now) from pk_mul _ _, nI_add, nI_clamp (by omega), st.2.1 v hv]
  refine ⟨vp_in_nI (by omega) (by omega), yv_give ht hb dl (fun I1 f1 d1 a1 b1 c1 => ⟨hin, yv_top (t := t) (p := p) c1 hb ?_ d1 hD (fun I2 f2 d2 a2 b2 => ?_)⟩)⟩
  · rw [yv_SN_o f1 _ _ (by omega)]; exact hsp
  · rw [b1] at d2
    exact h I2 (xa_fr_t f1 f2) d2 (fun j hj => by rw [a2, a1 j hj]) (by rw [a2, b1]) b2
theorem yv_k202 {e p : Nat} {w : Int32} (hs : s0 < 800) (ho : I 128 s0 = nI 202) (ha : I 129 s0 = nI e) (hsp : I 130 s0 = nI p) (hw : I 159 s0 = w) (ht : I 121 58 = nI t) (hb : t < 64) (dl : yv_DL I D) (hD : D.length < 200) (h : ∀ I', xa_fr yv_SN I I' → yv_DL I' (D ++ [(p, w)]) → (∀ j, j ≠ t → I' 158 j = I 158 j) → I' 158 t = w → I' 121 58 = nI (t + 1) → Q (nI (e + 1)) I' R) : w_md_one (nI s0) I R Q := by
  have hin : vp_in (nI s0) 800 := vp_in_nI hs (by omega)
  unfold w_md_one
  rw [nI_clamp (by omega), ho, nI_1]
  refine ⟨hin, xa_f' (by decide) (xa_f' (by decide) (xa_t' rfl ⟨hin, ?_⟩))⟩
  rw [hw]
  refine yv_give ht hb dl (fun I1 f1 d1 a1 b1 c1 => ⟨hin, hin, ?_⟩)
  rw [yv_SN_o f1 130 _ (by omega), hsp, yv_SN_o f1 159 _ (by omega), hw]
  refine yv_draw d1 hD (fun I2 f2 d2 a2 b2 => ⟨hin, ?_⟩)
  rw [yv_SN_o f2 129 _ (by omega), yv_SN_o f1 129 _ (by omega), ha, nI_1]
  exact h I2 (xa_fr_t f1 f2) d2 (fun j hj => by rw [a2, a1 j hj]) (by rw [a2, b1]) (b2.trans c1)
theorem yv_k201 {m p : Nat} (hs : s0 < 800) (ho : I 128 s0 = nI 201) (ha : I 129 s0 = nI m) (hsp : I 130 s0 = nI p) (ht : I 121 58 = nI (t + 1)) (hb : t < 64) (dl : yv_DL I D) (h : ∀ I', xa_fr yv_SN I I' → yv_DL I' D → I' 158 = I 158 → I' 121 58 = nI t → w_md_call (nI m) (I 158 t) (nI p) I' R (fun v5 I7 R5 => ((¬ v5 = 0 → Q (nI (s0 + 1)) I7 R5) ∧ (v5 = 0 → Q (-1 : Int32) I7 R5)))) : w_md_one (nI s0) I R Q := by
  have hin : vp_in (nI s0) 800 := vp_in_nI hs (by omega)
  unfold w_md_one
  rw [nI_clamp (by omega), ho, nI_1]
  refine ⟨hin, xa_f' (by decide) (xa_f' (by decide) (xa_f' (by decide) (xa_t' rfl ?_)))⟩
  rw [ht, nI_pred]
  refine xa_a ?_
  have e1 : pw_wI I 121 58 (nI t) 121 58 = nI t := by rw [xa_w, if_pos ⟨rfl, rfl⟩]
  rw [e1, nI_clamp (by omega), xa_p (p' := 129) (by decide), xa_p (p' := 130) (by decide), xa_p (p' := 158) (by decide), ha, hsp]
  refine ⟨hin, vp_in_nI hb (by omega), hin, h _ (xa_fr_w (xa_fr_r _ _) rfl) ⟨?_, fun j e hj => ?_⟩ (xa_p (by decide)) e1⟩
  · rw [xa_w, if_neg (by decide)]; exact dl.1
  · rw [xa_p (by decide), xa_p (by decide)]; exact dl.2 j e hj
theorem yv_272 {p : Nat} {v : Int32} (hs : s0 < 800) (hsp : I 130 s0 = nI p) (ht : I 121 58 = nI (t + 1)) (hb : t < 64) (dl : yv_DL I D) (hD : D.length < 200) (h : ∀ I', xa_fr yv_SN I I' → yv_DL I' (D ++ [(p, v)]) → (∀ j, j ≠ t → I' 158 j = I 158 j) → I' 158 t = v → I' 121 58 = nI (t + 1) → Q (nI (s0 + 1)) I' R) : j_md_one_272 Q (nI s0) (nI t) v I R := by
  have hin : vp_in (nI s0) 800 := vp_in_nI hs (by omega)
  unfold j_md_one_272
  rw [nI_clamp (by omega), nI_clamp (by omega), nI_1]
  refine ⟨vp_in_nI hb (by omega), xa_a ⟨hin, yv_top (t := t) (p := p) ?_ hb ?_ ⟨?_, fun j e hj => ?_⟩ hD (fun I2 f2 d2 a2 b2 => ?_)⟩⟩
  · rw [xa_p (by decide)]; exact ht
  · rw [xa_p (by decide)]; exact hsp
  · rw [xa_p (by decide)]; exact dl.1
  · rw [xa_p (by decide), xa_p (by decide)]; exact dl.2 j e hj
  · rw [xa_w, if_pos ⟨rfl, rfl⟩] at d2
    refine h I2 (xa_fr_t (xa_fr_w (xa_fr_r _ _) rfl) f2) d2 (fun j hj => ?_) ?_ b2
    · rw [a2, xa_w, if_neg (fun e => hj e.2)]
    · rw [a2, xa_w, if_pos ⟨rfl, rfl⟩]
theorem yv_k203 {p : Nat} (hs : s0 < 800) (ho : I 128 s0 = nI 203) (hsp : I 130 s0 = nI p) (ht : I 121 58 = nI (t + 1)) (hb : t < 64) (dl : yv_DL I D) (hD : D.length < 200) (h : ∀ I', xa_fr yv_SN I I' → yv_DL I' (D ++ [(p, -(I 158 t))]) → (∀ j, j ≠ t → I' 158 j = I 158 j) → I' 158 t = -(I 158 t) → I' 121 58 = nI (t + 1) → Q (nI (s0 + 1)) I' R) : w_md_one (nI s0) I R Q := by
  have hin : vp_in (nI s0) 800 := vp_in_nI hs (by omega)
  unfold w_md_one
  rw [nI_clamp (by omega), ho]
  refine ⟨hin, xa_f' (by decide) (xa_f' (by decide) (xa_f' (by decide) (xa_f' (by decide) (xa_f' (by decide) (xa_t rfl ?_)))))⟩
  unfold j_md_one_207
  rw [ht, nI_pred, nI_clamp (by omega)]
  exact ⟨vp_in_nI hb (by omega), xa_t' rfl (yv_272 hs hsp ht hb dl hD h)⟩
theorem yv_tr {b : Prop} [Decidable b] {s1 : Int32} {x : Int32} (h : j_md_one_272 Q x s1 (xp_tr b) I R) : (¬ b → j_md_one_269 Q x s1 0 I R) ∧ (b → j_md_one_269 Q x s1 1 I R) := by
  unfold j_md_one_269
  exact xv_truth (Q := fun v1 I1 R1 => j_md_one_272 Q x s1 v1 I1 R1) h
theorem yv_tr2 {b c : Prop} [Decidable b] (hc : c ↔ ¬ b) {s1 : Int32} {x : Int32} (h : j_md_one_272 Q x s1 (xp_tr b) I R) : (c → j_md_one_269 Q x s1 0 I R) ∧ (¬ c → j_md_one_269 Q x s1 1 I R) := by
  have := yv_tr h
  exact ⟨fun a => this.1 (hc.mp a), fun a => this.2 (Decidable.not_not.mp (fun h => a (hc.mpr h)))⟩
theorem yv_k204 {p : Nat} (hs : s0 < 800) (ho : I 128 s0 = nI 204) (hsp : I 130 s0 = nI p) (ht : I 121 58 = nI (t + 1)) (hb : t < 64) (dl : yv_DL I D) (hD : D.length < 200) (h : ∀ I', xa_fr yv_SN I I' → yv_DL I' (D ++ [(p, xp_tr (I 158 t = 0))]) → (∀ j, j ≠ t → I' 158 j = I 158 j) → I' 158 t = xp_tr (I 158 t = 0) → I' 121 58 = nI (t + 1) → Q (nI (s0 + 1)) I' R) : w_md_one (nI s0) I R Q := by
  have hin : vp_in (nI s0) 800 := vp_in_nI hs (by omega)
  unfold w_md_one
  rw [nI_clamp (by omega), ho]
  refine ⟨hin, xa_f' (by decide) (xa_f' (by decide) (xa_f' (by decide) (xa_f' (by decide) (xa_f' (by decide) (xa_f (by decide) (xa_t rfl ?_))))))⟩
  unfold j_md_one_207
  rw [ht, nI_pred, nI_clamp (by omega)]
  exact ⟨vp_in_nI hb (by omega), xa_f' (by decide) (xa_t' rfl (yv_tr (b := I 158 t = 0) (yv_272 hs hsp ht hb dl hD h)))⟩
theorem yv_kL {o p : Nat} (hs : s0 < 800) (hoo : o = 264 ∨ o = 265) (ho : I 128 s0 = nI (xt_ka o)) (hsp : I 130 s0 = nI p) (ht : I 121 58 = nI (t + 1)) (hb : t < 64) (dl : yv_DL I D) (hD : D.length < 200) (h : ∀ I', xa_fr yv_SN I I' → yv_DL I' (D ++ [(p, xp_tr (I 158 t ≠ 0))]) → (∀ j, j ≠ t → I' 158 j = I 158 j) → I' 158 t = xp_tr (I 158 t ≠ 0) → I' 121 58 = nI (t + 1) → Q (nI (s0 + 1)) I' R) : w_md_one (nI s0) I R Q := by
  have hin : vp_in (nI s0) 800 := vp_in_nI hs (by omega)
  have fin : ∀ x2 : Int32, ¬ x2 = 203 → ¬ x2 = 204 → j_md_one_207 Q (nI s0) x2 I R := by
    intro x2 h3 h4
    unfold j_md_one_207
    rw [ht, nI_pred, nI_clamp (by omega)]
    exact ⟨vp_in_nI hb (by omega), xa_f' h3 (xa_f' h4 (yv_tr2 (b := I 158 t ≠ 0) (Decidable.not_not).symm (yv_272 hs hsp ht hb dl hD h)))⟩
  unfold w_md_one
  rw [nI_clamp (by omega), ho]
  rcases hoo with rfl | rfl
  · exact ⟨hin, xa_f' (by decide) (xa_f' (by decide) (xa_f' (by decide) (xa_f' (by decide) (xa_f' (by decide) (xa_f (by decide) (xa_f (by decide) (xa_t rfl (fin _ (by decide) (by decide)))))))))⟩
  · exact ⟨hin, xa_f' (by decide) (xa_f' (by decide) (xa_f' (by decide) (xa_f' (by decide) (xa_f' (by decide) (xa_f (by decide) (xa_f (by decide) (xa_f (by decide) (xa_t' rfl (fin _ (by decide) (by decide))))))))))⟩
theorem yv_k205 {o p e : Nat} (hs : s0 < 800) (hoo : o = 264 ∨ o = 265) (ho : I 128 s0 = nI 205) (ha : I 129 s0 = nI e) (he : e < 800) (hoe : I 128 e = nI (xt_ka o)) (hsp : I 130 s0 = nI p) (ht : I 121 58 = nI (t + 1)) (hb : t < 64) (dl : yv_DL I D) (hD : D.length < 200)
    (h1 : xp_dec o (I 158 t) = true → ∀ I', xa_fr yv_SN I I' → yv_DL I' (D ++ [(p, xp_tr (I 158 t ≠ 0))]) → (∀ j, j ≠ t → I' 158 j = I 158 j) → I' 158 t = xp_tr (I 158 t ≠ 0) → I' 121 58 = nI (t + 1) → Q (nI (e + 1)) I' R)
    (h2 : xp_dec o (I 158 t) = false → ∀ I', xa_fr yv_SN I I' → yv_DL I' D → I' 158 = I 158 → I' 121 58 = nI t → Q (nI (s0 + 1)) I' R) : w_md_one (nI s0) I R Q := by
  have hin : vp_in (nI s0) 800 := vp_in_nI hs (by omega)
  unfold w_md_one
  rw [nI_clamp (by omega), ho]
  refine ⟨hin, xa_f' (by decide) (xa_f' (by decide) (xa_f' (by decide) (xa_f' (by decide) (xa_t' rfl ?_))))⟩
  unfold w_md_tested
  rw [ht, nI_pred, nI_clamp (by omega), nI_clamp (by omega), ha]
  refine ⟨hin, vp_in_nI hb (by omega), ?_⟩
  have goOn : xp_dec o (I 158 t) = false → ∀ x3 s : Int32, j_md_tested_45 Q (nI s0) (nI e) x3 s s I R := by
    intro hd x3 s
    unfold j_md_tested_45
    rw [ht, nI_pred, nI_1, nI_1]
    refine xa_t' rfl (xa_a (h2 hd _ (xa_fr_w (xa_fr_r _ _) rfl) ⟨?_, fun j e hj => ?_⟩ (xa_p (by decide)) ?_))
    · rw [xa_w, if_neg (by decide)]; exact dl.1
    · rw [xa_p (by decide), xa_p (by decide)]; exact dl.2 j e hj
    · rw [xa_w, if_pos ⟨rfl, rfl⟩]
  have stop : xp_dec o (I 158 t) = true → ∀ x3 s s' : Int32, ¬ s = s' → (if x3 = 0 then (0 : Int32) else 1) = xp_tr (I 158 t ≠ 0) → j_md_tested_45 Q (nI s0) (nI e) x3 s s' I R := by
    intro hd x3 s s' hss hx
    unfold j_md_tested_45
    rw [ht, nI_pred, nI_clamp (by omega), nI_clamp (by omega), nI_1, nI_1]
    refine xa_f' hss ?_
    have fin : vp_in (nI t) 64 ∧ ∀ I2, I2 = pw_wI I 158 t (xp_tr (I 158 t ≠ 0)) → (vp_in (nI s0) 800 ∧ (vp_in ((I2 121 58) - (1 : Int32)) 64 ∧ (w_md_draw (I2 130 s0) (I2 158 ((I2 121 58) - (1 : Int32)).toNatClampNeg) I2 R (fun I3 R2 => Q (nI (e + 1)) I3 R2)))) := by
      refine ⟨vp_in_nI hb (by omega), xa_a ⟨hin, yv_top (t := t) (p := p) ?_ hb ?_ ⟨?_, fun j e hj => ?_⟩ hD (fun I2 f2 d2 a2 b2 => ?_)⟩⟩
      · rw [xa_p (by decide)]; exact ht
      · rw [xa_p (by decide)]; exact hsp
      · rw [xa_p (by decide)]; exact dl.1
      · rw [xa_p (by decide), xa_p (by decide)]; exact dl.2 j e hj
      · rw [xa_w, if_pos ⟨rfl, rfl⟩] at d2
        refine h1 hd I2 (xa_fr_t (xa_fr_w (xa_fr_r _ _) rfl) f2) d2 (fun j hj => ?_) ?_ b2
        · rw [a2, xa_w, if_neg (fun e => hj e.2)]
        · rw [a2, xa_w, if_pos ⟨rfl, rfl⟩]
    unfold w_md_truth
    rw [← hx] at fin
    by_cases h0 : x3 = 0
    · rw [if_pos h0] at fin; exact xa_t h0 fin
    · rw [if_neg h0] at fin; exact xa_f h0 fin
  have hine : vp_in (nI e) 800 := vp_in_nI he (by omega)
  by_cases hz : I 158 t = 0
  · refine xa_t hz ?_
    unfold j_md_tested_26
    rw [nI_clamp (by omega), hoe]
    refine ⟨hine, ?_⟩
    rcases hoo with rfl | rfl
    · exact xa_t' rfl (stop (by simp [xp_dec, hz]) _ _ _ (by decide) (by simp [xp_tr, hz]))
    · exact xa_f' (by decide) (goOn (by simp [xp_dec, hz]) _ _)
  · refine xa_f hz ?_
    unfold j_md_tested_26
    rw [nI_clamp (by omega), hoe]
    refine ⟨hine, ?_⟩
    rcases hoo with rfl | rfl
    · exact xa_t' rfl (goOn (by simp [xp_dec, hz]) _ _)
    · exact xa_f' (by decide) (stop (by simp [xp_dec, hz]) _ _ _ (by decide) (by simp [xp_tr, hz]))
theorem yw_truth {I : pI} {R : pR} {b : Prop} [Decidable b] {Q : Int32 → pI → pR → Prop} (h : Q (xp_tr b) I R) : (¬ b → w_md_truth 0 I R Q) ∧ (b → w_md_truth 1 I R Q) := by
  unfold xp_tr at h
  by_cases hb : b
  · rw [if_pos hb] at h; exact xa_t' hb (xa_f (by decide) h)
  · rw [if_neg hb] at h; exact xa_f' hb (xa_t rfl h)
theorem yw_truth2 {I : pI} {R : pR} {b c : Prop} [Decidable b] (hc : c ↔ ¬ b) {Q : Int32 → pI → pR → Prop} (h : Q (xp_tr b) I R) : (c → w_md_truth 0 I R Q) ∧ (¬ c → w_md_truth 1 I R Q) := by
  have := yw_truth (Q := Q) h
  exact ⟨fun a => this.1 (hc.mp a), fun a => this.2 (Decidable.not_not.mp (fun h => a (hc.mpr h)))⟩
theorem yv_reckon {o lv p : Nat} (hl : xp_lev o = lv) (h2 : 2 ≤ lv) (h4 : lv ≤ 4) (ht : I 121 58 = nI (t + 2)) (hb : t + 1 < 64) (dl : yv_DL I D) (hD : D.length < 200)
    (hs : ∀ w, xp_op o (I 158 t) (I 158 (t + 1)) = some w → ∀ I', xa_fr yv_SN I I' → yv_DL I' (D ++ [(p, w)]) → (∀ j, j ≠ t → I' 158 j = I 158 j) → I' 158 t = w → I' 121 58 = nI (t + 1) → Q 1 I' R)
    (hn : xp_op o (I 158 t) (I 158 (t + 1)) = none → ∀ I', (∀ p k, p ≠ 121 → I' p k = I p k) → (∀ k, k ≠ 58 → k ≠ 59 → k ≠ 60 → I' 121 k = I 121 k) → I' 121 59 = 3 → I' 121 60 = nI p → Q 0 I' R) : w_md_reckon (nI (xt_ka o)) (nI p) I R Q := by
  unfold w_md_reckon
  rw [ht, show t + 2 = (t + 1) + 1 from rfl, nI_pred, show nI (t + 1 + 1) - 2 = nI t from (pk_sub (a := t + 2) (b := 2) (by omega)).trans (by congr 1), nI_clamp (by omega), nI_clamp (by omega)]
  refine ⟨vp_in_nI hb (by omega), vp_in_nI (by omega) (by omega), xa_a ?_⟩
  have f1 : xa_fr yv_SN I (pw_wI I 121 58 (nI t)) := xa_fr_w (xa_fr_r _ _) rfl
  have d1 : yv_DL (pw_wI I 121 58 (nI t)) D := ⟨by rw [xa_w, if_neg (by decide)]; exact dl.1, fun j e hj => by rw [xa_p (by decide), xa_p (by decide)]; exact dl.2 j e hj⟩
  have e1 : pw_wI I 121 58 (nI t) 121 58 = nI t := by rw [xa_w, if_pos ⟨rfl, rfl⟩]
  have s1 : pw_wI I 121 58 (nI t) 158 = I 158 := xa_p (by decide)
  have fin : ∀ w, xp_op o (I 158 t) (I 158 (t + 1)) = some w → w_md_give w (pw_wI I 121 58 (nI t)) R (fun I3 R2 => (w_md_draw (nI p) w I3 R2 (fun I4 R3 => Q (1 : Int32) I4 R3))) := by
    intro w hw
    refine yv_give e1 (by omega) d1 (fun I2 f2 d2 a2 b2 c2 => yv_draw d2 hD (fun I3 f3 d3 a3 b3 => hs w hw I3 (xa_fr_t f1 (xa_fr_t f2 f3)) d3 (fun j hj => ?_) ?_ (b3.trans c2)))
    · rw [a3, a2 j hj, s1]
    · rw [a3, b2]
  have stop : xp_op o (I 158 t) (I 158 (t + 1)) = none → w_md_trouble (3 : Int32) (nI p) (pw_wI I 121 58 (nI t)) R (fun v15 I16 R15 => Q v15 I16 R15) := by
    intro hw
    refine xa_a (xa_a (hn hw _ (fun p k hp => by rw [xa_p hp, xa_p hp, xa_p hp]) (fun k a b c => by rw [xa_w, if_neg (by omega), xa_w, if_neg (by omega), xa_w, if_neg (by omega)]) ?_ ?_))
    · rw [xa_w, if_neg (by decide), xa_w, if_pos ⟨rfl, rfl⟩]
    · rw [xa_w, if_pos ⟨rfl, rfl⟩]
  have stop' : I 158 (t + 1) = 0 → (o = 37 ∨ o = 47) → w_md_trouble (3 : Int32) (nI p) (pw_wI I 121 58 (nI t)) R (fun v15 I16 R15 => Q v15 I16 R15) := by
    intro hb ho
    refine stop ?_
    rcases ho with rfl | rfl <;> (unfold xp_op; simp [hb])
  generalize pw_wI I 121 58 (nI t) = I1 at *
  generalize I 158 t = a at *
  generalize I 158 (t + 1) = b at *
  have cmp : ∀ (o' : Nat), o' < 300 → xr_rk o' = 3 → w_md_compared (nI o') a b I1 R (fun v12 I13 R12 => (w_md_give v12 I13 R12 (fun I14 R13 => (w_md_draw (nI p) v12 I14 R13 (fun I15 R14 => Q (1 : Int32) I15 R14))))) → j_md_reckon_58 Q (nI o') (nI p) b a I1 R := by
    intro o' hlt hrk h
    unfold j_md_reckon_58
    refine (xr_rank (by omega)).mpr ?_
    rw [hrk]
    exact xa_t' rfl h
  have ar : ∀ (o' : Nat), o' < 300 → xr_rk o' ≠ 3 → xr_rk o' < 10 → ((¬ nI o' = (43 : Int32) → ((¬ nI o' = (45 : Int32) → ((¬ nI o' = (42 : Int32) → ((¬ nI o' = (47 : Int32) → (¬ b = 0 ∧ (w_md_give (a - a / b * b) I1 R (fun I3 R2 => (w_md_draw (nI p) (a - a / b * b) I3 R2 (fun I4 R3 => Q (1 : Int32) I4 R3)))))) ∧ (nI o' = (47 : Int32) → (¬ b = 0 ∧ (w_md_give (a / b) I1 R (fun I3 R2 => (w_md_draw (nI p) (a / b) I3 R2 (fun I4 R3 => Q (1 : Int32) I4 R3)))))))) ∧ (nI o' = (42 : Int32) → (w_md_give (a * b) I1 R (fun I3 R2 => (w_md_draw (nI p) (a * b) I3 R2 (fun I4 R3 => Q (1 : Int32) I4 R3))))))) ∧ (nI o' = (45 : Int32) → (w_md_give (a - b) I1 R (fun I3 R2 => (w_md_draw (nI p) (a - b) I3 R2 (fun I4 R3 => Q (1 : Int32) I4 R3))))))) ∧ (nI o' = (43 : Int32) → (w_md_give (a + b) I1 R (fun I3 R2 => (w_md_draw (nI p) (a + b) I3 R2 (fun I4 R3 => Q (1 : Int32) I4 R3)))))) → j_md_reckon_58 Q (nI o') (nI p) b a I1 R := by
    intro o' hlt hrk hrk2 h
    unfold j_md_reckon_58
    refine (xr_rank (by omega)).mpr ?_
    exact xa_f' (xa_ne 3 (by omega)) h
  rcases xv_ops hl h2 h4 with rfl | rfl | rfl | rfl | rfl | rfl | rfl | rfl | rfl | rfl | rfl
  · refine xa_f (by decide) (xa_t' rfl ?_)
    unfold j_md_reckon_47
    by_cases hb : b = 0
    · exact xa_t' hb (stop' hb (Or.inl rfl))
    · exact xa_f' hb (ar 37 (by decide) (by decide) (by decide) (xa_f' (by decide) (xa_f' (by decide) (xa_f' (by decide) (xa_f' (by decide) ⟨hb, fin _ (by unfold xp_op; simp [hb])⟩)))))
  · exact xa_f (by decide) (xa_f' (by decide) (ar 42 (by decide) (by decide) (by decide) (xa_f' (by decide) (xa_f' (by decide) (xa_t' rfl (fin _ rfl))))))
  · exact xa_f (by decide) (xa_f' (by decide) (ar 43 (by decide) (by decide) (by decide) (xa_t' rfl (fin _ rfl))))
  · exact xa_f (by decide) (xa_f' (by decide) (ar 45 (by decide) (by decide) (by decide) (xa_f' (by decide) (xa_t' rfl (fin _ rfl)))))
  · refine xa_t rfl ?_
    unfold j_md_reckon_47
    by_cases hb : b = 0
    · exact xa_t' hb (stop' hb (Or.inr rfl))
    · exact xa_f' hb (ar 47 (by decide) (by decide) (by decide) (xa_f' (by decide) (xa_f' (by decide) (xa_f' (by decide) (xa_t' rfl ⟨hb, fin _ (by unfold xp_op; simp [hb])⟩)))))
  · exact xa_f (by decide) (xa_f' (by decide) (cmp 60 (by decide) (by decide) (xa_f' (by decide) (xa_f' (by decide) (xa_f' (by decide) (xa_f' (by decide) (xa_t' rfl (yw_truth2 (b := a < b) (Int32.not_lt).symm (fin _ rfl)))))))))
  · exact xa_f (by decide) (xa_f' (by decide) (cmp 62 (by decide) (by decide) (xa_f' (by decide) (xa_f' (by decide) (xa_f' (by decide) (xa_f' (by decide) (xa_f' (by decide) (yw_truth2 (b := b < a) (Int32.not_lt).symm (fin _ rfl)))))))))
  · exact xa_f (by decide) (xa_f' (by decide) (cmp 128 (by decide) (by decide) (xa_t' rfl (yw_truth (b := a = b) (fin _ rfl)))))
  · exact xa_f (by decide) (xa_f' (by decide) (cmp 129 (by decide) (by decide) (xa_f' (by decide) (xa_t' rfl (yw_truth2 (b := ¬ a = b) (Decidable.not_not).symm (fin _ rfl))))))
  · exact xa_f (by decide) (xa_f' (by decide) (cmp 130 (by decide) (by decide) (xa_f' (by decide) (xa_f' (by decide) (xa_t' rfl (yw_truth2 (b := a ≤ b) (Int32.not_le).symm (fin _ rfl)))))))
  · exact xa_f (by decide) (xa_f' (by decide) (cmp 131 (by decide) (by decide) (xa_f' (by decide) (xa_f' (by decide) (xa_f' (by decide) (xa_t' rfl (yw_truth2 (b := b ≤ a) (Int32.not_le).symm (fin _ rfl))))))))
theorem yv_kB {o lv p : Nat} (hs0 : s0 < 800) (ho : I 128 s0 = nI (xt_ka o)) (hsp : I 130 s0 = nI p) (hl : xp_lev o = lv) (h2 : 2 ≤ lv) (h4 : lv ≤ 4) (h : w_md_reckon (nI (xt_ka o)) (nI p) I R (fun v3 I4 R3 => ((¬ v3 = 0 → Q (nI (s0 + 1)) I4 R3) ∧ (v3 = 0 → Q (-1 : Int32) I4 R3)))) : w_md_one (nI s0) I R Q := by
  have hin : vp_in (nI s0) 800 := vp_in_nI hs0 (by omega)
  unfold w_md_one
  rw [nI_clamp (by omega), ho, hsp, nI_1]
  rcases xv_ops hl h2 h4 with rfl | rfl | rfl | rfl | rfl | rfl | rfl | rfl | rfl | rfl | rfl <;> exact ⟨hin, xa_f' (by decide) (xa_f' (by decide) (xa_f' (by decide) (xa_f' (by decide) (xa_f' (by decide) (xa_f (by decide) (xa_f (by decide) (xa_f (by decide) (xa_f' (by decide) ⟨hin, h⟩))))))))⟩
end
