/-! THE CLASS EVALUATES -/
def xv_u (g : Nat → Int32) (k : Nat) (v : Int32) : Nat → Int32 := fun j => if j = k then v else g j
theorem xv_uw (I : pI) (p k : Nat) (v : Int32) : pw_wI I p k v p = xv_u (I p) k v := by funext j; rw [xa_w]; simp [xv_u]
def xv_w1 (g : Nat → Int32) (D : List (Nat × Int32)) : Nat → Int32 := D.foldl (fun g e => xv_u g e.1 1) g
def xv_w2 (g : Nat → Int32) (D : List (Nat × Int32)) : Nat → Int32 := D.foldl (fun g e => xv_u g e.1 e.2) g
theorem xv_w1_app (g : Nat → Int32) (D E : List (Nat × Int32)) : xv_w1 g (D ++ E) = xv_w1 (xv_w1 g D) E := List.foldl_append
theorem xv_w2_app (g : Nat → Int32) (D E : List (Nat × Int32)) : xv_w2 g (D ++ E) = xv_w2 (xv_w2 g D) E := List.foldl_append
def xv_B (b : Nat) (s : xp_S) : Prop := ∀ r, ∃ h, h ≤ b ∧ s (2 + r) = nI h
theorem xv_B_m {b b' : Nat} {s : xp_S} (h : xv_B b s) (hb : b ≤ b') : xv_B b' s := fun r => by obtain ⟨x, hx, e⟩ := h r; exact ⟨x, by omega, e⟩
def xv_St (g : Bool) (I : pI) (oc : Nat) (V : Nat → Int32) (s : xp_S) : Prop := (∀ v, v < 26 → I (oc + 1) v = V v) ∧ I (oc + 2) 0 = s 0 ∧ I (oc + 2) 1 = s 1 ∧ (g = true → ∀ r, r < 22 → I 120 r = s (2 + r))
theorem xv_St_f {g : Bool} {I : pI} {oc : Nat} {V : Nat → Int32} {s : xp_S} (h : xv_St g I oc V s) : xv_St false I oc V s := ⟨h.1, h.2.1, h.2.2.1, fun hg => absurd hg (by decide)⟩
def xv_OC (I : pI) (s0 : Nat) (c : List xp_I) (O : Nat → Int32) : Prop := ∀ i e, c[i]? = some e → e.1 = 5 → I 119 (s0 + i) = O e.2.2.2
def xv_CI (c : List xp_I) : Prop := ∀ e, e ∈ c → e.1 < 8 ∧ e.2.1 < 20000 ∧ e.2.2.2 < 120 ∧ (e.1 = 1 → e.2.1 < 26) ∧ (e.1 = 4 → e.2.1 ≤ 1)
/-- what an evaluation may write -/
def xv_S (oc p k : Nat) : Bool := (p == 115 && (k == 7 || k == 11 || k == 12)) || p == 116 || p == 117 || p == 118 || p == 120 || p == oc + 2
def xv_SN (p k : Nat) : Bool := (p == 115 && k == 7) || p == 116 || p == 117 || p == 118
def xv_SC (oc p k : Nat) : Bool := p == 120 || p == oc + 2
def xv_SD (oc p k : Nat) : Bool := p == 120 || p == oc + 2 || (p == 115 && (k == 11 || k == 12))
def xv_oc (oc : Nat) : Prop := oc = 6 ∨ oc = 14 ∨ oc = 22 ∨ oc = 30 ∨ oc = 38 ∨ oc = 46
theorem xv_oc_sh {oc : Nat} (h : xv_oc oc) : pSH[oc]? = some (0, 6) := by rcases h with rfl | rfl | rfl | rfl | rfl | rfl <;> rfl
theorem xv_q_sh {q : Nat} (h : q = 54 ∨ q = 81) : pSH[q]? = some (0, 5) := by rcases h with rfl | rfl <;> rfl
theorem xv_SN_f {oc : Nat} {I I' : pI} (h : xa_fr xv_SN I I') : xa_fr (xv_S oc) I I' := xa_fr_m h (fun p k hp => by
  simp only [xv_S, xv_SN, Bool.or_eq_false_iff, Bool.and_eq_false_iff, beq_eq_false_iff_ne] at hp ⊢; omega)
theorem xv_SC_f {oc : Nat} {I I' : pI} (h : xa_fr (xv_SC oc) I I') : xa_fr (xv_S oc) I I' := xa_fr_m h (fun p k hp => by
  simp only [xv_S, xv_SC, Bool.or_eq_false_iff, Bool.and_eq_false_iff, beq_eq_false_iff_ne] at hp ⊢; omega)
theorem xv_SD_f {oc : Nat} {I I' : pI} (h : xa_fr (xv_SD oc) I I') : xa_fr (xv_S oc) I I' := xa_fr_m h (fun p k hp => by
  simp only [xv_S, xv_SD, Bool.or_eq_false_iff, Bool.and_eq_false_iff, beq_eq_false_iff_ne] at hp ⊢; omega)
theorem xv_SN_o {I I' : pI} (h : xa_fr xv_SN I I') (p k : Nat) (hp : ¬ (p = 115 ∧ k = 7) ∧ p ≠ 116 ∧ p ≠ 117 ∧ p ≠ 118) : I' p k = I p k := h p k (by
  simp only [xv_SN, Bool.or_eq_false_iff, Bool.and_eq_false_iff, beq_eq_false_iff_ne]; omega)
theorem xv_S_o {oc : Nat} {I I' : pI} (h : xa_fr (xv_S oc) I I') (p k : Nat) (hp : p ≠ 115 ∧ p ≠ 116 ∧ p ≠ 117 ∧ p ≠ 118 ∧ p ≠ 120 ∧ p ≠ oc + 2) : I' p k = I p k := h p k (by
  simp only [xv_S, Bool.or_eq_false_iff, Bool.and_eq_false_iff, beq_eq_false_iff_ne]; omega)
theorem xv_SC_o {oc : Nat} {I I' : pI} (h : xa_fr (xv_SC oc) I I') (p k : Nat) (hp : p ≠ 120 ∧ p ≠ oc + 2) : I' p k = I p k := h p k (by
  simp only [xv_SC, Bool.or_eq_false_iff, beq_eq_false_iff_ne]; omega)
theorem xv_SD_o {oc : Nat} {I I' : pI} (h : xa_fr (xv_SD oc) I I') (p k : Nat) (hp : p ≠ 120 ∧ p ≠ oc + 2 ∧ ¬ (p = 115 ∧ (k = 11 ∨ k = 12))) : I' p k = I p k := h p k (by
  simp only [xv_SD, Bool.or_eq_false_iff, Bool.and_eq_false_iff, beq_eq_false_iff_ne]; omega)
theorem xv_St_N {g : Bool} {I I' : pI} {oc : Nat} {V : Nat → Int32} {s : xp_S} (hoc : xv_oc oc) (h : xv_St g I oc V s) (f : xa_fr xv_SN I I') : xv_St g I' oc V s := by
  unfold xv_oc at hoc
  obtain ⟨a, b, c, d⟩ := h
  refine ⟨fun v hv => ?_, ?_, ?_, fun hg r hr => ?_⟩
  · rw [xv_SN_o f _ _ (by omega)]; exact a v hv
  · rw [xv_SN_o f _ _ (by omega)]; exact b
  · rw [xv_SN_o f _ _ (by omega)]; exact c
  · rw [xv_SN_o f _ _ (by omega)]; exact d hg r hr
theorem xv_push {I : pI} {R : pR} {t : Nat} {v : Int32} {Q : pI → pR → Prop} (ht : I 115 7 = nI t) (hb : t < 120) (h : ∀ I', xa_fr xv_SN I I' → I' 117 = I 117 → I' 118 = I 118 → (∀ j, j ≠ t → I' 116 j = I 116 j) → I' 116 t = v → I' 115 7 = nI (t + 1) → Q I' R) : w_ev_push v I R Q := by
  unfold w_ev_push
  rw [ht]
  refine xa_f (nI_pos (by omega)) (xa_f (fun hh => by have := (xa_lle 120 (by omega) (by omega)).mp hh; omega) ⟨vp_in_nI hb (by omega), ?_⟩)
  rw [nI_clamp (by omega)]
  refine xa_a (xa_a (h _ ?_ ?_ ?_ ?_ ?_ ?_))
  · exact xa_fr_w (xa_fr_w (xa_fr_r _ _) rfl) rfl
  · rw [xa_p (by decide), xa_p (by decide)]
  · rw [xa_p (by decide), xa_p (by decide)]
  · intro j hj; rw [xa_p (by decide), xa_w, if_neg (fun h => hj h.2)]
  · rw [xa_p (by decide), xa_w, if_pos ⟨rfl, rfl⟩]
  · rw [xa_w, if_pos ⟨rfl, rfl⟩, xa_p (by decide), ht, nI_1]
theorem xv_note {I : pI} {R : pR} {t p : Nat} {v : Int32} {Q : pI → pR → Prop} (ht : I 115 7 = nI t) (hb : t < 120) (hp : p < 120) (h : ∀ I', xa_fr xv_SN I I' → I' 117 = xv_w1 (I 117) [(p, v)] → I' 118 = xv_w2 (I 118) [(p, v)] → (∀ j, j ≠ t → I' 116 j = I 116 j) → I' 116 t = v → I' 115 7 = nI (t + 1) → Q I' R) : w_ev_note (nI p) v I R Q := by
  unfold w_ev_note
  refine xc_put (by omega) hp (xc_put (by omega) hp ?_)
  refine xv_push (t := t) ?_ hb (fun I' f e7 e8 e6 ev et => h I' (xa_fr_t (xa_fr_w (xa_fr_w (xa_fr_r _ _) rfl) rfl) f) ?_ ?_ ?_ ev et)
  · rw [xa_p (by decide), xa_p (by decide)]; exact ht
  · rw [e7, xa_p (by decide), xv_uw]; rfl
  · rw [e8, xv_uw, xa_p (by decide)]; rfl
  · intro j hj; rw [e6 j hj, xa_p (by decide), xa_p (by decide)]
theorem xv_pop {I : pI} {R : pR} {t : Nat} {Q : Int32 → pI → pR → Prop} (ht : I 115 7 = nI (t + 1)) (hb : t < 120) (h : ∀ I', xa_fr xv_SN I I' → I' 117 = I 117 → I' 118 = I 118 → I' 116 = I 116 → I' 115 7 = nI t → Q (I 116 t) I' R) : w_ev_pop I R Q := by
  unfold w_ev_pop
  rw [ht]
  refine xa_f (fun hh => by have := (xa_lel 0 (by omega) (by omega)).mp hh; omega) (xa_t ((xa_lel 120 (by omega) (by omega)).mpr (by omega)) ?_)
  rw [nI_pred]
  refine xa_a ?_
  have e : pw_wI I 115 7 (nI t) 115 7 = nI t := by rw [xa_w, if_pos ⟨rfl, rfl⟩]
  rw [e, nI_clamp (by omega)]
  refine ⟨vp_in_nI (by omega) (by omega), ?_⟩
  rw [xa_p (show ¬ 116 = 115 by decide)]
  refine h _ (xa_fr_w (xa_fr_r _ _) rfl) (xa_p (by decide)) (xa_p (by decide)) (xa_p (by decide)) e
theorem xv_ops {o lv : Nat} (h : xp_lev o = lv) (h2 : 2 ≤ lv) (h4 : lv ≤ 4) : o = 37 ∨ o = 42 ∨ o = 43 ∨ o = 45 ∨ o = 47 ∨ o = 60 ∨ o = 62 ∨ o = 260 ∨ o = 261 ∨ o = 262 ∨ o = 263 := by
  unfold xp_lev at h
  repeat' split at h
  all_goals omega
theorem xv_truth {I : pI} {R : pR} {b : Prop} [Decidable b] {Q : Int32 → pI → pR → Prop} (h : Q (xp_tr b) I R) : (¬ b → w_sr_truth 0 I R (fun v I R => Q v I R)) ∧ (b → w_sr_truth 1 I R (fun v I R => Q v I R)) := by
  unfold xp_tr at h
  by_cases hb : b
  · rw [if_pos hb] at h; exact xa_t' hb (xa_f (by decide) h)
  · rw [if_neg hb] at h; exact xa_f' hb (xa_t rfl h)
theorem xv_truth2 {I : pI} {R : pR} {b c : Prop} [Decidable b] (hc : c ↔ ¬ b) {Q : Int32 → pI → pR → Prop} (h : Q (xp_tr b) I R) : (c → w_sr_truth 0 I R (fun v I R => Q v I R)) ∧ (¬ c → w_sr_truth 1 I R (fun v I R => Q v I R)) := by
  have := xv_truth (Q := Q) h
  exact ⟨fun a => this.1 (hc.mp a), fun a => this.2 (Decidable.not_not.mp (fun h => a (hc.mpr h)))⟩
theorem xv_operate {I : pI} {R : pR} {o lv p : Nat} {a b : Int32} {Q : Int32 → pI → pR → Prop} (hl : xp_lev o = lv) (h2 : 2 ≤ lv) (h4 : lv ≤ 4) (hs : ∀ w, xp_op o a b = some w → Q w I R) (hn : xp_op o a b = none → Q 0 (pw_wI (pw_wI I 115 11 3) 115 12 (nI p)) R) : w_ev_operate (nI o) a b (nI p) I R Q := by
  have stop : b = 0 → (o = 37 ∨ o = 47) → w_ev_stop 3 (nI p) I R (fun I2 R2 => Q 0 I2 R2) := by
    intro hb ho
    refine xa_a (xa_a (hn ?_))
    rcases ho with rfl | rfl <;> (unfold xp_op; simp [hb])
  unfold w_ev_operate
  rcases xv_ops hl h2 h4 with rfl | rfl | rfl | rfl | rfl | rfl | rfl | rfl | rfl | rfl | rfl
  · refine xa_t rfl ?_
    by_cases hb : b = 0
    · exact ⟨fun e => absurd hb e, fun e => stop e (Or.inl rfl)⟩
    · refine ⟨fun _ => xa_f' (by decide) ⟨hb, hs _ (by unfold xp_op; simp [hb])⟩, fun e => absurd e hb⟩
  · exact xa_f (by decide) (xa_t rfl (hs _ rfl))
  · exact xa_f (by decide) (xa_f (by decide) (xa_t rfl (hs _ rfl)))
  · exact xa_f (by decide) (xa_f (by decide) (xa_f (by decide) (xa_t rfl (hs _ rfl))))
  · refine xa_f (by decide) (xa_f (by decide) (xa_f (by decide) (xa_f (by decide) (xa_t rfl ?_))))
    by_cases hb : b = 0
    · exact ⟨fun e => absurd hb e, fun e => stop e (Or.inr rfl)⟩
    · refine ⟨fun _ => xa_t' rfl ⟨hb, hs _ (by unfold xp_op; simp [hb])⟩, fun e => absurd e hb⟩
  · exact xa_f (by decide) (xa_f (by decide) (xa_f (by decide) (xa_f (by decide) (xa_f (by decide) (xa_t rfl (xv_truth2 (b := a < b) (Int32.not_lt).symm (hs _ rfl)))))))
  · exact xa_f (by decide) (xa_f (by decide) (xa_f (by decide) (xa_f (by decide) (xa_f (by decide) (xa_f (by decide) (xa_t rfl (xv_truth2 (b := b < a) (Int32.not_lt).symm (hs _ rfl))))))))
  · exact xa_f (by decide) (xa_f (by decide) (xa_f (by decide) (xa_f (by decide) (xa_f (by decide) (xa_f (by decide) (xa_f (by decide) (xa_t rfl (xv_truth (b := a = b) (hs _ rfl)))))))))
  · exact xa_f (by decide) (xa_f (by decide) (xa_f (by decide) (xa_f (by decide) (xa_f (by decide) (xa_f (by decide) (xa_f (by decide) (xa_f (by decide) (xa_t rfl (xv_truth2 (b := ¬ a = b) (Decidable.not_not).symm (hs _ rfl))))))))))
  · exact xa_f (by decide) (xa_f (by decide) (xa_f (by decide) (xa_f (by decide) (xa_f (by decide) (xa_f (by decide) (xa_f (by decide) (xa_f (by decide) (xa_f (by decide) (xa_t rfl (xv_truth2 (b := a ≤ b) (Int32.not_le).symm (hs _ rfl)))))))))))
  · exact xa_f (by decide) (xa_f (by decide) (xa_f (by decide) (xa_f (by decide) (xa_f (by decide) (xa_f (by decide) (xa_f (by decide) (xa_f (by decide) (xa_f (by decide) (xa_f (by decide) (xa_t rfl (xv_truth2 (b := b ≤ a) (Int32.not_le).symm (hs _ rfl))))))))))))
theorem xv_operateL {I : pI} {R : pR} {o : Nat} {a b p : Int32} {Q : Int32 → pI → pR → Prop} (ho : o = 264 ∨ o = 265) (hs : Q (xp_tr (b ≠ 0)) I R) : w_ev_operate (nI o) a b p I R Q := by
  unfold w_ev_operate
  rcases ho with rfl | rfl
  · exact xa_f (by decide) (xa_f (by decide) (xa_f (by decide) (xa_f (by decide) (xa_f (by decide) (xa_f (by decide) (xa_f (by decide) (xa_f (by decide) (xa_f (by decide) (xa_f (by decide) (xa_f (by decide) (xv_truth2 (b := b ≠ 0) (Decidable.not_not).symm hs)))))))))))
  · exact xa_f (by decide) (xa_f (by decide) (xa_f (by decide) (xa_f (by decide) (xa_f (by decide) (xa_f (by decide) (xa_f (by decide) (xa_f (by decide) (xa_f (by decide) (xa_f (by decide) (xa_f (by decide) (xv_truth2 (b := b ≠ 0) (Decidable.not_not).symm hs)))))))))))
theorem xv_decided {I : pI} {R : pR} {o : Nat} {a : Int32} {Q : Int32 → pI → pR → Prop} (ho : o = 264 ∨ o = 265) (hs : Q (if xp_dec o a then 1 else 0) I R) : w_ev_isDecided (nI o) a I R Q := by
  unfold w_ev_isDecided
  rcases ho with rfl | rfl
  · refine xa_f' (by decide) ?_
    unfold j_ev_isDecided_12
    by_cases ha : a = 0
    · refine xa_t ha (xa_t' rfl ?_)
      simpa [xp_dec, ha] using hs
    · refine xa_f ha (xa_f' (by decide) ?_)
      simpa [xp_dec, ha] using hs
  · refine xa_t' rfl ?_
    unfold j_ev_isDecided_12
    by_cases ha : a = 0
    · refine xa_t ha (xa_f' (by decide) ?_)
      simpa [xp_dec, ha] using hs
    · refine xa_f ha (xa_t' rfl ?_)
      simpa [xp_dec, ha] using hs
