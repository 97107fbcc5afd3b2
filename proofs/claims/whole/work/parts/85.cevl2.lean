theorem xv_CD_sp {I : pI} {q s : Nat} {c d : List xp_I} (h : xc_CD I q s (c ++ d)) : xc_CD I q s c ∧ xc_CD I q (s + c.length) d := by
  refine ⟨fun i e hi => ?_, fun i e hi => ?_⟩
  · have hl := xa_some_lt hi
    exact h i e (by rw [List.getElem?_append_left hl]; exact hi)
  · have := h (c.length + i) e (by rw [List.getElem?_append_right (by omega)]; simpa using hi)
    rw [← Nat.add_assoc] at this; exact this
theorem xv_CD_cn {I : pI} {q s : Nat} {u : xp_I} {d : List xp_I} (h : xc_CD I q s (u :: d)) : (I (q + 3) s = nI u.1 ∧ I (q + 4) s = nI u.2.1 ∧ I (q + 5) s = nI (s + u.2.2.1) ∧ I (q + 6) s = nI u.2.2.2) ∧ xc_CD I q (s + 1) d := by
  have h1 := h 0 u rfl
  have h2 := (xv_CD_sp (c := [u]) (d := d) h).2
  exact ⟨h1, h2⟩
theorem xv_OC_sp {I : pI} {s : Nat} {c d : List xp_I} {O : Nat → Int32} (h : xv_OC I s (c ++ d) O) : xv_OC I s c O ∧ xv_OC I (s + c.length) d O := by
  refine ⟨fun i e hi => ?_, fun i e hi => ?_⟩
  · have hl := xa_some_lt hi
    exact h i e (by rw [List.getElem?_append_left hl]; exact hi)
  · have := h (c.length + i) e (by rw [List.getElem?_append_right (by omega)]; simpa using hi)
    rw [← Nat.add_assoc] at this; exact this
theorem xv_CI_sp {c d : List xp_I} (h : xv_CI (c ++ d)) : xv_CI c ∧ xv_CI d := ⟨fun e he => h e (List.mem_append_left _ he), fun e he => h e (List.mem_append_right _ he)⟩
theorem xv_CI_cn {u : xp_I} {d : List xp_I} (h : xv_CI (u :: d)) : (u.1 < 8 ∧ u.2.1 < 20000 ∧ u.2.2.2 < 120 ∧ (u.1 = 1 → u.2.1 < 26) ∧ (u.1 = 4 → u.2.1 ≤ 1)) ∧ xv_CI d := ⟨h u (by simp), fun e he => h e (by simp [he])⟩
theorem xv_CD_S {I I' : pI} {q oc s : Nat} {c : List xp_I} (hq : q = 54 ∨ q = 81) (hoc : xv_oc oc) (h : xc_CD I q s c) (f : xa_fr (xv_S oc) I I') : xc_CD I' q s c := by
  unfold xv_oc at hoc
  intro i e hi
  have := h i e hi
  rw [xv_S_o f _ _ (by omega), xv_S_o f _ _ (by omega), xv_S_o f _ _ (by omega), xv_S_o f _ _ (by omega)]
  exact this
theorem xv_OC_S {I I' : pI} {oc s : Nat} {c : List xp_I} {O : Nat → Int32} (hoc : xv_oc oc) (h : xv_OC I s c O) (f : xa_fr (xv_S oc) I I') : xv_OC I' s c O := by
  unfold xv_oc at hoc
  intro i e hi h5
  rw [xv_S_o f _ _ (by omega)]; exact h i e hi h5
/-- pop and note -/
theorem xv_repl {I : pI} {R : pR} {t p : Nat} {g : Int32 → Int32} {Q : pI → pR → Prop} (ht : I 115 7 = nI (t + 1)) (hb : t < 120) (hp : p < 120) (h : ∀ I', xa_fr xv_SN I I' → I' 117 = xv_w1 (I 117) [(p, g (I 116 t))] → I' 118 = xv_w2 (I 118) [(p, g (I 116 t))] → (∀ j, j ≠ t → I' 116 j = I 116 j) → I' 116 t = g (I 116 t) → I' 115 7 = nI (t + 1) → Q I' R) : w_ev_pop I R (fun v I1 R1 => w_ev_note (nI p) (g v) I1 R1 (fun I2 R2 => Q I2 R2)) := by
  refine xv_pop ht hb (fun I1 f1 e7 e8 e6 et => ?_)
  refine xv_note (t := t) et hb hp (fun I' f' a b c d e => h I' (xa_fr_t f1 f') ?_ ?_ ?_ d e)
  · rw [a, e7]
  · rw [b, e8]
  · intro j hj; rw [c j hj, e6]
section
variable {I : pI} {R : pR} {q s0 t : Nat} {u : xp_I} {Q : Int32 → pI → pR → Prop}
theorem xv_k0 (hq : q = 54 ∨ q = 81) (hR : R 115 5 = some q) (hs : s0 < 120) (hu : I (q + 3) s0 = nI u.1 ∧ I (q + 4) s0 = nI u.2.1 ∧ I (q + 5) s0 = nI (s0 + u.2.2.1) ∧ I (q + 6) s0 = nI u.2.2.2) (ht : I 115 7 = nI t) (hb : t < 120) (hk : u.1 = 0) (h : ∀ I', xa_fr xv_SN I I' → I' 117 = I 117 → I' 118 = I 118 → (∀ j, j ≠ t → I' 116 j = I 116 j) → I' 116 t = nI u.2.1 → I' 115 7 = nI (t + 1) → Q (nI (s0 + 1)) I' R) : w_ev_perform (nI s0) I R Q := by
  unfold w_ev_perform
  refine ⟨q, hR, xv_q_sh hq, ?_⟩
  rw [xq_pick hs (by omega), hu.2.1, xq_pick hs (by omega), hu.2.2.2, xq_pick hs (by omega), hu.1, hk, nI_1]
  exact xa_t rfl (xv_push ht hb h)
theorem xv_k1 {g : Bool} {oc : Nat} {V : Nat → Int32} {s : xp_S} (hq : q = 54 ∨ q = 81) (hR : R 115 5 = some q) (hoc : xv_oc oc) (hR6 : R 115 6 = some oc) (st : xv_St g I oc V s) (hs : s0 < 120) (hu : I (q + 3) s0 = nI u.1 ∧ I (q + 4) s0 = nI u.2.1 ∧ I (q + 5) s0 = nI (s0 + u.2.2.1) ∧ I (q + 6) s0 = nI u.2.2.2) (ht : I 115 7 = nI t) (hb : t < 120) (hk : u.1 = 1) (hv : u.2.1 < 26) (hp : u.2.2.2 < 120) (h : ∀ I', xa_fr xv_SN I I' → I' 117 = xv_w1 (I 117) [(u.2.2.2, V u.2.1)] → I' 118 = xv_w2 (I 118) [(u.2.2.2, V u.2.1)] → (∀ j, j ≠ t → I' 116 j = I 116 j) → I' 116 t = V u.2.1 → I' 115 7 = nI (t + 1) → Q (nI (s0 + 1)) I' R) : w_ev_perform (nI s0) I R Q := by
  unfold w_ev_perform
  refine ⟨q, hR, xv_q_sh hq, ?_⟩
  rw [xq_pick hs (by omega), hu.2.1, xq_pick hs (by omega), hu.2.2.2, xq_pick hs (by omega), hu.1, hk, nI_1]
  refine xa_f (by decide) (xa_t rfl ⟨oc, hR6, xv_oc_sh hoc, ?_⟩)
  rw [xq_pick hv (by omega), st.1 _ hv]
  exact xv_note ht hb hp h
theorem xv_k2 (hq : q = 54 ∨ q = 81) (hR : R 115 5 = some q) (hs : s0 < 120) (hu : I (q + 3) s0 = nI u.1 ∧ I (q + 4) s0 = nI u.2.1 ∧ I (q + 5) s0 = nI (s0 + u.2.2.1) ∧ I (q + 6) s0 = nI u.2.2.2) (ht : I 115 7 = nI (t + 1)) (hb : t < 120) (hk : u.1 = 2) (hp : u.2.2.2 < 120) (h : ∀ I', xa_fr xv_SN I I' → I' 117 = xv_w1 (I 117) [(u.2.2.2, -(I 116 t))] → I' 118 = xv_w2 (I 118) [(u.2.2.2, -(I 116 t))] → (∀ j, j ≠ t → I' 116 j = I 116 j) → I' 116 t = -(I 116 t) → I' 115 7 = nI (t + 1) → Q (nI (s0 + 1)) I' R) : w_ev_perform (nI s0) I R Q := by
  unfold w_ev_perform
  refine ⟨q, hR, xv_q_sh hq, ?_⟩
  rw [xq_pick hs (by omega), hu.2.1, xq_pick hs (by omega), hu.2.2.2, xq_pick hs (by omega), hu.1, hk, nI_1]
  exact xa_f (by decide) (xa_f (by decide) (xa_t rfl (xv_repl (g := fun v => -v) ht hb hp h)))
theorem xv_k3 (hq : q = 54 ∨ q = 81) (hR : R 115 5 = some q) (hs : s0 < 120) (hu : I (q + 3) s0 = nI u.1 ∧ I (q + 4) s0 = nI u.2.1 ∧ I (q + 5) s0 = nI (s0 + u.2.2.1) ∧ I (q + 6) s0 = nI u.2.2.2) (ht : I 115 7 = nI (t + 1)) (hb : t < 120) (hk : u.1 = 3) (hp : u.2.2.2 < 120) (h : ∀ I', xa_fr xv_SN I I' → I' 117 = xv_w1 (I 117) [(u.2.2.2, xp_tr (I 116 t = 0))] → I' 118 = xv_w2 (I 118) [(u.2.2.2, xp_tr (I 116 t = 0))] → (∀ j, j ≠ t → I' 116 j = I 116 j) → I' 116 t = xp_tr (I 116 t = 0) → I' 115 7 = nI (t + 1) → Q (nI (s0 + 1)) I' R) : w_ev_perform (nI s0) I R Q := by
  unfold w_ev_perform
  refine ⟨q, hR, xv_q_sh hq, ?_⟩
  rw [xq_pick hs (by omega), hu.2.1, xq_pick hs (by omega), hu.2.2.2, xq_pick hs (by omega), hu.1, hk, nI_1]
  refine xa_f (by decide) (xa_f (by decide) (xa_f (by decide) (xa_t rfl ?_)))
  refine xv_pop ht hb (fun I1 f1 e7 e8 e6 et => ?_)
  refine xv_truth (b := I 116 t = 0) (Q := fun v10 I10 R10 => w_ev_note (nI u.2.2.2) v10 I10 R10 (fun I11 R11 => Q (nI (s0 + 1)) I11 R11)) ?_
  refine xv_note (t := t) et hb hp (fun I' f' a b c d e => h I' (xa_fr_t f1 f') ?_ ?_ ?_ d e)
  · rw [a, e7]
  · rw [b, e8]
  · intro j hj; rw [c j hj, e6]
theorem xv_k4 (hq : q = 54 ∨ q = 81) (hR : R 115 5 = some q) (hs : s0 < 120) (hu : I (q + 3) s0 = nI u.1 ∧ I (q + 4) s0 = nI u.2.1 ∧ I (q + 5) s0 = nI (s0 + u.2.2.1) ∧ I (q + 6) s0 = nI u.2.2.2) (ht : I 115 7 = nI (t + 1)) (hb : t < 120) (hk : u.1 = 4) (h : ∀ I', xa_fr xv_SN I I' → I' 117 = I 117 → I' 118 = I 118 → I' 116 = I 116 → I' 115 7 = nI t → w_ev_answer (nI u.2.1) (I 116 t) (nI u.2.2.2) I' R (fun v15 I15 R15 => w_ev_note (nI u.2.2.2) v15 I15 R15 (fun I16 R16 => Q (nI (s0 + 1)) I16 R16))) : w_ev_perform (nI s0) I R Q := by
  unfold w_ev_perform
  refine ⟨q, hR, xv_q_sh hq, ?_⟩
  rw [xq_pick hs (by omega), hu.2.1, xq_pick hs (by omega), hu.2.2.2, xq_pick hs (by omega), hu.1, hk, nI_1]
  exact xa_f (by decide) (xa_f (by decide) (xa_f (by decide) (xa_f (by decide) (xa_t rfl (xv_pop ht hb h)))))
theorem xv_k5 (hq : q = 54 ∨ q = 81) (hR : R 115 5 = some q) (hs : s0 < 120) (hu : I (q + 3) s0 = nI u.1 ∧ I (q + 4) s0 = nI u.2.1 ∧ I (q + 5) s0 = nI (s0 + u.2.2.1) ∧ I (q + 6) s0 = nI u.2.2.2) (ht : I 115 7 = nI t) (hb : t < 120) (hk : u.1 = 5) (hp : u.2.2.2 < 120) (h : ∀ I', xa_fr xv_SN I I' → I' 117 = xv_w1 (I 117) [(u.2.2.2, I 119 s0)] → I' 118 = xv_w2 (I 118) [(u.2.2.2, I 119 s0)] → (∀ j, j ≠ t → I' 116 j = I 116 j) → I' 116 t = I 119 s0 → I' 115 7 = nI (t + 1) → Q (nI (s0 + u.2.2.1)) I' R) : w_ev_perform (nI s0) I R Q := by
  unfold w_ev_perform
  refine ⟨q, hR, xv_q_sh hq, ?_⟩
  rw [xq_pick hs (by omega), hu.2.1, xq_pick hs (by omega), hu.2.2.2, xq_pick hs (by omega), hu.1, hk, nI_1]
  refine xa_f (by decide) (xa_f (by decide) (xa_f (by decide) (xa_f (by decide) (xa_f (by decide) (xa_t rfl ?_)))))
  rw [xq_pick hs (by omega)]
  refine xv_note ht hb hp (fun I' f a b c d e => ?_)
  rw [xq_pick hs (by omega), xv_SN_o f _ _ (by omega), hu.2.2.1]
  exact h I' f a b c d e
theorem xv_k6 (hq : q = 54 ∨ q = 81) (hR : R 115 5 = some q) (hs : s0 < 120) (hu : I (q + 3) s0 = nI u.1 ∧ I (q + 4) s0 = nI u.2.1 ∧ I (q + 5) s0 = nI (s0 + u.2.2.1) ∧ I (q + 6) s0 = nI u.2.2.2) (ht : I 115 7 = nI (t + 1)) (hb : t < 120) (hk : u.1 = 6) (ho : u.2.1 = 264 ∨ u.2.1 = 265) (hp : u.2.2.2 < 120)
    (h1 : xp_dec u.2.1 (I 116 t) = true → ∀ I', xa_fr xv_SN I I' → I' 117 = xv_w1 (I 117) [(u.2.2.2, xp_tr (I 116 t ≠ 0))] → I' 118 = xv_w2 (I 118) [(u.2.2.2, xp_tr (I 116 t ≠ 0))] → (∀ j, j ≠ t → I' 116 j = I 116 j) → I' 116 t = xp_tr (I 116 t ≠ 0) → I' 115 7 = nI (t + 1) → Q (nI (s0 + u.2.2.1)) I' R)
    (h2 : xp_dec u.2.1 (I 116 t) = false → Q (nI (s0 + 1)) I R) : w_ev_perform (nI s0) I R Q := by
  unfold w_ev_perform
  refine ⟨q, hR, xv_q_sh hq, ?_⟩
  rw [xq_pick hs (by omega), hu.2.1, xq_pick hs (by omega), hu.2.2.2, xq_pick hs (by omega), hu.1, hk, nI_1]
  refine xa_f (by decide) (xa_f (by decide) (xa_f (by decide) (xa_f (by decide) (xa_f (by decide) (xa_f (by decide) (xa_t rfl ?_))))))
  rw [ht, nI_pred, xq_pick hb (by omega)]
  refine xv_decided ho ?_
  cases hd : xp_dec u.2.1 (I 116 t) with
  | false => exact xa_t rfl (h2 hd)
  | true =>
    refine xa_f (by decide) ?_
    refine xv_pop ht hb (fun I1 f1 e7 e8 e6 et => ?_)
    refine xv_truth2 (b := I 116 t ≠ 0) (Decidable.not_not).symm (Q := fun v10 I10 R10 => w_ev_note (nI u.2.2.2) v10 I10 R10 (fun I24 R24 => w_sr_pick (q + 5) 120 (nI s0) I24 R24 (fun v25 I25 R25 => Q v25 I25 R25))) ?_
    refine xv_note (t := t) et hb hp (fun I' f' a b c d e => ?_)
    rw [xq_pick hs (by omega), xv_SN_o f' _ _ (by omega), xv_SN_o f1 _ _ (by omega), hu.2.2.1]
    refine h1 hd I' (xa_fr_t f1 f') ?_ ?_ ?_ d e
    · rw [a, e7]
    · rw [b, e8]
    · intro j hj; rw [c j hj, e6]
theorem xv_k7 (hq : q = 54 ∨ q = 81) (hR : R 115 5 = some q) (hs : s0 < 120) (hu : I (q + 3) s0 = nI u.1 ∧ I (q + 4) s0 = nI u.2.1 ∧ I (q + 5) s0 = nI (s0 + u.2.2.1) ∧ I (q + 6) s0 = nI u.2.2.2) (ht : I 115 7 = nI (t + 2)) (hb : t + 1 < 120) (hk : u.1 = 7) (h : ∀ I', xa_fr xv_SN I I' → I' 117 = I 117 → I' 118 = I 118 → I' 116 = I 116 → I' 115 7 = nI t → w_ev_operate (nI u.2.1) (I 116 t) (I 116 (t + 1)) (nI u.2.2.2) I' R (fun v15 I15 R15 => w_ev_note (nI u.2.2.2) v15 I15 R15 (fun I16 R16 => Q (nI (s0 + 1)) I16 R16))) : w_ev_perform (nI s0) I R Q := by
  unfold w_ev_perform
  refine ⟨q, hR, xv_q_sh hq, ?_⟩
  rw [xq_pick hs (by omega), hu.2.1, xq_pick hs (by omega), hu.2.2.2, xq_pick hs (by omega), hu.1, hk, nI_1]
  refine xa_f (by decide) (xa_f (by decide) (xa_f (by decide) (xa_f (by decide) (xa_f (by decide) (xa_f (by decide) (xa_f (by decide) ?_))))))
  refine xv_pop (t := t + 1) ht (by omega) (fun I1 f1 e7 e8 e6 et => ?_)
  refine xv_pop (t := t) et (by omega) (fun I2 f2 g7 g8 g6 gt => ?_)
  rw [e6]
  refine h I2 (xa_fr_t f1 f2) ?_ ?_ ?_ gt
  · rw [g7, e7]
  · rw [g8, e8]
  · rw [g6, e6]
end
theorem xv_step {I : pI} {R : pR} {f2 s0 turn : Nat} {K : pI → pR → Prop} {Q : Int32 → pI → pR → Prop} (h1 : turn ≤ s0) (h2 : s0 < f2) (h3 : f2 ≤ 120) (ht : I 115 11 = 0) (h : w_ev_perform (nI s0) I R (fun v1 I3 R1 => l_ev_evaluate_15 (nI f2) K Q (121 - (turn + 1)) v1 (nI (turn + 1)) I3 R1)) : l_ev_evaluate_15 (nI f2) K Q (121 - turn) (nI s0) (nI turn) I R := by
  rw [show 121 - turn = (121 - (turn + 1)) + 1 by omega]
  unfold l_ev_evaluate_15
  rw [nI_1]
  exact xa_f (fun hh => by have := (xa_lle 120 (by omega) (by omega)).mp hh; omega) (xa_f (fun hh => by have := (nI_leI (by omega) (by omega)).mp hh; omega) (xa_t' ht h))
theorem xv_stp {I : pI} {R : pR} {turn : Nat} {f2 v1 : Int32} {K : pI → pR → Prop} {Q : Int32 → pI → pR → Prop} (h1 : turn ≤ 120) (ht : ¬ I 115 11 = 0) (h : K I R) : l_ev_evaluate_15 f2 K Q (121 - turn) v1 (nI turn) I R := by
  rw [show 121 - turn = (120 - turn) + 1 by omega]
  unfold l_ev_evaluate_15
  refine ⟨fun _ => h, fun _ => ⟨fun _ => h, fun _ => xa_f' ht h⟩⟩
