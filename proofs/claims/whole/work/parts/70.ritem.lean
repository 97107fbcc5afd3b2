/-! THE REFERENCE'S ITEMS -/
def xk_kd (k : Nat) : Nat := if k = 0 then 1 else if k = 1 then 3 else if k = 2 then 8 else if k = 3 then 2 else if k = 8 then 9 else k
def xk_mo (m : Option Nat) : Int32 := match m with
  | some v => nI v
  | none => -1
def xk_tg (hs : List (Nat × Nat)) (it : xi_I) : Int32 := if xi_k it = 8 then (match xi_tg it with
    | some c => (match hs[c]? with
      | some e => nI e.1
      | none => 0)
    | none => 0)
  else match xi_tg it with
    | some v => nI v
    | none => -1
def xk_IE (I : pI) (i k part : Nat) (tg : Int32) (fr to fi la : Nat) : Prop := I 131 i = nI k ∧ I 132 i = nI part ∧ I 133 i = tg ∧ I 134 i = nI fr ∧ I 135 i = nI to ∧ I 136 i = nI fi ∧ I 137 i = nI la
def xk_RE (I : pI) (i : Nat) (ru : xi_R) (a b : Nat) : Prop := I 138 i = nI (xi_le ru) ∧ I 139 i = xk_mo (xi_mo ru) ∧ I 140 i = nI (xi_wh ru) ∧ I 141 i = nI (xi_ft ru) ∧ I 142 i = nI (xi_fg ru) ∧ I 143 i = nI a ∧ I 144 i = nI b
def xk_IO (I : pI) (o : Nat) (hs : List (Nat × Nat)) (its : List xi_I) : Prop := ∀ j it, its[j]? = some it → xk_IE I (100 * o + j) (xk_kd (xi_k it)) (xi_pt it) (xk_tg hs it) (400 * o + (xi_G (its.take j)).length) (400 * o + (xi_G (its.take (j + 1))).length) (xi_fi it) (xi_la it) ∧ (xi_k it = 7 → xk_RE I (100 * o + j) (xi_ru it) (120 * o + ((xi_rs (its.take j)).flatMap xi_an).length) (120 * o + ((xi_rs (its.take (j + 1))).flatMap xi_an).length))
def xk_AM (I : pI) (o : Nat) (l : List Int32) : Prop := I 121 33 = nI (120 * o + l.length) ∧ ∀ i a, l[i]? = some a → I 146 (120 * o + i) = a
def xk_ER (I : pI) (er : Option (Nat × Nat)) : Prop := match er with
  | none => I 121 55 = 0 ∧ I 121 56 = -1
  | some e => I 121 55 = nI e.1 ∧ I 121 56 = nI e.2 ∧ 0 < e.1 ∧ e.1 < 10 ∧ e.2 < 1000
def xk_RS (I : pI) (o part rows : Nat) (hs : List (Nat × Nat)) (its : List xi_I) (er : Option (Nat × Nat)) (rc : Int32) : Prop := (I 121 32 = nI (100 * o + its.length) ∧ xk_IO I o hs its) ∧ xk_AM I o ((xi_rs its).flatMap xi_an) ∧ xk_ER I er ∧ I 121 34 = nI part ∧ I 121 35 = nI rows ∧ I 121 54 = nI hs.length ∧ (∀ i e, hs[i]? = some e → I 157 i = nI e.1) ∧ I 121 52 = rc
def xk_ST (I : pI) (ts : List (Nat × Nat × Nat × Nat)) (L o p part rows : Nat) (hs : List (Nat × Nat)) (its : List xi_I) (ev : List (Nat × Nat × Nat × Int32)) (er : Option (Nat × Nat)) (rc : Int32) : Prop := xr_TK I ts L ∧ xr_IT I (400 * o) p (xi_G its) ev ∧ xk_RS I o part rows hs its er rc
def xk_S (o p k : Nat) : Bool := (p == 121 && (k == 7 || k == 8 || k == 15 || k == 32 || k == 33 || k == 34 || k == 35 || k == 39 || k == 43 || k == 44 || k == 45 || k == 46 || k == 47 || k == 52 || k == 54 || k == 55 || k == 56)) || (decide (128 ≤ p) && decide (p ≤ 130) && decide (400 * o ≤ k) && decide (k < 400 * o + 400)) || (decide (131 ≤ p) && decide (p ≤ 144) && decide (100 * o ≤ k) && decide (k < 100 * o + 100)) || (p == 146 && decide (120 * o ≤ k) && decide (k < 120 * o + 120)) || (decide (150 ≤ p) && decide (p ≤ 157))
theorem xk_S_r {o : Nat} : ∀ p k, xk_S o p k = false → xr_S (400 * o) p k = false := by
  intro p k hp
  simp only [xk_S, xr_S, Bool.or_eq_false_iff, Bool.and_eq_false_iff, beq_eq_false_iff_ne, decide_eq_false_iff_not] at hp ⊢
  omega
theorem xk_S_tk {o : Nat} : ∀ p k, 123 ≤ p → p ≤ 126 → xk_S o p k = false := by
  intro p k h1 h2
  simp only [xk_S, Bool.or_eq_false_iff, Bool.and_eq_false_iff, beq_eq_false_iff_ne, decide_eq_false_iff_not]
  omega
theorem xk_IO_fr {I I' : pI} {o : Nat} {hs : List (Nat × Nat)} {its : List xi_I} (h : xk_IO I o hs its) (f : ∀ p k, 131 ≤ p → p ≤ 144 → 100 * o ≤ k → k < 100 * o + its.length → I' p k = I p k) : xk_IO I' o hs its := by
  intro j it hj
  have hl := xa_some_lt hj
  have g : ∀ p, 131 ≤ p → p ≤ 144 → I' p (100 * o + j) = I p (100 * o + j) := fun p a b => f p _ a b (by omega) (by omega)
  have := h j it hj
  unfold xk_IE xk_RE at this ⊢
  rw [g 131 (by omega) (by omega), g 132 (by omega) (by omega), g 133 (by omega) (by omega), g 134 (by omega) (by omega), g 135 (by omega) (by omega), g 136 (by omega) (by omega), g 137 (by omega) (by omega), g 138 (by omega) (by omega), g 139 (by omega) (by omega), g 140 (by omega) (by omega), g 141 (by omega) (by omega), g 142 (by omega) (by omega), g 143 (by omega) (by omega), g 144 (by omega) (by omega)]
  exact this
theorem xk_ER_fr {I I' : pI} {er : Option (Nat × Nat)} (h : xk_ER I er) (a : I' 121 55 = I 121 55) (b : I' 121 56 = I 121 56) : xk_ER I' er := by
  unfold xk_ER at h ⊢
  cases er with
  | none => simp only at h ⊢; rw [a, b]; exact h
  | some e => simp only at h ⊢; rw [a, b]; exact h
theorem xk_RS_ag {I I' : pI} {o part rows : Nat} {hs : List (Nat × Nat)} {its : List xi_I} {er : Option (Nat × Nat)} {rc : Int32} (h : xk_RS I o part rows hs its er rc) (f1 : ∀ k, k = 32 ∨ k = 33 ∨ k = 34 ∨ k = 35 ∨ k = 54 ∨ k = 52 ∨ k = 55 ∨ k = 56 → I' 121 k = I 121 k) (f2 : ∀ p k, 131 ≤ p → p ≤ 144 → 100 * o ≤ k → k < 100 * o + its.length → I' p k = I p k) (f3 : ∀ k, I' 146 k = I 146 k) (f4 : ∀ k, I' 157 k = I 157 k) : xk_RS I' o part rows hs its er rc := by
  obtain ⟨⟨a1, a2⟩, ⟨b1, b2⟩, c, d, e, g, h, i⟩ := h
  exact ⟨⟨by rw [f1 32 (by omega)]; exact a1, xk_IO_fr a2 f2⟩, ⟨by rw [f1 33 (by omega)]; exact b1, fun i a hi => by rw [f3]; exact b2 i a hi⟩, xk_ER_fr c (f1 55 (by omega)) (f1 56 (by omega)), by rw [f1 34 (by omega)]; exact d, by rw [f1 35 (by omega)]; exact e, by rw [f1 54 (by omega)]; exact g, fun i e hi => by rw [f4]; exact h i e hi, by rw [f1 52 (by omega)]; exact i⟩
theorem xk_RS_fr {I I' : pI} {b o part rows : Nat} {hs : List (Nat × Nat)} {its : List xi_I} {er : Option (Nat × Nat)} {rc : Int32} (h : xk_RS I o part rows hs its er rc) (fr : xa_fr (xr_S b) I I') : xk_RS I' o part rows hs its er rc := by
  have f : ∀ p k, ¬ ((p = 121 ∧ (k = 7 ∨ k = 8 ∨ k = 15 ∨ k = 39 ∨ k = 43 ∨ k = 44 ∨ k = 45 ∨ k = 46 ∨ k = 47)) ∨ (128 ≤ p ∧ p ≤ 130) ∨ (150 ≤ p ∧ p ≤ 156)) → I' p k = I p k := fun p k hp => fr p k (by
    simp only [xr_S, Bool.or_eq_false_iff, Bool.and_eq_false_iff, beq_eq_false_iff_ne, decide_eq_false_iff_not]; omega)
  exact xk_RS_ag h (fun k hk => f _ _ (by omega)) (fun p k a b _ _ => f _ _ (by omega)) (fun k => f _ _ (by omega)) (fun k => f _ _ (by omega))
/-- an item that is begun -/
def xk_PD (I : pI) (o n k part : Nat) (tg : Int32) (cf fi : Nat) : Prop := I 131 (100 * o + n) = nI k ∧ I 132 (100 * o + n) = nI part ∧ I 133 (100 * o + n) = tg ∧ I 134 (100 * o + n) = nI cf ∧ I 136 (100 * o + n) = nI fi
theorem xk_PD_fr {I I' : pI} {b o n k part cf fi : Nat} {tg : Int32} (h : xk_PD I o n k part tg cf fi) (fr : xa_fr (xr_S b) I I') : xk_PD I' o n k part tg cf fi := by
  have f : ∀ p k, 131 ≤ p → p ≤ 144 → I' p k = I p k := fun p k a b => fr p k (by
    simp only [xr_S, Bool.or_eq_false_iff, Bool.and_eq_false_iff, beq_eq_false_iff_ne, decide_eq_false_iff_not]; omega)
  obtain ⟨a, b, c, d, e⟩ := h
  exact ⟨by rw [f _ _ (by omega) (by omega)]; exact a, by rw [f _ _ (by omega) (by omega)]; exact b, by rw [f _ _ (by omega) (by omega)]; exact c, by rw [f _ _ (by omega) (by omega)]; exact d, by rw [f _ _ (by omega) (by omega)]; exact e⟩
theorem xk_begin {I : pI} {R : pR} {L o p part rows k : Nat} {ts : List (Nat × Nat × Nat × Nat)} {hs : List (Nat × Nat)} {its : List xi_I} {ev : List (Nat × Nat × Nat × Int32)} {er : Option (Nat × Nat)} {rc : Int32} {Q : pI → pR → Prop} (ho : o ≤ 1) (st : xk_ST I ts L o p part rows hs its ev er rc) (hl : its.length < 100) (hp : p ≤ ts.length) (hk : k < 20)
    (h : ∀ I', xk_ST I' ts L o p part rows hs its ev er rc → xk_PD I' o its.length k (if k = 9 then rows else part) (-1) (400 * o + (xi_G its).length) (xt_pl ts L p) → xa_fr (xk_S o) I I' → Q I' R) : w_md_begin (nI k) I R Q := by
  obtain ⟨tk, it, rs⟩ := st
  have h1 := tk.1.1; have h2 := tk.1.2.1
  have s0 := rs.1.1
  have hv : vp_in (nI (100 * o + its.length)) 200 := vp_in_nI (by omega) (by decide)
  have hc : (nI (100 * o + its.length)).toNatClampNeg = 100 * o + its.length := nI_clamp (by omega)
  have hj : ∀ pt, pt = (if k = 9 then rows else part) → ∀ I1, I1 = pw_wI I 131 (100 * o + its.length) (nI k) → j_md_begin_35 Q (nI (100 * o + its.length)) (nI pt) I1 R := by
    intro pt hpt I1 e1
    have f1 : ∀ p' k', p' ≠ 131 → I1 p' k' = I p' k' := fun p' k' hp => by rw [e1, xa_p hp]
    unfold j_md_begin_35
    rw [hc]
    refine ⟨hv, fun I2 e2 => ?_⟩
    have f2 : ∀ p' k', p' ≠ 132 → I2 p' k' = I1 p' k' := fun p' k' hp => by rw [e2, xa_p hp]
    rw [f2 _ _ (by decide), f1 _ _ (by decide), s0, hc]
    refine ⟨hv, fun I3 e3 => ?_⟩
    have f3 : ∀ p' k', p' ≠ 133 → I3 p' k' = I2 p' k' := fun p' k' hp => by rw [e3, xa_p hp]
    rw [f3 121 32 (by decide), f2 121 32 (by decide), f1 121 32 (by decide), s0, hc, f3 121 15 (by decide), f2 121 15 (by decide), f1 121 15 (by decide), it.2.1]
    refine ⟨hv, fun I4 e4 => ?_⟩
    have f4 : ∀ p' k', p' ≠ 134 → I4 p' k' = I3 p' k' := fun p' k' hp => by rw [e4, xa_p hp]
    rw [f4 121 32 (by decide), f3 121 32 (by decide), f2 121 32 (by decide), f1 121 32 (by decide), s0, hc, f4 121 7 (by decide), f3 121 7 (by decide), f2 121 7 (by decide), f1 121 7 (by decide), it.1, nI_clamp (by omega), f4 125 _ (by decide), f3 125 _ (by decide), f2 125 _ (by decide), f1 125 _ (by decide), (xr_tok tk hp).2.2.1]
    refine ⟨vp_in_nI (by omega) (by omega), hv, fun I5 e5 => ?_⟩
    have hI : ∀ p' i, I5 p' i = (if p' = 136 ∧ i = 100 * o + its.length then nI (xt_pl ts L p) else if p' = 134 ∧ i = 100 * o + its.length then nI (400 * o + (xi_G its).length) else if p' = 133 ∧ i = 100 * o + its.length then -1 else if p' = 132 ∧ i = 100 * o + its.length then nI pt else if p' = 131 ∧ i = 100 * o + its.length then nI k else I p' i) := by
      intro p' i; rw [e5, xa_w, e4, xa_w, e3, xa_w, e2, xa_w, e1, xa_w]
    have fr : xa_fr (xk_S o) I I5 := by
      rw [e5, e4, e3, e2, e1]
      refine xa_fr_w (xa_fr_w (xa_fr_w (xa_fr_w (xa_fr_w (xa_fr_r _ _) ?_) ?_) ?_) ?_) ?_ <;> (simp [xk_S]; omega)
    have g : ∀ p' i, ¬ (131 ≤ p' ∧ p' ≤ 136 ∧ i = 100 * o + its.length) → I5 p' i = I p' i := fun p' i hp => by
      rw [hI, if_neg (by omega), if_neg (by omega), if_neg (by omega), if_neg (by omega), if_neg (by omega)]
    refine h I5 ⟨xr_TK_fr tk fr xk_S_tk, ?_, xk_RS_ag rs (fun k hk => g _ _ (by omega)) (fun p k a b c d => g _ _ (by omega)) (fun k => g _ _ (by omega)) (fun k => g _ _ (by omega))⟩ ⟨?_, ?_, ?_, ?_, ?_⟩ fr
    · obtain ⟨i0, i1, i2, i3⟩ := it
      exact ⟨by rw [g _ _ (by omega)]; exact i0, by rw [g _ _ (by omega)]; exact i1, xr_CD_fr i2 (fun q k a b _ _ => g _ _ (by omega)), xr_EV_fr i3 (g _ _ (by omega)) (fun q k a b => g _ _ (by omega))⟩
    · rw [hI]; simp
    · rw [hI]; simp [hpt]
    · rw [hI]; simp
    · rw [hI]; simp
    · rw [hI]; simp
  unfold w_md_begin
  rw [s0, hc]
  refine ⟨hv, fun I1 e1 => ?_⟩
  have f1 : ∀ p' k', p' ≠ 131 → I1 p' k' = I p' k' := fun p' k' hp => by rw [e1, xa_p hp]
  rw [f1 121 32 (by decide), s0, f1 121 34 (by decide), rs.2.2.2.1, f1 121 35 (by decide), rs.2.2.2.2.1]
  by_cases h9 : k = 9
  · exact xa_t' (xa_e 9 h9) (hj rows (by rw [if_pos h9]) I1 e1)
  · exact xa_f' (xa_ne 9 (by omega)) (hj part (by rw [if_neg h9]) I1 e1)
theorem xi_G_app (a b : List xi_I) : xi_G (a ++ b) = xi_G a ++ xi_G b := List.flatMap_append
theorem xi_G_one (it : xi_I) : xi_G [it] = (xi_x it).2.1 := by simp [xi_G]
theorem xk_finish {I : pI} {R : pR} {L o p part rows k : Nat} {ts : List (Nat × Nat × Nat × Nat)} {hs : List (Nat × Nat)} {its : List xi_I} {it : xi_I} {ev : List (Nat × Nat × Nat × Int32)} {er : Option (Nat × Nat)} {rc tg : Int32} {Q : Int32 → pI → pR → Prop} {K : pI → pR → Prop} (ho : o ≤ 1) (tk : xr_TK I ts L) (ic : xr_IT I (400 * o) p (xi_G (its ++ [it])) ev) (hgl : (xi_G (its ++ [it])).length < 400) (rs : (I 121 32 = nI (100 * o + its.length) ∧ xk_IO I o hs its) ∧ xk_AM I o ((xi_rs (its ++ [it])).flatMap xi_an) ∧ xk_ER I er ∧ I 121 34 = nI part ∧ I 121 35 = nI rows ∧ I 121 54 = nI hs.length ∧ (∀ i e, hs[i]? = some e → I 157 i = nI e.1) ∧ I 121 52 = rc) (pd : xk_PD I o its.length (xk_kd (xi_k it)) (xi_pt it) (xk_tg hs it) (400 * o + (xi_G its).length) (xi_fi it)) (hre : xi_k it = 7 → xk_RE I (100 * o + its.length) (xi_ru it) (120 * o + ((xi_rs its).flatMap xi_an).length) (120 * o + ((xi_rs (its ++ [it])).flatMap xi_an).length)) (hl : its.length < 100) (hp : p ≤ ts.length) (hp0 : 0 < p) (hla : xt_en ts L (p - 1) = xi_la it)
    (h : ∀ I', xk_ST I' ts L o p part rows hs (its ++ [it]) ev er rc → xa_fr (xk_S o) I I' → K I' R) : w_md_finish I R K := by
  have h1 := tk.1.1; have h2 := tk.1.2.1
  obtain ⟨⟨s0, io⟩, am, er', c34, c35, c54, c157, c52⟩ := rs
  have hv : vp_in (nI (100 * o + its.length)) 200 := vp_in_nI (by omega) (by decide)
  have hc : (nI (100 * o + its.length)).toNatClampNeg = 100 * o + its.length := nI_clamp (by omega)
  unfold w_md_finish
  rw [s0, hc, ic.2.1]
  refine ⟨hv, fun I1 e1 => ?_⟩
  have f1 : ∀ p' k', p' ≠ 135 → I1 p' k' = I p' k' := fun p' k' hp => by rw [e1, xa_p hp]
  rw [f1 121 7 (by decide), ic.1, xa_m1 hp0, nI_clamp (by omega), f1 121 32 (by decide), s0, hc, f1 126 _ (by decide), (tk.2 (p - 1) (by omega)).2.2.2, hla]
  refine ⟨vp_in_nI (by omega) (by omega), hv, fun I2 e2 => ?_⟩
  have f2 : ∀ p' k', p' ≠ 137 → I2 p' k' = I1 p' k' := fun p' k' hp => by rw [e2, xa_p hp]
  rw [f2 121 32 (by decide), f1 121 32 (by decide), s0, nI_1]
  intro I3 e3
  have hI : ∀ p' i, I3 p' i = (if p' = 121 ∧ i = 32 then nI (100 * o + its.length + 1) else if p' = 137 ∧ i = 100 * o + its.length then nI (xi_la it) else if p' = 135 ∧ i = 100 * o + its.length then nI (400 * o + (xi_G (its ++ [it])).length) else I p' i) := by
    intro p' i; rw [e3, xa_w, e2, xa_w, e1, xa_w]
  have fr : xa_fr (xk_S o) I I3 := by
    rw [e3, e2, e1]
    refine xa_fr_w (xa_fr_w (xa_fr_w (xa_fr_r _ _) ?_) ?_) rfl <;> (simp [xk_S]; omega)
  have g : ∀ p' i, ¬ ((p' = 121 ∧ i = 32) ∨ ((p' = 137 ∨ p' = 135) ∧ i = 100 * o + its.length)) → I3 p' i = I p' i := fun p' i hp => by
    rw [hI, if_neg (by omega), if_neg (by omega), if_neg (by omega)]
  refine h I3 ⟨xr_TK_fr tk fr xk_S_tk, ?_, ⟨?_, ?_⟩, ?_, xk_ER_fr er' (g _ _ (by omega)) (g _ _ (by omega)), by rw [g _ _ (by omega)]; exact c34, by rw [g _ _ (by omega)]; exact c35, by rw [g _ _ (by omega)]; exact c54, fun i e hi => by rw [g _ _ (by omega)]; exact c157 i e hi, by rw [g _ _ (by omega)]; exact c52⟩ fr
  · obtain ⟨i0, i1, i2, i3⟩ := ic
    exact ⟨by rw [g _ _ (by omega)]; exact i0, by rw [g _ _ (by omega)]; exact i1, xr_CD_fr i2 (fun q k a b _ _ => g _ _ (by omega)), xr_EV_fr i3 (g _ _ (by omega)) (fun q k a b => g _ _ (by omega))⟩
  · rw [hI]; simp; congr 1
  · intro j u hj
    rcases xa_app hj with ⟨hj', hlt⟩ | ⟨hj', he⟩
    · rw [List.take_append_of_le_length (by omega), List.take_append_of_le_length (by omega)]
      exact xk_IO_fr io (fun p k a b c d => g _ _ (by omega)) j u hj'
    · subst hj'; subst he
      rw [xa_take1, xa_take2]
      obtain ⟨a, b, c, d, e⟩ := pd
      refine ⟨⟨by rw [g _ _ (by omega)]; exact a, by rw [g _ _ (by omega)]; exact b, by rw [g _ _ (by omega)]; exact c, by rw [g _ _ (by omega)]; exact d, by rw [hI]; simp, by rw [g _ _ (by omega)]; exact e, by rw [hI]; simp⟩, fun h7 => ?_⟩
      have := hre h7
      unfold xk_RE at this ⊢
      rw [g 138 _ (by omega), g 139 _ (by omega), g 140 _ (by omega), g 141 _ (by omega), g 142 _ (by omega), g 143 _ (by omega), g 144 _ (by omega)]
      exact this
  · exact ⟨by rw [g _ _ (by omega)]; exact am.1, fun i a hi => by rw [g _ _ (by omega)]; exact am.2 i a hi⟩
