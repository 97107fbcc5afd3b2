/-! THE CLASS READS A STATEMENT -/
theorem xs_of_FL {I0 I I' : pI} {R : pR} {q L p g : Nat} {ts : List (Nat × Nat × Nat × Nat)} {cm : Prop} (z : xi_Z I0 I R q ts L p) (fl : xc_FL I I' q ts L g cm) : xs_FS I0 I' q ts L g := by
  obtain ⟨cx, h1, h2, h3, h4, h5⟩ := z
  have hq := cx.2.2.2.2
  obtain ⟨a, b, c, d⟩ := fl
  refine ⟨a, ?_, fun e he => ?_, xa_fr_t h4 (xa_fr_m d xs_S_of)⟩
  · rcases b with b | ⟨_, b⟩
    · exact Or.inl b
    · exact Or.inr b
  · by_cases h2 : e.1 = 2
    · have key : ∀ e, e ∈ xs_caps → e.1 = 2 → e = (2, 4, 120) := by decide
      rw [key e he h2]; exact c
    · have := xs_caps_lt e he
      rw [d _ _ ?_]; exact h3 e he
      simp only [xc_S, Bool.or_eq_false_iff, Bool.and_eq_false_iff, beq_eq_false_iff_ne, decide_eq_false_iff_not]; omega
theorem xi_chainC {I0 I : pI} {R : pR} {q L p s lv : Nat} {ok : Bool} {ts : List (Nat × Nat × Nat × Nat)} {Q : pI → pR → Prop} (z : xi_Z I0 I R q ts L p) (hok : I 108 4 = (if ok = true then 1 else 0)) (hs : I (q + 2) 4 = nI s) (hsp : s ≤ xt_pl ts L p) (hlv : lv ≤ 4)
    (h1 : ∀ p' x, xp_P (xt_kd ts L) (xt_nm ts L) (xt_pl ts L) 64 0 lv 0 ok p = .inr (p', x) → ∀ I', xi_Z I0 I' R q ts L p' → I' (q + 2) 4 = nI (s + x.1.length) → xc_CD I' q s x.1 → xa_fr (xc_S q s) I I' → I' 108 4 = (if ok = true then 1 else 0) → Q I' R)
    (h2 : ∀ g, xp_P (xt_kd ts L) (xt_nm ts L) (xt_pl ts L) 64 0 lv 0 ok p = .inl g → ∀ I', xs_FS I0 I' q ts L g → Q I' R) : w_ps_chain (nI lv) (nI 0) I R Q := by
  have cx := z.1
  have w := cx.2.2.1
  have hT := w.2.1
  have hL := w.1
  have hq := cx.2.2.2.2
  unfold w_ps_chain
  refine xc_pg 64 0 lv 0 ok p s I Q _ _ (by omega) (by omega) (by omega) (by unfold xc_mu; simp; omega) (fun _ => ⟨rfl, rfl⟩) (fun h => absurd rfl h) cx ⟨z.2.1, z.2.2.1, hok, hs⟩ z.2.2.2.2.2 hsp (fun p' x hx I' po => ?_) (fun g hg I' fl => h2 g hg I' (xs_of_FL z fl))
  have hlx := xp_len w (by omega) (by omega) hx
  have hpb := xt_pl_b w (i := p')
  refine h1 p' x hx I' ⟨xc_CX_fr cx po.2.2 (xc_S_tk hq), po.1.1, po.1.2.1, fun e he => ?_, xa_fr_t z.2.2.2.2.1 (xa_fr_m po.2.2 xs_S_of), hlx.2.1⟩ po.1.2.2.2 po.2.1 po.2.2 po.1.2.2.1
  by_cases h2 : e.1 = 2
  · have key : ∀ e, e ∈ xs_caps → e.1 = 2 → e = (2, 4, 120) := by decide
    rw [key e he h2]; exact ⟨_, by simp only; omega, po.1.2.2.2⟩
  · have := xs_caps_lt e he
    rw [po.2.2 _ _ ?_]; exact z.2.2.2.1 e he
    simp only [xc_S, Bool.or_eq_false_iff, Bool.and_eq_false_iff, beq_eq_false_iff_ne, decide_eq_false_iff_not]; omega
def xi_rs (its : List xi_I) : List xi_R := (its.filter (fun it => xi_k it == 7)).map xi_ru
theorem xi_rs_len (its : List xi_I) : (xi_rs its).length = xi_nr its := by simp [xi_rs, xi_nr]
def xi_det (its : List xi_I) (j : Nat) (it : xi_I) : Int32 := if xi_k it = 7 then nI (xi_nr (its.take j)) else match xi_tg it with
  | some v => nI v
  | none => -1
def xi_SE (I : pI) (q j k fi la cf ct : Nat) (det : Int32) : Prop := I (q + 8) j = nI k ∧ I (q + 9) j = nI fi ∧ I (q + 10) j = nI la ∧ I (q + 11) j = nI cf ∧ I (q + 12) j = nI ct ∧ I (q + 13) j = det
def xi_SO (I : pI) (q : Nat) (its : List xi_I) : Prop := ∀ j it, its[j]? = some it → xi_SE I q j (xi_k it) (xi_fi it) (xi_la it) (xi_C (its.take j)).length (xi_C (its.take (j + 1))).length (xi_det its j it)
def xi_SM (I : pI) (q : Nat) (its : List xi_I) : Prop := I (q + 7) 6 = nI its.length ∧ xi_SO I q its
def xi_SM1 (I : pI) (q : Nat) (its : List xi_I) (k fi cf : Nat) (det : Int32) : Prop := I (q + 7) 6 = nI (its.length + 1) ∧ xi_SO I q its ∧ I (q + 8) its.length = nI k ∧ I (q + 9) its.length = nI fi ∧ I (q + 11) its.length = nI cf ∧ I (q + 13) its.length = det
def xi_SS (q p k : Nat) : Bool := decide (q + 7 ≤ p) && decide (p ≤ q + 13)
theorem xi_SO_fr {I I' : pI} {q : Nat} {its : List xi_I} (h : xi_SO I q its) (f : ∀ p k, q + 8 ≤ p → p ≤ q + 13 → k < its.length → I' p k = I p k) : xi_SO I' q its := by
  intro j it hj
  have hl := xa_some_lt hj
  have := h j it hj
  unfold xi_SE at this ⊢
  rw [f (q + 8) j (by omega) (by omega) hl, f (q + 9) j (by omega) (by omega) hl, f (q + 10) j (by omega) (by omega) hl, f (q + 11) j (by omega) (by omega) hl, f (q + 12) j (by omega) (by omega) hl, f (q + 13) j (by omega) (by omega) hl]
  exact this
theorem xi_SM1_fr {I I' : pI} {q k fi cf : Nat} {det : Int32} {its : List xi_I} (h : xi_SM1 I q its k fi cf det) (f : ∀ p, q + 7 ≤ p → p ≤ q + 13 → I' p = I p) : xi_SM1 I' q its k fi cf det := by
  obtain ⟨a, b, c, d, e, g⟩ := h
  exact ⟨by rw [f _ (by omega) (by omega)]; exact a, xi_SO_fr b (fun p k h1 h2 _ => by rw [f p (by omega) h2]), by rw [f _ (by omega) (by omega)]; exact c, by rw [f _ (by omega) (by omega)]; exact d, by rw [f _ (by omega) (by omega)]; exact e, by rw [f _ (by omega) (by omega)]; exact g⟩
theorem xi_open {I : pI} {R : pR} {q k fi cf : Nat} {its : List xi_I} {Q : Int32 → pI → pR → Prop} (sm : xi_SM I q its) (hl : its.length < 61) (h : ∀ I', xi_SM1 I' q its k fi cf (-1) → xa_fr (xi_SS q) I I' → Q (nI its.length) I' R) : w_st_open (q + 7) (nI k) (nI fi) (nI cf) I R Q := by
  obtain ⟨a, b⟩ := sm
  have hb : vp_in (nI its.length) 61 := vp_in_nI hl (by decide)
  have hc : (nI its.length).toNatClampNeg = its.length := nI_clamp (by omega)
  unfold w_st_open
  rw [a, hc]
  refine xa_f (fun hh => by have := (xa_lle 61 (by omega) (by omega)).mp hh; omega) ⟨hb, fun I1 e1 => ?_⟩
  have s1 : I1 (q + 7) 6 = nI its.length := by rw [e1, xa_w]; simp [a]
  rw [s1, hc]
  refine ⟨hb, fun I2 e2 => ?_⟩
  have s2 : I2 (q + 7) 6 = nI its.length := by rw [e2, xa_w]; simp [s1]
  rw [s2, hc]
  refine ⟨hb, fun I3 e3 => ?_⟩
  have s3 : I3 (q + 7) 6 = nI its.length := by rw [e3, xa_w]; simp [s2]
  rw [s3, hc]
  refine ⟨hb, fun I4 e4 => ?_⟩
  have s4 : I4 (q + 7) 6 = nI its.length := by rw [e4, xa_w]; simp [s3]
  rw [s4, hc]
  refine ⟨hb, fun I5 e5 => ?_⟩
  have s5 : I5 (q + 7) 6 = nI its.length := by rw [e5, xa_w]; simp [s4]
  rw [s5, nI_1]
  intro I6 e6
  have hI : ∀ p' i, I6 p' i = (if p' = q + 7 ∧ i = 6 then nI (its.length + 1) else if p' = q + 13 ∧ i = its.length then -1 else if p' = q + 12 ∧ i = its.length then nI cf else if p' = q + 11 ∧ i = its.length then nI cf else if p' = q + 9 ∧ i = its.length then nI fi else if p' = q + 8 ∧ i = its.length then nI k else I p' i) := by
    intro p' i; rw [e6, xa_w, e5, xa_w, e4, xa_w, e3, xa_w, e2, xa_w, e1, xa_w]
  have s6 : I6 (q + 7) 6 = nI (its.length + 1) := by rw [hI]; simp
  rw [s6, nI_pred]
  refine h I6 ⟨s6, xi_SO_fr b (fun p k h1 h2 h3 => ?_), by rw [hI]; simp, by rw [hI]; simp, by rw [hI]; simp, by rw [hI]; simp⟩ ?_
  · rw [hI, if_neg (by omega), if_neg (by omega), if_neg (by omega), if_neg (by omega), if_neg (by omega), if_neg (by omega)]
  · intro p' i hp
    simp only [xi_SS, Bool.and_eq_false_iff, decide_eq_false_iff_not] at hp
    rw [hI, if_neg (by omega), if_neg (by omega), if_neg (by omega), if_neg (by omega), if_neg (by omega), if_neg (by omega)]
theorem xi_putk {I : pI} {R : pR} {q k k' fi cf : Nat} {det : Int32} {its : List xi_I} {Q : pI → pR → Prop} (sm : xi_SM1 I q its k fi cf det) (hl : its.length < 61) (h : ∀ I', xi_SM1 I' q its k' fi cf det → xa_fr (xi_SS q) I I' → I' (q + 7) = I (q + 7) → Q I' R) : w_sr_put (q + 8) 61 (nI its.length) (nI k') I R Q := by
  obtain ⟨a, b, c, d, e, g⟩ := sm
  refine xc_put (by decide) hl (h _ ⟨?_, xi_SO_fr b (fun p k h1 h2 h3 => ?_), ?_, ?_, ?_, ?_⟩ ?_ (xa_p (by omega)))
  · rw [xa_p (by omega)]; exact a
  · rw [xa_w, if_neg (by omega)]
  · rw [xa_w]; simp
  · rw [xa_p (by omega)]; exact d
  · rw [xa_p (by omega)]; exact e
  · rw [xa_p (by omega)]; exact g
  · exact xa_fr_w (xa_fr_r _ _) (by simp [xi_SS])
theorem xi_putd {I : pI} {R : pR} {q k fi cf : Nat} {det det' : Int32} {its : List xi_I} {Q : pI → pR → Prop} (sm : xi_SM1 I q its k fi cf det) (hl : its.length < 61) (h : ∀ I', xi_SM1 I' q its k fi cf det' → xa_fr (xi_SS q) I I' → I' (q + 7) = I (q + 7) → Q I' R) : w_sr_put (q + 13) 61 (nI its.length) det' I R Q := by
  obtain ⟨a, b, c, d, e, g⟩ := sm
  refine xc_put (by decide) hl (h _ ⟨?_, xi_SO_fr b (fun p k h1 h2 h3 => ?_), ?_, ?_, ?_, ?_⟩ ?_ (xa_p (by omega)))
  · rw [xa_p (by omega)]; exact a
  · rw [xa_w, if_neg (by omega)]
  · rw [xa_p (by omega)]; exact c
  · rw [xa_p (by omega)]; exact d
  · rw [xa_p (by omega)]; exact e
  · rw [xa_w]; simp
  · exact xa_fr_w (xa_fr_r _ _) (by simp [xi_SS])
theorem xi_C_app (a b : List xi_I) : xi_C (a ++ b) = xi_C a ++ xi_C b := List.flatMap_append
theorem xi_close {I : pI} {R : pR} {q la ct : Nat} {det : Int32} {it : xi_I} {its : List xi_I} {Q : pI → pR → Prop} (sm : xi_SM1 I q its (xi_k it) (xi_fi it) (xi_C its).length det) (hl : its.length < 61) (hla : la = xi_la it) (hct : ct = (xi_C (its ++ [it])).length) (hdet : det = xi_det (its ++ [it]) its.length it)
    (h : ∀ I', xi_SM I' q (its ++ [it]) → xa_fr (xi_SS q) I I' → Q I' R) : w_st_close (q + 7) (nI its.length) (nI la) (nI ct) I R Q := by
  obtain ⟨a, b, c, d, e, g⟩ := sm
  unfold w_st_close
  refine xc_put (by decide) hl (xc_put (by decide) hl ?_)
  have hI : ∀ p' i, (pw_wI (pw_wI I (q + 7 + 3) its.length (nI la)) (q + 7 + 5) its.length (nI ct)) p' i = (if p' = q + 12 ∧ i = its.length then nI ct else if p' = q + 10 ∧ i = its.length then nI la else I p' i) := by
    intro p' i; rw [xa_w, xa_w]
  generalize pw_wI (pw_wI I (q + 7 + 3) its.length (nI la)) (q + 7 + 5) its.length (nI ct) = I2 at hI ⊢
  refine h I2 ⟨by rw [hI]; simpa using a, fun j u hj => ?_⟩ ?_
  · rcases xa_app hj with ⟨hj', hlt⟩ | ⟨hj', he⟩
    · have := b j u hj'
      unfold xi_det at this ⊢
      rw [List.take_append_of_le_length (by omega), List.take_append_of_le_length (by omega)]
      unfold xi_SE at this ⊢
      simp only [hI]
      simp only [show ¬ j = its.length by omega, and_false, if_false]
      exact this
    · subst hj'; subst he
      rw [xa_take1, xa_take2]
      refine ⟨by rw [hI]; simpa using c, by rw [hI]; simpa using d, by rw [hI]; simp [hla], by rw [hI]; simpa using e, by rw [hI, hct]; simp, by rw [hI, ← hdet]; simpa using g⟩
  · intro p' i hp
    simp only [xi_SS, Bool.and_eq_false_iff, decide_eq_false_iff_not] at hp
    rw [hI, if_neg (by omega), if_neg (by omega)]
def xi_CM (I : pI) (q : Nat) (its : List xi_I) : Prop := xi_SM I q its ∧ I (q + 2) 4 = nI (xi_C its).length ∧ xc_CD I q 0 (xi_C its) ∧ xi_RM I q (xi_rs its)
theorem xi_Z_st {I0 I I' : pI} {R : pR} {q L p a : Nat} {ts : List (Nat × Nat × Nat × Nat)} (z : xi_Z I0 I R q ts L p) (fr : xa_fr (xi_SS q) I I') (ha : a ≤ 61) (e1 : I' (q + 7) 6 = nI a) : xi_Z I0 I' R q ts L p := by
  obtain ⟨cx, h1, h2, h3, h4, h5⟩ := z
  have hq := cx.2.2.2.2
  have f : ∀ p k, ¬ (q + 7 ≤ p ∧ p ≤ q + 13) → I' p k = I p k := fun p k hp => fr p k (by simp only [xi_SS, Bool.and_eq_false_iff, decide_eq_false_iff_not]; omega)
  refine ⟨xc_CX_fr cx fr (fun p k a b => by simp only [xi_SS, Bool.and_eq_false_iff, decide_eq_false_iff_not]; omega), by rw [f _ _ (by omega)]; exact h1, by rw [f _ _ (by omega)]; exact h2, fun e he => ?_, xa_fr_t h4 (xa_fr_m fr (fun p k hp => by simp only [xs_S, xi_SS, Bool.or_eq_false_iff, Bool.and_eq_false_iff, beq_eq_false_iff_ne, decide_eq_false_iff_not] at hp ⊢; omega)), h5⟩
  by_cases h14 : e.1 = 7
  · have key : ∀ e, e ∈ xs_caps → e.1 = 7 → e = (7, 6, 61) := by decide
    rw [key e he h14]; exact ⟨a, ha, e1⟩
  · have := xs_caps_lt e he
    rw [f _ _ (by omega)]; exact h3 e he
def xi_ST (q p k : Nat) : Bool := p == 108 || (decide (q + 2 ≤ p) && decide (p ≤ q + 22))
theorem xi_ST_SS {q : Nat} {I I' : pI} (h : xa_fr (xi_SS q) I I') : xa_fr (xi_ST q) I I' := xa_fr_m h (fun p k hp => by
  simp only [xi_ST, xi_SS, Bool.or_eq_false_iff, Bool.and_eq_false_iff, beq_eq_false_iff_ne, decide_eq_false_iff_not] at hp ⊢; omega)
theorem xi_ST_SX {q : Nat} {I I' : pI} (h : xa_fr (xi_SX q) I I') : xa_fr (xi_ST q) I I' := xa_fr_m h (fun p k hp => by
  simp only [xi_ST, xi_SX, Bool.or_eq_false_iff, Bool.and_eq_false_iff, beq_eq_false_iff_ne, decide_eq_false_iff_not] at hp ⊢; omega)
theorem xi_ST_c {q s : Nat} {I I' : pI} (h : xa_fr (xc_S q s) I I') : xa_fr (xi_ST q) I I' := xa_fr_m h (fun p k hp => by
  simp only [xi_ST, xc_S, Bool.or_eq_false_iff, Bool.and_eq_false_iff, beq_eq_false_iff_ne, decide_eq_false_iff_not] at hp ⊢; omega)
theorem xi_ST_o8 {q : Nat} {I I' : pI} (h : xi_o8 I I') : xa_fr (xi_ST q) I I' := fun p k hp => by
  simp only [xi_ST, Bool.or_eq_false_iff, beq_eq_false_iff_ne] at hp
  rw [h p hp.1]
/-- the end of a statement that has its expression, or none -/
theorem xi_end {I0 I : pI} {R : pR} {q L p' : Nat} {det : Int32} {it : xi_I} {its : List xi_I} {ts : List (Nat × Nat × Nat × Nat)} {Q : pI → pR → Prop} (z : xi_Z I0 I R q ts L p') (sm : xi_SM1 I q its (xi_k it) (xi_fi it) (xi_C its).length det) (hl : its.length < 61) (hp : 0 < p') (hla : xt_en ts L (p' - 1) = xi_la it) (hct : I (q + 2) 4 = nI (xi_C (its ++ [it])).length) (hcd : xc_CD I q 0 (xi_C (its ++ [it]))) (hrm : xi_RM I q (xi_rs (its ++ [it]))) (hdet : det = xi_det (its ++ [it]) its.length it)
    (h : ∀ I', xi_Z I0 I' R q ts L p' → xi_CM I' q (its ++ [it]) → xa_fr (xi_SS q) I I' → Q I' R) : j_ps_statement_235 q Q (nI its.length) I R := by
  have cx := z.1
  have w := cx.2.2.1
  have hT := w.2.1
  have hL := w.1
  have hq := cx.2.2.2.2
  have hp' := z.2.2.2.2.2
  unfold j_ps_statement_235
  rw [z.2.1, xa_m1 hp, xc_endOf cx (by omega)]
  refine ⟨q, cx.2.2.2.1, xc_sh hq, ?_⟩
  rw [hct]
  refine xi_close sm hl hla rfl hdet (fun I' sm' fr' => ?_)
  have f : ∀ p k, ¬ (q + 7 ≤ p ∧ p ≤ q + 13) → I' p k = I p k := fun p k hp => fr' p k (by simp only [xi_SS, Bool.and_eq_false_iff, decide_eq_false_iff_not]; omega)
  refine h I' (xi_Z_st z fr' (a := (its ++ [it]).length) (by simp; omega) sm'.1) ⟨sm', by rw [f _ _ (by omega)]; exact hct, ?_, xi_RM_fr hrm (fun p a b => funext (fun k => f p k (by omega)))⟩ fr'
  intro i e hi
  rw [f _ _ (by omega), f _ _ (by omega), f _ _ (by omega), f _ _ (by omega)]
  exact hcd i e hi
