theorem xs_row {I0 I : pI} {R : pR} {q L f : Nat} {ts : List (Nat × Nat × Nat × Nat)} {Q : pI → pR → Prop} (cx : xc_CX I0 R q ts L) (fs : xs_FS I0 I q ts L f) (h : ∀ I', xs_FS I0 I' q ts L f → Q I' R) : w_ps_row I R Q := by
  have hq := cx.2.2.2.2
  have w := cx.2.2.1
  have := w.1; have := w.2.1
  unfold w_ps_row
  refine ⟨q, cx.2.2.2.1, xc_sh hq, q, cx.2.2.2.1, xc_sh hq, ?_⟩
  have hgo : ∀ I1, xs_FS I0 I1 q ts L f → ∀ I2, I2 = pw_wI I1 108 4 (0 : Int32) → ∃ n1, l_ps_row_24 q (fun I10 R9 => Q I10 R9) Q n1 1 0 I2 R := by
    intro I1 f1
    refine xa_a ⟨2, ?_⟩
    have f2 := xs_w8 (v := 0) hq f1
    obtain ⟨p, hp, hn, hbad, hw⟩ := xs_pos f2
    generalize pw_wI I1 108 4 0 = I2 at f2 hn ⊢
    unfold l_ps_row_24
    refine xa_f (by decide) (xa_f (by decide) ?_)
    rw [hn, xc_placeOf (xs_cx cx f2) (by omega)]
    refine ⟨q, cx.2.2.2.1, xc_sh hq, xs_open hq f2 (fun v I3 f3 => xs_put 13 61 (by omega) (by omega) hq f3 (fun I4 f4 => xs_chain 3 (by omega) cx f4 (fun I5 f5 => xc_endOf_any (fun v => ⟨q, cx.2.2.2.1, xc_sh hq, xs_close hq f5 (fun I6 f6 => xs_bar cx f6 ?_)⟩))))⟩
    unfold l_ps_row_24
    exact ⟨fun _ => h I6 f6, fun _ => xa_t rfl (h I6 f6)⟩
  obtain ⟨s, hs, e⟩ := fs.2.2.1 (0, 9, 61) (by decide)
  simp only at hs e
  have e' : I q 9 = nI s := e
  unfold w_ft_addRow
  rw [e', nI_clamp (by omega)]
  by_cases h61 : 61 ≤ s
  · exact xa_t ((xa_lle 61 (by omega) (by omega)).mpr h61) (hgo I fs)
  · refine xa_f (fun hh => h61 ((xa_lle 61 (by omega) (by omega)).mp hh)) ⟨vp_in_nI (by omega) (by omega), fun I1 e1 => ?_⟩
    have f1 : xs_FS I0 I1 q ts L f := by rw [e1]; exact xs_w1 (a := 24) hq fs (by omega)
    have s1 : I1 q 9 = nI s := by rw [e1, xa_p (by omega)]; exact e'
    rw [s1, nI_1]
    intro I2 e2
    exact hgo I2 (by rw [e2]; exact xs_w2 (a := 0) (k := 9) (c := 61) hq f1 (by decide) (by omega))
theorem xs_rows {I0 I : pI} {R : pR} {q L f n : Nat} {ts : List (Nat × Nat × Nat × Nat)} {K Q : pI → pR → Prop} {x : Int32} (cx : xc_CX I0 R q ts L) (fs : xs_FS I0 I q ts L f) (h : K I R) : l_ps_where_79 K Q (n + 1) x I R := by
  unfold l_ps_where_79
  exact ⟨fun _ => h, fun _ => xs_take 59 (by decide) cx fs (xa_t rfl h)⟩
theorem xs_whereR {I0 I : pI} {R : pR} {q L f : Nat} {ts : List (Nat × Nat × Nat × Nat)} {Q : pI → pR → Prop} (cx : xc_CX I0 R q ts L) (fs : xs_FS I0 I q ts L f) (h : ∀ I', xs_FS I0 I' q ts L f → Q I' R) : w_ps_need (59 : Int32) I R (fun I8 R8 => (w_ps_row I8 R8 (fun I9 R9 => (∃ n1, l_ps_where_79 (fun I12 R12 => Q I12 R12) Q n1 (0 : Int32) I9 R9)))) :=
  xs_need 59 (by decide) cx fs (fun I1 f1 => xs_row cx f1 (fun I2 f2 => ⟨1, xs_rows cx f2 (h I2 f2)⟩))
theorem xs_head {I0 I : pI} {R : pR} {q L f n : Nat} {ts : List (Nat × Nat × Nat × Nat)} {K Q : pI → pR → Prop} {x : Int32} (h : K I R) : l_ps_where_10 K Q (n + 1) 0 x I R := by
  unfold l_ps_where_10
  exact ⟨fun _ => h, fun _ => xa_t rfl h⟩
theorem xs_column {I0 I : pI} {R : pR} {q L f : Nat} {ts : List (Nat × Nat × Nat × Nat)} {Q : pI → pR → Prop} {a b : Int32} (hq : q = 54 ∨ q = 81) (fs : xs_FS I0 I q ts L f) (h : ∀ I', xs_FS I0 I' q ts L f → Q I' R) : w_ft_addColumn q a b I R Q := by
  obtain ⟨s, hs, e⟩ := fs.2.2.1 (0, 10, 61) (by decide)
  simp only at hs e
  have e' : I q 10 = nI s := e
  unfold w_ft_addColumn
  rw [e', nI_clamp (by omega)]
  by_cases h61 : 61 ≤ s
  · exact xa_t ((xa_lle 61 (by omega) (by omega)).mpr h61) (h I fs)
  · refine xa_f (fun hh => h61 ((xa_lle 61 (by omega) (by omega)).mp hh)) ⟨vp_in_nI (by omega) (by omega), fun I1 e1 => ?_⟩
    have f1 : xs_FS I0 I1 q ts L f := by rw [e1]; exact xs_w1 (a := 25) hq fs (by omega)
    have s1 : I1 q 10 = nI s := by rw [e1, xa_p (by omega)]; exact e'
    rw [s1, nI_clamp (by omega)]
    refine ⟨vp_in_nI (by omega) (by omega), fun I2 e2 => ?_⟩
    have f2 : xs_FS I0 I2 q ts L f := by rw [e2]; exact xs_w1 (a := 26) hq f1 (by omega)
    have s2 : I2 q 10 = nI s := by rw [e2, xa_p (by omega)]; exact s1
    rw [s2, nI_1]
    intro I3 e3
    exact h I3 (by rw [e3]; exact xs_w2 (a := 0) (k := 10) (c := 61) hq f2 (by decide) (by omega))
theorem xs_where {I0 I : pI} {R : pR} {q L f : Nat} {ts : List (Nat × Nat × Nat × Nat)} {Q : pI → pR → Prop} (cx : xc_CX I0 R q ts L) (fs : xs_FS I0 I q ts L f) (h : ∀ I', xs_FS I0 I' q ts L f → Q I' R) : w_ps_where I R Q := by
  have hq := cx.2.2.2.2
  have w := cx.2.2.1
  have := w.1; have := w.2.1
  unfold w_ps_where
  refine xs_need 58 (by decide) cx fs (fun I1 f1 => ⟨2, ?_⟩)
  obtain ⟨p, hp, hn, hbad, hw⟩ := xs_pos f1
  have cx1 := xs_cx cx f1
  unfold l_ps_where_10
  refine xa_f (by decide) (xa_f (by decide) ⟨q, cx.2.2.2.1, xc_sh hq, ?_⟩)
  rw [hn, xc_numberOf cx1 (by omega), hn, xc_placeOf cx1 (by omega)]
  exact xs_column hq f1 (fun I2 f2 => xs_need 259 (by decide) cx f2 (fun I3 f3 => xs_bar cx f3 (xs_head (I0 := I0) (q := q) (L := L) (f := f) (ts := ts) (xs_whereR cx f3 h))))
/-! the class's rules -/
def xi_mo32 (m : Option Nat) : Int32 := match m with
  | some v => nI v
  | none => 2147483647
def xi_RE (I : pI) (q r : Nat) (ru : xi_R) (a b : Nat) : Prop := I (q + 15) r = nI (xi_le ru) ∧ I (q + 16) r = xi_mo32 (xi_mo ru) ∧ I (q + 17) r = nI (xi_wh ru) ∧ I (q + 18) r = nI (xi_ft ru) ∧ I (q + 19) r = nI (xi_fg ru) ∧ I (q + 20) r = nI a ∧ I (q + 21) r = nI b
def xi_RM (I : pI) (q : Nat) (rs : List xi_R) : Prop := I (q + 14) 8 = nI rs.length ∧ I (q + 14) 9 = nI (rs.flatMap xi_an).length ∧ (∀ r ru, rs[r]? = some ru → xi_RE I q r ru ((rs.take r).flatMap xi_an).length ((rs.take (r + 1)).flatMap xi_an).length) ∧ (∀ i a, (rs.flatMap xi_an)[i]? = some a → I (q + 22) i = a)
theorem xa_take1 {α : Type} {l : List α} {a : α} : (l ++ [a]).take l.length = l := by simp
theorem xa_take2 {α : Type} {l : List α} {a : α} : (l ++ [a]).take (l.length + 1) = l ++ [a] := List.take_of_length_le (by simp)
theorem xa_some_lt {α : Type} {l : List α} {i : Nat} {a : α} (h : l[i]? = some a) : i < l.length := by
  rcases Nat.lt_or_ge i l.length with h1 | h1
  · exact h1
  · rw [List.getElem?_eq_none h1] at h; cases h
theorem xi_RM_fr {I I' : pI} {q : Nat} {rs : List xi_R} (h : xi_RM I q rs) (f : ∀ p, q + 14 ≤ p → p ≤ q + 22 → I' p = I p) : xi_RM I' q rs := by
  obtain ⟨a, b, c, d⟩ := h
  refine ⟨by rw [f _ (by omega) (by omega)]; exact a, by rw [f _ (by omega) (by omega)]; exact b, fun r ru hr => ?_, fun i x hi => by rw [f _ (by omega) (by omega)]; exact d i x hi⟩
  have := c r ru hr
  unfold xi_RE at this ⊢
  rw [f (q + 15) (by omega) (by omega), f (q + 16) (by omega) (by omega), f (q + 17) (by omega) (by omega), f (q + 18) (by omega) (by omega), f (q + 19) (by omega) (by omega), f (q + 20) (by omega) (by omega), f (q + 21) (by omega) (by omega)]
  exact this
def xi_SR (q p k : Nat) : Bool := decide (q + 14 ≤ p) && decide (p ≤ q + 22)
/-- a rule whose argument is still to come -/
def xi_RM1 (I : pI) (q : Nat) (rs : List xi_R) (le : Nat) (mo : Int32) : Prop := I (q + 14) 8 = nI (rs.length + 1) ∧ I (q + 14) 9 = nI (rs.flatMap xi_an).length ∧ (∀ r ru, rs[r]? = some ru → xi_RE I q r ru ((rs.take r).flatMap xi_an).length ((rs.take (r + 1)).flatMap xi_an).length) ∧ (∀ i a, (rs.flatMap xi_an)[i]? = some a → I (q + 22) i = a) ∧ I (q + 15) rs.length = nI le ∧ I (q + 16) rs.length = mo ∧ I (q + 20) rs.length = nI (rs.flatMap xi_an).length ∧ I (q + 21) rs.length = nI (rs.flatMap xi_an).length
theorem xi_RM1_fr {I I' : pI} {q le : Nat} {mo : Int32} {rs : List xi_R} (h : xi_RM1 I q rs le mo) (f : ∀ p, q + 14 ≤ p → p ≤ q + 22 → I' p = I p) : xi_RM1 I' q rs le mo := by
  obtain ⟨a, b, c, d, e1, e2, e3, e4⟩ := h
  refine ⟨by rw [f _ (by omega) (by omega)]; exact a, by rw [f _ (by omega) (by omega)]; exact b, fun r ru hr => ?_, fun i x hi => by rw [f _ (by omega) (by omega)]; exact d i x hi, by rw [f _ (by omega) (by omega)]; exact e1, by rw [f _ (by omega) (by omega)]; exact e2, by rw [f _ (by omega) (by omega)]; exact e3, by rw [f _ (by omega) (by omega)]; exact e4⟩
  have := c r ru hr
  unfold xi_RE at this ⊢
  rw [f (q + 15) (by omega) (by omega), f (q + 16) (by omega) (by omega), f (q + 17) (by omega) (by omega), f (q + 18) (by omega) (by omega), f (q + 19) (by omega) (by omega), f (q + 20) (by omega) (by omega), f (q + 21) (by omega) (by omega)]
  exact this
theorem xi_rladd {I : pI} {R : pR} {q le : Nat} {mo : Int32} {rs : List xi_R} {Q : Int32 → pI → pR → Prop} (rm : xi_RM I q rs) (hl : rs.length < 22)
    (h : ∀ I', xi_RM1 I' q rs le mo → xa_fr (xi_SR q) I I' → Q (nI rs.length) I' R) : w_rl_add (q + 14) (nI le) mo I R Q := by
  obtain ⟨a, b, c, d⟩ := rm
  have hb : vp_in (nI rs.length) 22 := vp_in_nI hl (by decide)
  have hc : (nI rs.length).toNatClampNeg = rs.length := nI_clamp (by omega)
  unfold w_rl_add
  rw [a, hc]
  refine xa_f (fun hh => by have := (xa_lle 22 (by omega) (by omega)).mp hh; omega) ⟨hb, fun I1 e1 => ?_⟩
  have s1 : I1 (q + 14) 8 = nI rs.length := by rw [e1, xa_w]; simp [a]
  rw [s1, hc]
  refine ⟨hb, fun I2 e2 => ?_⟩
  have s2 : I2 (q + 14) 8 = nI rs.length := by rw [e2, xa_w]; simp [s1]
  have t2 : I2 (q + 14) 9 = nI (rs.flatMap xi_an).length := by rw [e2, xa_w, e1, xa_w]; simp [b]
  rw [s2, hc, t2]
  refine ⟨hb, fun I3 e3 => ?_⟩
  have s3 : I3 (q + 14) 8 = nI rs.length := by rw [e3, xa_w]; simp [s2]
  have t3 : I3 (q + 14) 9 = nI (rs.flatMap xi_an).length := by rw [e3, xa_w]; simp [t2]
  rw [s3, hc, t3]
  refine ⟨hb, fun I4 e4 => ?_⟩
  have s4 : I4 (q + 14) 8 = nI rs.length := by rw [e4, xa_w]; simp [s3]
  rw [s4, nI_1]
  intro I5 e5
  have hI : ∀ p' i, I5 p' i = (if p' = q + 14 ∧ i = 8 then nI (rs.length + 1) else if p' = q + 21 ∧ i = rs.length then nI (rs.flatMap xi_an).length else if p' = q + 20 ∧ i = rs.length then nI (rs.flatMap xi_an).length else if p' = q + 16 ∧ i = rs.length then mo else if p' = q + 15 ∧ i = rs.length then nI le else I p' i) := by
    intro p' i; rw [e5, xa_w, e4, xa_w, e3, xa_w, e2, xa_w, e1, xa_w]
  have s5 : I5 (q + 14) 8 = nI (rs.length + 1) := by rw [hI]; simp
  rw [s5, nI_pred]
  refine h I5 ⟨s5, by rw [hI]; simp [b], fun r ru hr => ?_, fun i x hi => ?_, by rw [hI]; simp, by rw [hI]; simp, by rw [hI]; simp, by rw [hI]; simp⟩ ?_
  · have hr' := xa_some_lt hr
    have := c r ru hr
    unfold xi_RE at this ⊢
    simp only [hI]
    simp only [show ¬ r = rs.length by omega, and_false, if_false]
    simpa using this
  · rw [hI]; simp; exact d i x hi
  · intro p' i hp
    simp only [xi_SR, Bool.and_eq_false_iff, decide_eq_false_iff_not] at hp
    rw [hI, if_neg (by omega), if_neg (by omega), if_neg (by omega), if_neg (by omega), if_neg (by omega)]
theorem xi_rlaim {I : pI} {R : pR} {q le wh ft fg : Nat} {mo : Option Nat} {rs : List xi_R} {Q : pI → pR → Prop} (rm : xi_RM1 I q rs le (xi_mo32 mo)) (hl : rs.length < 22)
    (h : ∀ I', xi_RM I' q (rs ++ [(le, mo, wh, ft, fg, [])]) → xa_fr (xi_SR q) I I' → Q I' R) : w_rl_aim (q + 14) (nI rs.length) (nI wh) (nI ft) (nI fg) I R Q := by
  obtain ⟨a, b, c, d, e1, e2, e3, e4⟩ := rm
  unfold w_rl_aim
  refine xc_put (by decide) hl (xc_put (by decide) hl (xc_put (by decide) hl ?_))
  have hI : ∀ p' i, (pw_wI (pw_wI (pw_wI I (q + 14 + 3) rs.length (nI wh)) (q + 14 + 4) rs.length (nI ft)) (q + 14 + 5) rs.length (nI fg)) p' i = (if p' = q + 19 ∧ i = rs.length then nI fg else if p' = q + 18 ∧ i = rs.length then nI ft else if p' = q + 17 ∧ i = rs.length then nI wh else I p' i) := by
    intro p' i; rw [xa_w, xa_w, xa_w]
  generalize pw_wI (pw_wI (pw_wI I (q + 14 + 3) rs.length (nI wh)) (q + 14 + 4) rs.length (nI ft)) (q + 14 + 5) rs.length (nI fg) = I3 at hI ⊢
  refine h I3 ⟨?_, ?_, fun r ru hr => ?_, fun i x hi => ?_⟩ ?_
  · rw [hI]; simp [a]
  · rw [hI]; simp [b, xi_an]
  · rcases xa_app hr with ⟨hr', hlt⟩ | ⟨hr', he⟩
    · have := c r ru hr'
      rw [List.take_append_of_le_length (by omega), List.take_append_of_le_length (by omega)]
      unfold xi_RE at this ⊢
      simp only [hI]
      simp only [show ¬ r = rs.length by omega, and_false, if_false]
      exact this
    · subst hr'; rw [he]
      rw [xa_take1, xa_take2]
      refine ⟨by rw [hI]; simpa [xi_le] using e1, by rw [hI]; simpa [xi_mo] using e2, by rw [hI]; simp [xi_wh], by rw [hI]; simp [xi_ft], by rw [hI]; simp [xi_fg], by rw [hI]; simpa using e3, by rw [hI]; simpa [xi_an] using e4⟩
  · rw [hI]; simp
    refine d i x ?_
    simpa [xi_an] using hi
  · intro p' i hp
    simp only [xi_SR, Bool.and_eq_false_iff, decide_eq_false_iff_not] at hp
    rw [hI, if_neg (by omega), if_neg (by omega), if_neg (by omega)]
theorem xi_answer {I : pI} {R : pR} {q le wh ft fg : Nat} {mo : Option Nat} {an : List Int32} {v : Int32} {rs : List xi_R} {Q : pI → pR → Prop} (rm : xi_RM I q (rs ++ [(le, mo, wh, ft, fg, an)])) (hl : rs.length < 22) (ha : (rs.flatMap xi_an).length + an.length < 61)
    (h : ∀ I', xi_RM I' q (rs ++ [(le, mo, wh, ft, fg, an ++ [v])]) → xa_fr (xi_SR q) I I' → Q I' R) : w_rl_addAnswer (q + 14) (nI rs.length) v I R Q := by
  obtain ⟨a, b, c, d⟩ := rm
  have eA : ((rs ++ [(le, mo, wh, ft, fg, an)]).flatMap xi_an).length = (rs.flatMap xi_an).length + an.length := by simp [xi_an]
  rw [eA] at b
  have hc : (nI ((rs.flatMap xi_an).length + an.length)).toNatClampNeg = (rs.flatMap xi_an).length + an.length := nI_clamp (by omega)
  unfold w_rl_addAnswer
  rw [b, hc]
  refine xa_f (fun hh => by have := (xa_lle 61 (by omega) (by omega)).mp hh; omega) ⟨vp_in_nI ha (by decide), fun I1 e1 => ?_⟩
  have t1 : I1 (q + 14) 9 = nI ((rs.flatMap xi_an).length + an.length) := by rw [e1, xa_w]; simp [b]
  rw [t1, nI_1]
  intro I2 e2
  refine xc_put (by decide) hl ?_
  have t2 : I2 (q + 14) 9 = nI ((rs.flatMap xi_an).length + an.length + 1) := by rw [e2, xa_w]; simp
  rw [t2]
  have hI : ∀ p' i, (pw_wI I2 (q + 14 + 7) rs.length (nI ((rs.flatMap xi_an).length + an.length + 1))) p' i = (if p' = q + 21 ∧ i = rs.length then nI ((rs.flatMap xi_an).length + an.length + 1) else if p' = q + 14 ∧ i = 9 then nI ((rs.flatMap xi_an).length + an.length + 1) else if p' = q + 22 ∧ i = (rs.flatMap xi_an).length + an.length then v else I p' i) := by
    intro p' i; rw [xa_w, e2, xa_w, e1, xa_w]
  generalize pw_wI I2 (q + 14 + 7) rs.length (nI ((rs.flatMap xi_an).length + an.length + 1)) = I3 at hI ⊢
  have eF : (rs ++ [(le, mo, wh, ft, fg, an ++ [v])]).flatMap xi_an = (rs.flatMap xi_an ++ an) ++ [v] := by simp [xi_an]
  have eF0 : (rs ++ [(le, mo, wh, ft, fg, an)]).flatMap xi_an = rs.flatMap xi_an ++ an := by simp [xi_an]
  refine h I3 ⟨?_, ?_, fun r ru hr => ?_, fun i x hi => ?_⟩ ?_
  · rw [hI]; simpa using a
  · rw [hI, eF, List.length_append, List.length_append, if_neg (by omega), if_pos ⟨rfl, rfl⟩]; rfl
  · rcases xa_app hr with ⟨hr', hlt⟩ | ⟨hr', he⟩
    · have := c r ru (by rw [List.getElem?_append_left hlt]; exact hr')
      rw [List.take_append_of_le_length (by omega), List.take_append_of_le_length (by omega)] at this ⊢
      unfold xi_RE at this ⊢
      simp only [hI]
      simp only [show ¬ r = rs.length by omega, and_false, if_false]
      simpa using this
    · subst hr'; rw [he]
      have := c rs.length (le, mo, wh, ft, fg, an) (by simp)
      rw [xa_take1, xa_take2] at this ⊢
      obtain ⟨g1, g2, g3, g4, g5, g6, g7⟩ := this
      refine ⟨by rw [hI]; simpa [xi_le] using g1, by rw [hI]; simpa [xi_mo] using g2, by rw [hI]; simpa [xi_wh] using g3, by rw [hI]; simpa [xi_ft] using g4, by rw [hI]; simpa [xi_fg] using g5, by rw [hI]; simpa using g6, ?_⟩
      rw [hI, eF, List.length_append, List.length_append, if_pos ⟨rfl, rfl⟩]; rfl
  · rw [eF] at hi
    rw [eF0] at d
    rw [hI, if_neg (by omega), if_neg (by omega)]
    rcases xa_app hi with ⟨hi', hlt⟩ | ⟨hi', he⟩
    · rw [List.length_append] at hlt
      rw [if_neg (by omega)]; exact d i x hi'
    · rw [List.length_append] at hi'
      rw [if_pos ⟨rfl, hi'⟩, he]
  · intro p' i hp
    simp only [xi_SR, Bool.and_eq_false_iff, decide_eq_false_iff_not] at hp
    rw [hI, if_neg (by omega), if_neg (by omega), if_neg (by omega)]
