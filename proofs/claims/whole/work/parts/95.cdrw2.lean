theorem xd_toInt {a : Nat} (h : a < 2 ^ 31) : (nI a).toInt = a := by
  show (Int32.ofNat a).toInt = a
  rw [Int32.toInt_ofNat_of_lt (by omega)]
theorem xd_gap {a b : Nat} (ha : a < 2 ^ 30) (hb : b < 2 ^ 30) : 1 < nI a - nI b ↔ b + 1 < a := by
  rw [Int32.lt_iff_toInt_lt, Int32.toInt_sub, xd_toInt (by omega), xd_toInt (by omega)]
  rw [Int.bmod_eq_of_le (by omega) (by omega)]
  have : (1 : Int32).toInt = 1 := rfl
  rw [this]; omega
theorem xd_beginL {I : pI} {R : pR} {t N line : Nat} {K : pI → pR → Prop} {Q : Int32 → pI → pR → Prop} (hN : N ≤ 120) (h5 : I t 5 = nI N) (hline : line < 1000) : ∀ (l : List (Nat × Int32 × Nat)) i, i + l.length = N → (∀ k e, l[k]? = some e → I (t + 4) (i + k) = nI e.2.2 ∧ I (t + 2) (i + k) = nI e.1 ∧ e.2.2 < 1000) → (∀ c, xd_bg l line = some c → Q (nI c) I R) → (xd_bg l line = none → K I R) → l_dr_beginOf_4 t (nI line) K Q (l.length + 1) (nI i) I R := by
  intro l; induction l with
  | nil =>
    intro i hi hm hQ hK
    unfold l_dr_beginOf_4
    rw [h5]
    exact xa_t ((nI_leI (by omega) (by simp at hi; omega)).mpr (by simp at hi; omega)) (hK rfl)
  | cons e l ih =>
    intro i hi hm hQ hK
    have hi' : i + (l.length + 1) = N := hi
    have he : I (t + 4) i = nI e.2.2 ∧ I (t + 2) i = nI e.1 ∧ e.2.2 < 1000 := hm 0 e rfl
    unfold l_dr_beginOf_4
    rw [h5]
    refine xa_f (fun hh => by have := (nI_leI (by omega) (by omega)).mp hh; omega) (xa_f (fun hh => by have := (xa_lle 120 (by omega) (by omega)).mp hh; omega) ⟨vp_in_nI (by omega) (by omega), ?_⟩)
    rw [nI_clamp (by omega), he.1, he.2.1]
    by_cases hl : line ≤ e.2.2
    · refine xa_f (fun hh => by have := (nI_ltI (by omega) (by omega)).mp hh; omega) ⟨vp_in_nI (by omega) (by omega), hQ e.1 ?_⟩
      unfold xd_bg; rw [List.find?_cons_of_pos (by simp [hl])]; rfl
    · refine xa_t ((nI_ltI (by omega) (by omega)).mpr (by omega)) ?_
      rw [nI_1]
      have eb : xd_bg (e :: l) line = xd_bg l line := by unfold xd_bg; rw [List.find?_cons_of_neg (by simp; omega)]
      rw [eb] at hQ hK
      exact ih (i + 1) (by omega) (fun k u hk => by rw [show i + 1 + k = i + (k + 1) by omega]; exact hm (k + 1) u hk) hQ hK
theorem xd_fitL {I : pI} {R : pR} {t N j c w h : Nat} {l : List (Nat × Int32 × Nat)} {K : Int32 → pI → pR → Prop} {Q : pI → pR → Prop} (hN : N ≤ 120) (h5 : I t 5 = nI N) (h6 : I t 6 = nI h) (hh : h < 400) (hl : j + 1 + l.length = N) (hm : ∀ k e, l[k]? = some e → I (t + 4) (j + 1 + k) = nI e.2.2 ∧ I (t + 2) (j + 1 + k) = nI e.1 ∧ e.2.2 < h ∧ e.1 < 120) (hc : c < 120) (hw : 1 ≤ w ∧ w ≤ 12) : ∀ n line, h ≤ line + n → line < 500 → n < 500 → K (nI (xd_fit l (c + w) n line)) I R → l_dr_layOut_37 t (nI j) (nI (c + w - 1)) K Q (n + 1) (nI line) I R := by
  have nb : ∀ line, h ≤ line → xd_bl l line (c + w) = false := by
    intro line hl
    unfold xd_bl
    rw [xd_bg_n (fun e he => by
      obtain ⟨k, hk⟩ := List.getElem?_of_mem he
      have := (hm k e hk).2.2.1; omega)]
  intro n; induction n with
  | zero =>
    intro line hline h500 hn hK
    unfold l_dr_layOut_37
    rw [h6]
    exact xa_t ((nI_leI (by omega) (by omega)).mpr (by omega)) hK
  | succ n ih =>
    intro line hline h500 hn hK
    have ef : xd_fit l (c + w) (n + 1) line = if xd_bl l line (c + w) then xd_fit l (c + w) n (line + 1) else line := rfl
    unfold l_dr_layOut_37
    rw [h6]
    by_cases hlh : h ≤ line
    · refine xa_t ((nI_leI (by omega) (by omega)).mpr hlh) ?_
      rw [ef, nb line hlh] at hK; exact hK
    · refine xa_f (fun e => hlh ((nI_leI (by omega) (by omega)).mp e)) ?_
      unfold w_dr_beginOf
      simp only [nI_1]
      refine ⟨l.length + 1, xd_beginL hN h5 (by omega) l (j + 1) hl (fun k e hk => ⟨(hm k e hk).1, (hm k e hk).2.1, by have := (hm k e hk).2.2.1; omega⟩) (fun cb hb => ?_) (fun hb => ?_)⟩
      · have hcb : cb < 120 := by
          unfold xd_bg at hb
          cases hf : l.find? (fun e => decide (line ≤ e.2.2)) with
          | none => rw [hf] at hb; cases hb
          | some e =>
            rw [hf] at hb
            have hmem := List.mem_of_find?_eq_some hf
            obtain ⟨k, hk⟩ := List.getElem?_of_mem hmem
            have := (hm k e hk).2.2.2
            simp at hb; omega
        have ebl : xd_bl l line (c + w) = decide (cb ≤ c + w) := by unfold xd_bl; rw [hb]
        rw [ef, ebl] at hK
        by_cases hcw : cb ≤ c + w
        · refine xa_f (fun e => by have := (xd_gap (by omega) (by omega)).mp e; omega) ?_
          simp only [hcw, decide_true, if_true] at hK
          exact ih (line + 1) (by omega) (by omega) (by omega) hK
        · refine xa_t ((xd_gap (by omega) (by omega)).mpr (by omega)) ?_
          simp only [hcw, decide_false] at hK
          exact hK
      · have ebl : xd_bl l line (c + w) = false := by unfold xd_bl; rw [hb]
        rw [ef, ebl] at hK
        exact xa_t ((xd_gap (a := 240) (by omega) (by omega)).mpr (by omega)) hK
theorem xd_lay_ix : ∀ (l : List (Nat × Int32)) (k : Nat) (u : Nat × Int32 × Nat), (xd_lay l)[k]? = some u → l[k]? = some (u.1, u.2.1) := by
  intro l; induction l with
  | nil => intro k u h; cases h
  | cons a l ih2 =>
    intro k u h
    cases k with
    | zero => cases h; rfl
    | succ k => exact ih2 k u h
theorem xd_layL {R : pR} {t : Nat} {ls : List (Nat × Int32)} {K Q : pI → pR → Prop} (ht : xd_oc t) (hN : ls.length ≤ 120) (hcol : ∀ e, e ∈ ls → e.1 < 120) : ∀ (n : Nat) (I : pI), n ≤ ls.length → xd_LM I t ls → I t 6 = nI (xd_h (xd_lay (ls.drop n))) → (∀ k e, (xd_lay (ls.drop n))[k]? = some e → I (t + 4) (n + k) = nI e.2.2) → (∀ I', xd_LM I' t ls → I' t 6 = nI (xd_h (xd_lay ls)) → (∀ k e, (xd_lay ls)[k]? = some e → I' (t + 4) k = nI e.2.2) → I' t 4 = I t 4 → I' (t + 1) = I (t + 1) → xa_fr (xd_S t) I I' → K I' R) → l_dr_layOut_12 t K Q (n + 1) (nI n - 1) I R := by
  have ht' := ht
  unfold xd_oc at ht'
  intro n; induction n with
  | zero =>
    intro I hn lm h6 h4 hK
    unfold l_dr_layOut_12
    refine xa_t (by decide) (hK I lm h6 (fun k e hk => ?_) rfl rfl (xa_fr_r _ _))
    have := h4 k e hk; rw [Nat.zero_add] at this; exact this
  | succ n ih =>
    intro I hn lm h6 h4 hK
    have hg : ls[n]? = some ls[n] := List.getElem?_eq_getElem (by omega)
    have ed : ls.drop n = ls[n] :: ls.drop (n + 1) := List.drop_eq_getElem_cons (by omega)
    generalize ls[n] = e at hg ed
    have le := lm.2 n e hg
    have hce := hcol e (List.mem_of_getElem? hg)
    have hw := xd_wd_b e.2
    have hdl : (ls.drop (n + 1)).length = ls.length - (n + 1) := List.length_drop
    have hll : (xd_lay (ls.drop (n + 1))).length = ls.length - (n + 1) := by rw [xd_lay_len, hdl]
    have hhb : xd_h (xd_lay (ls.drop (n + 1))) ≤ 2 + (ls.length - (n + 1)) := (xd_h_b _).2.2 _ (by omega) (fun u hu => by have := xd_lay_b _ u hu; omega)
    unfold l_dr_layOut_12
    rw [nI_pred]
    have hin : vp_in (nI n) 120 := vp_in_nI (by omega) (by omega)
    refine xa_f (nI_pos (by omega)) ⟨hin, hin, ?_⟩
    rw [nI_clamp (by omega), le.1, le.2]
    refine xd_widthOf ?_
    rw [nI_add, xa_m1 (by omega)]
    refine ⟨ls.length - (n + 1) + 1 + 1, ?_⟩
    refine xd_fitL (l := xd_lay (ls.drop (n + 1))) (N := ls.length) (j := n) (h := xd_h (xd_lay (ls.drop (n + 1)))) hN lm.1 h6 (by omega) (by omega) (fun k u hk => ?_) hce hw (ls.length - (n + 1) + 1) 2 (by omega) (by omega) (by omega) ?_
    · refine ⟨h4 k u hk, ?_, (xd_h_b _).2.1 u (List.mem_of_getElem? hk), ?_⟩
      · have hk2 : (xd_lay (ls.drop (n + 1)))[k]? = some u := hk
        have := xd_lay_ix _ _ _ hk2
        rw [List.getElem?_drop] at this
        exact (lm.2 _ _ this).1
      · have := xd_lay_ix _ _ _ hk
        rw [List.getElem?_drop] at this
        exact hcol _ (List.mem_of_getElem? this)
    · have elay : xd_lay (ls.drop n) = (e.1, e.2, xd_fit (xd_lay (ls.drop (n + 1))) (e.1 + xd_wd e.2) (ls.length - (n + 1) + 1) 2) :: xd_lay (ls.drop (n + 1)) := by
        rw [ed]
        show (e.1, e.2, xd_fit (xd_lay (ls.drop (n + 1))) (e.1 + xd_wd e.2) ((ls.drop (n + 1)).length + 1) 2) :: xd_lay (ls.drop (n + 1)) = _
        rw [hdl]
      have hfb := xd_fit_b (xd_lay (ls.drop (n + 1))) (e.1 + xd_wd e.2) (ls.length - (n + 1) + 1) 2
      generalize xd_fit (xd_lay (ls.drop (n + 1))) (e.1 + xd_wd e.2) (ls.length - (n + 1) + 1) 2 = line at *
      unfold j_dr_layOut_63
      refine ⟨hin, ?_⟩
      rw [nI_clamp (by omega)]
      refine xa_a (xa_a ?_)
      rw [show nI n + (-1) = nI n - 1 from (Int32.sub_eq_add_neg _ _).symm, show pw_wI I (t + 4) n (nI line) t 6 = nI (xd_h (xd_lay (ls.drop (n + 1)))) by rw [xa_p (by omega)]; exact h6, nI_1]
      have hmx : (if nI (xd_h (xd_lay (ls.drop (n + 1)))) < nI (line + 1) then nI (line + 1) else nI (xd_h (xd_lay (ls.drop (n + 1))))) = nI (xd_h (xd_lay (ls.drop n))) := by
        rw [elay]
        show _ = nI (if xd_h (xd_lay (ls.drop (n + 1))) < line + 1 then line + 1 else xd_h (xd_lay (ls.drop (n + 1))))
        by_cases h : xd_h (xd_lay (ls.drop (n + 1))) < line + 1
        · rw [if_pos h, if_pos ((nI_ltI (by omega) (by omega)).mpr h)]
        · rw [if_neg h, if_neg (fun e => h ((nI_ltI (by omega) (by omega)).mp e))]
      rw [hmx]
      refine ih _ (by omega) ?_ ?_ ?_ (fun I' lm' e6 e4 e4' e1 f' => hK I' lm' e6 e4 ?_ ?_ (xa_fr_t (xa_fr_w (xa_fr_w (xa_fr_r _ _) (by simp [xd_S])) (by simp [xd_S])) f'))
      · refine ⟨by rw [xa_w, if_neg (by omega), xa_p (by omega)]; exact lm.1, fun i u hi => ?_⟩
        rw [xa_p (by omega), xa_p (by omega), xa_p (by omega), xa_p (by omega)]; exact lm.2 i u hi
      · rw [xa_w, if_pos ⟨rfl, rfl⟩]
      · intro k u hk
        rw [elay] at hk
        cases k with
        | zero => cases hk; rw [xa_p (by omega), xa_w, if_pos ⟨rfl, rfl⟩]
        | succ k =>
          rw [xa_p (by omega), xa_w, if_neg (by omega), show n + (k + 1) = n + 1 + k by omega]
          exact h4 k u hk
      · rw [e4', xa_w, if_neg (by omega), xa_p (by omega)]
      · rw [e1, xa_p (by omega), xa_p (by omega)]
/-- a drawing in an outcome -/
def xd_DC (I : pI) (t : Nat) (tx : Nat → Nat) (dr : Option (Nat × Nat × List (Nat × Int32))) : Prop := match dr with
  | none => I t 5 = 0 ∧ I t 6 = 0
  | some d => I t 4 = nI (d.2.1 - d.1) ∧ (∀ i, i < d.2.1 - d.1 → I (t + 1) i = nI (tx (d.1 + i))) ∧ xd_LM I t (xd_lf d.1 d.2.2 (d.2.1 - d.1) 0) ∧ I t 6 = nI (xd_h (xd_lay (xd_lf d.1 d.2.2 (d.2.1 - d.1) 0))) ∧ (∀ k e, (xd_lay (xd_lf d.1 d.2.2 (d.2.1 - d.1) 0))[k]? = some e → I (t + 4) k = nI e.2.2)
theorem xd_addValues {I : pI} {R : pR} {t fi la : Nat} {tx : Nat → Nat} {D : List (Nat × Int32)} {Q : pI → pR → Prop} (ht : xd_oc t) (hf : fi ≤ la) (hla : la ≤ 120) (h4 : I t 4 = nI (la - fi)) (h1 : ∀ i, i < la - fi → I (t + 1) i = nI (tx (fi + i))) (h5 : I t 5 = 0) (h6 : I t 6 = 1) (h7 : ∀ p, p < 120 → I 117 p = if (xd_find D p).isSome then 1 else 0) (h8 : ∀ p v, p < 120 → xd_find D p = some v → I 118 p = v) (hQ : ∀ I', xd_DC I' t tx (some (fi, la, D)) → xa_fr (xd_S t) I I' → Q I' R) : w_dr_addValues t 117 120 118 120 (nI fi) I R Q := by
  have ht' := ht
  unfold xd_oc at ht'
  unfold w_dr_addValues
  refine ⟨la - fi + 1, xd_addL (w := la - fi) (D := D) ht (by omega) (la - fi) 0 [] I (by omega) (by simp) h4 h7 h8 ⟨h5, fun i e hi => by simp at hi⟩ (fun I1 lm1 e4 e6 e1 f1 => ?_)⟩
  rw [List.nil_append] at lm1
  have hb := xd_lf_b fi D (la - fi) 0
  unfold w_dr_layOut
  rw [lm1.1]
  have hmin : (if (120 : Int32) < nI (xd_lf fi D (la - fi) 0).length then (120 : Int32) else nI (xd_lf fi D (la - fi) 0).length) = nI (xd_lf fi D (la - fi) 0).length := if_neg (fun e => by have := (xa_llt 120 (by omega) (by omega)).mp e; omega)
  rw [hmin]
  refine ⟨(xd_lf fi D (la - fi) 0).length + 1, xd_layL (ls := xd_lf fi D (la - fi) 0) ht (by omega) (fun e he => by have := hb.2 e he; omega) _ I1 (Nat.le_refl _) lm1 ?_ ?_ (fun I' lm' g6 g4 g4' g1 f' => hQ I' ⟨?_, ?_, lm', g6, g4⟩ (xa_fr_t f1 f'))⟩
  · rw [List.drop_length, e6, h6]; rfl
  · intro k e hk; rw [List.drop_length] at hk; cases hk
  · rw [g4', e4, h4]
  · intro i hi; rw [g1, e1]; exact h1 i hi
