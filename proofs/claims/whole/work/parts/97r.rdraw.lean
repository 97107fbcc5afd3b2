/-! THE DRAWING IS READ, BOTH SIDES -/
theorem yi_nn {a : Int32} (h : ¬ a < 0) : ∃ m, m < 2 ^ 31 ∧ a = nI m := by
  have h1 : 0 ≤ a.toInt := by
    have := Int32.not_lt.mp h
    exact Int32.le_iff_toInt_le.mp this
  have h2 : a.toInt < 2 ^ 31 := Int32.toInt_lt a
  refine ⟨a.toInt.toNat, by omega, ?_⟩
  apply Int32.toInt_inj.mp
  rw [xd_toInt (by omega)]; omega
theorem yi_le1 {n : Nat} (h : n < 2 ^ 31) : (nI n - 1 < 0) ↔ n = 0 := by
  constructor
  · intro hh
    by_cases h0 : n = 0
    · exact h0
    · rw [xa_m1 (by omega)] at hh; exact absurd hh (nI_pos (by omega))
  · intro h0; subst h0; decide
def yd_ed (lay : List (Nat × Int32 × Nat)) (l : Nat) : Int32 := match xd_bg lay l with
  | some c => nI c
  | none => 100000
theorem yd_bg_c (a : Nat × Int32 × Nat) (l : List (Nat × Int32 × Nat)) (line : Nat) : xd_bg (a :: l) line = if line ≤ a.2.2 then some a.1 else xd_bg l line := by
  unfold xd_bg
  by_cases h : line ≤ a.2.2
  · rw [List.find?_cons_of_pos (by simp [h]), if_pos h]; rfl
  · rw [List.find?_cons_of_neg (by simp; omega), if_neg h]
theorem yd_ed_b {lay : List (Nat × Int32 × Nat)} (h : ∀ e, e ∈ lay → e.1 < 120) {line e : Nat} (he : e < 1000) : (nI e < yd_ed lay line) ↔ xd_bl lay line e = false := by
  unfold yd_ed xd_bl
  cases hb : xd_bg lay line with
  | none =>
    refine ⟨fun _ => rfl, fun _ => ?_⟩
    exact (nI_ltI (b := 100000) (by omega) (by decide)).mpr (by omega)
  | some c =>
    have hc : c < 120 := by
      unfold xd_bg at hb
      cases hf : lay.find? (fun e => decide (line ≤ e.2.2)) with
      | none => rw [hf] at hb; cases hb
      | some u => rw [hf] at hb; cases hb; exact h u (List.mem_of_find?_eq_some hf)
    show nI e < nI c ↔ decide (c ≤ e) = false
    rw [nI_ltI (by omega) (by omega)]
    simp
theorem yd_91 {R : pR} {f1 f3 f4 : Int32} {c e N : Nat} {lay : List (Nat × Int32 × Nat)} {K Q : Int32 → pI → pR → Prop} (hcol : ∀ e, e ∈ lay → e.1 < 120) (hlin : ∀ e, e ∈ lay → e.2.2 ≤ 1 + N) (hN : N ≤ 120) (he : e < 1000) :
    ∀ m line I, line + m = N + 3 → 2 ≤ line → line ≤ N + 2 → (∀ l, line ≤ l → l < 130 → I 174 l = yd_ed lay l) → (∀ l, 2 ≤ l → l < line → I 174 l = nI c) →
    (∀ y I', y = xd_fit lay e m line → y ≤ N + 2 → line ≤ y → (∀ l, y ≤ l → l < 130 → I' 174 l = yd_ed lay l) → (∀ l, 2 ≤ l → l < y → I' 174 l = nI c) → (∀ p k, p ≠ 174 → I' p k = I p k) → K (nI y) I' R) →
    l_md_layout_91 f1 f3 f4 (nI c) (nI e) K Q (m + 1) (nI line) I R := by
  intro m; induction m with
  | zero => intro line I h1 h2 h3; omega
  | succ m ih =>
    intro line I h1 h2 h3 hE hc hK
    have hb := yd_ed_b (line := line) hcol he
    have hin : vp_in (nI line) 130 := vp_in_nI (by omega) (by omega)
    unfold l_md_layout_91
    rw [nI_clamp (by omega), hE line (Nat.le_refl _) (by omega)]
    refine ⟨hin, ?_⟩
    cases hbl : xd_bl lay line e with
    | false =>
      refine xa_t (hb.mpr hbl) (hK line I ?_ h3 (Nat.le_refl _) hE hc (fun _ _ _ => rfl))
      show line = if _ then _ else line
      rw [hbl]; rfl
    | true =>
      refine xa_f (fun h => by rw [hb.mp h] at hbl; cases hbl) ⟨hin, xa_a ?_⟩
      have hlt : line ≤ N + 1 := by
        by_cases h : line ≤ N + 1
        · exact h
        · exfalso
          unfold xd_bl at hbl
          rw [xd_bg_n (fun u hu => by have := hlin u hu; omega)] at hbl; cases hbl
      rw [nI_1]
      refine ih (line + 1) _ (by omega) (by omega) (by omega) (fun l a b => ?_) (fun l a b => ?_) (fun y I' hy a b c d f => hK y I' ?_ a (by omega) c d (fun p k hp => by rw [f p k hp, xa_p hp]))
      · rw [xa_w, if_neg (by omega)]; exact hE l (by omega) b
      · rw [xa_w]
        by_cases hl : l = line
        · rw [if_pos ⟨rfl, hl⟩]
        · rw [if_neg (by omega)]; exact hc l a (by omega)
      · show y = if _ then _ else line
        rw [hbl, hy]; rfl
theorem yd_20 {R : pR} {f1 f2 f3 : Int32} {K : pI → pR → Prop} {Q : Int32 → pI → pR → Prop} : ∀ m c I, c + m = 130 → (∀ l, l < c → I 174 l = 100000) → (∀ I', (∀ l, l < 130 → I' 174 l = 100000) → (∀ p k, p ≠ 174 → I' p k = I p k) → K I' R) → l_md_layout_20 f1 f2 f3 K Q (m + 1) (nI c) I R := by
  intro m; induction m with
  | zero =>
    intro c I hc h hK
    unfold l_md_layout_20
    exact xa_t ((xa_lle 130 (by omega) (by omega)).mpr (by omega)) (hK I (fun i hi => h i (by omega)) (fun _ _ _ => rfl))
  | succ m ih =>
    intro c I hc h hK
    unfold l_md_layout_20
    rw [nI_clamp (by omega), nI_1]
    refine xa_f (fun hh => by have := (xa_lle 130 (by omega) (by omega)).mp hh; omega) ⟨vp_in_nI (by omega) (by omega), xa_a (ih (c + 1) _ (by omega) (fun i hi => ?_) (fun I' h' f' => hK I' h' (fun p k hp => by rw [f' p k hp, xa_p hp])))⟩
    rw [xa_w]
    by_cases hi' : i = c
    · rw [if_pos ⟨rfl, hi'⟩]
    · rw [if_neg (by omega)]; exact h i (by omega)
def yd_hh (ls : List (Nat × Int32)) (n : Nat) : Nat := if ls.length = 0 then 1 else max 2 (xd_h (xd_lay (ls.drop n)))
theorem yd_49 {R : pR} {k : Nat} {ls : List (Nat × Int32)} {K Q : Int32 → pI → pR → Prop} (hk : k < 6) (hN : ls.length ≤ 120) (hcol : ∀ e, e ∈ ls → e.1 < 120) :
    ∀ n I, n ≤ ls.length → (∀ i e, ls[i]? = some e → I 169 (120 * k + i) = nI e.1 ∧ I 170 (120 * k + i) = e.2) → (∀ l, 2 ≤ l → l < 130 → I 174 l = yd_ed (xd_lay (ls.drop n)) l) → (∀ i e, (xd_lay (ls.drop n))[i]? = some e → I 173 (n + i) = nI e.2.2) →
    (∀ I', (∀ i e, (xd_lay ls)[i]? = some e → I' 173 i = nI e.2.2) → (∀ p k, p ≠ 173 → p ≠ 174 → I' p k = I p k) → K (nI (yd_hh ls 0)) I' R) →
    l_md_layout_49 (nI k) K Q (n + 1) (nI (yd_hh ls n)) (nI n - 1) I R := by
  intro n; induction n with
  | zero =>
    intro I hn hv hE hL hK
    unfold l_md_layout_49
    refine xa_t (by decide) (hK I (fun i e hi => ?_) (fun _ _ _ _ => rfl))
    have := hL i e (by rw [List.drop_zero]; exact hi)
    rw [Nat.zero_add] at this; exact this
  | succ n ih =>
    intro I hn hv hE hL hK
    have hg : ls[n]? = some ls[n] := List.getElem?_eq_getElem (by omega)
    have ed : ls.drop n = ls[n] :: ls.drop (n + 1) := List.drop_eq_getElem_cons (by omega)
    generalize ls[n] = u at *
    have hu := hcol u (List.mem_of_getElem? hg)
    obtain ⟨v1, v2⟩ := hv n u hg
    have wb := xd_wd_b u.2
    have hlay : xd_lay (ls.drop n) = (u.1, u.2, xd_fit (xd_lay (ls.drop (n + 1))) (u.1 + xd_wd u.2) ((ls.drop (n + 1)).length + 1) 2) :: xd_lay (ls.drop (n + 1)) := by rw [ed]; rfl
    have hdl : (ls.drop (n + 1)).length = ls.length - (n + 1) := List.length_drop
    have hsub : ∀ e, e ∈ xd_lay (ls.drop (n + 1)) → e.1 < 120 := fun e he => by
      obtain ⟨i, hi, e'⟩ := List.getElem_of_mem he
      have := xd_lay_ix _ i e (by rw [List.getElem?_eq_getElem hi, e'])
      exact hcol _ (List.mem_of_mem_drop (List.mem_of_getElem? this))
    have hlin := xd_lay_b (ls.drop (n + 1))
    have en : nI (n + 1) - 1 = nI n := nI_pred n
    have em : nI n + (-1) = nI n - 1 := by rw [Int32.sub_eq_add_neg]
    have hin : vp_in (nI (120 * k + n)) 720 := vp_in_nI (by omega) (by omega)
    unfold l_md_layout_49
    rw [en, em, show (120 : Int32) * nI k = nI (120 * k) from pk_mul _ _, nI_add, nI_clamp (by omega), v1, v2]
    refine xa_f (nI_pos (by omega)) ⟨hin, hin, xd_width ⟨(ls.drop (n + 1)).length + 2, ?_⟩⟩
    rw [nI_add]
    refine yd_91 (N := (ls.drop (n + 1)).length) hsub (fun e he => (hlin e he).2) (by omega) (by omega) ((ls.drop (n + 1)).length + 1) 2 I (by omega) (by omega) (by omega) (fun l a b => hE l a b) (fun l a b => by omega) (fun y I1 hy hy2 hy3 e1 e2 e3 => ?_)
    refine ⟨vp_in_nI (by omega) (by omega), xa_a ⟨vp_in_nI (by omega) (by omega), xa_a ?_⟩⟩
    rw [nI_clamp (by omega), nI_clamp (by omega), nI_1]
    rw [← hy] at hlay
    have gg : ∀ p k', p ≠ 173 → p ≠ 174 → pw_wI (pw_wI I1 174 y (nI u.1)) 173 n (nI y) p k' = I p k' := fun p k' h1 h2 => by rw [xa_p h1, xa_p h2, e3 p k' h2]
    have hh : ∀ z, z = nI (yd_hh ls n) → l_md_layout_49 (nI k) K Q (n + 1) z (nI n - 1) (pw_wI (pw_wI I1 174 y (nI u.1)) 173 n (nI y)) R := by
      intro z hz
      rw [hz]
      refine ih _ (by omega) (fun i e hi => by rw [gg _ _ (by decide) (by decide), gg _ _ (by decide) (by decide)]; exact hv i e hi) (fun l a b => ?_) (fun i e hi => ?_) (fun I' a b => hK I' a (fun p k h1 h2 => by rw [b p k h1 h2, gg p k h1 h2]))
      · rw [xa_p (by decide), xa_w, hlay]
        unfold yd_ed
        rw [yd_bg_c]
        by_cases hl : l = y
        · rw [if_pos ⟨rfl, hl⟩, if_pos (by show l ≤ y; omega)]
        · rw [if_neg (by omega)]
          by_cases hl2 : l < y
          · rw [if_pos (by show l ≤ y; omega)]; exact e2 l a hl2
          · rw [if_neg (by show ¬ l ≤ y; omega)]; exact e1 l (by omega) b
      · rw [hlay] at hi
        cases i with
        | zero => cases hi; rw [Nat.add_zero, xa_w, if_pos ⟨rfl, rfl⟩]
        | succ i =>
          rw [xa_w, if_neg (by omega), xa_p (by decide), e3 _ _ (by decide)]
          have := hL i e hi
          rw [show n + (i + 1) = n + 1 + i by omega]; exact this
    have h0 : ls.length ≠ 0 := by omega
    have hxb := (xd_h_b (xd_lay (ls.drop (n + 1)))).2.2 200 (by omega) (fun e he => by have := (hlin e he).2; omega)
    have e1 : yd_hh ls (n + 1) = max 2 (xd_h (xd_lay (ls.drop (n + 1)))) := by unfold yd_hh; rw [if_neg h0]
    have e2 : yd_hh ls n = max 2 (if xd_h (xd_lay (ls.drop (n + 1))) < y + 1 then y + 1 else xd_h (xd_lay (ls.drop (n + 1)))) := by
      unfold yd_hh; rw [if_neg h0, hlay]; rfl
    rw [e1]
    by_cases hy4 : y < max 2 (xd_h (xd_lay (ls.drop (n + 1))))
    · refine xa_t ((nI_ltI (by omega) (by omega)).mpr hy4) (hh _ ?_)
      rw [e2]; congr 1; split <;> omega
    · refine xa_f (fun h => hy4 ((nI_ltI (by omega) (by omega)).mp h)) (hh _ ?_)
      rw [e2]; congr 1; split <;> omega
theorem yd_hh0 (ls : List (Nat × Int32)) : yd_hh ls 0 = xd_h (xd_lay ls) := by
  unfold yd_hh
  cases ls with
  | nil => rfl
  | cons a l =>
    rw [if_neg (by simp), List.drop_zero]
    have h1 := (xd_h_b (xd_lay (a :: l))).2.1 _ (show _ ∈ xd_lay (a :: l) from List.mem_cons_self ..)
    have h2 := (xd_lay_b (a :: l) _ (show _ ∈ xd_lay (a :: l) from List.mem_cons_self ..)).1
    omega
theorem yd_layout {I : pI} {R : pR} {k : Nat} {ls : List (Nat × Int32)} {Q : Int32 → pI → pR → Prop} (hk : k < 6) (hN : ls.length ≤ 120) (hcol : ∀ e, e ∈ ls → e.1 < 120) (h168 : I 168 k = nI ls.length) (hv : ∀ i e, ls[i]? = some e → I 169 (120 * k + i) = nI e.1 ∧ I 170 (120 * k + i) = e.2)
    (hQ : ∀ I', (∀ i e, (xd_lay ls)[i]? = some e → I' 173 i = nI e.2.2) → (∀ p k, p ≠ 173 → p ≠ 174 → I' p k = I p k) → Q (nI (xd_h (xd_lay ls))) I' R) : w_md_layout (nI k) I R Q := by
  have go : ∀ b, b = yd_hh ls ls.length → ∀ I2, (∀ l, l < 130 → I2 174 l = 100000) → (∀ p k, p ≠ 174 → I2 p k = I p k) → l_md_layout_49 (nI k) (fun y2 I8 R4 => Q y2 I8 R4) Q (ls.length + 1) (nI b) (nI ls.length - 1) I2 R := by
    intro b hb I2 h1 h2
    rw [hb]
    refine yd_49 hk hN hcol ls.length I2 (Nat.le_refl _) (fun i e hi => by rw [h2 _ _ (by decide), h2 _ _ (by decide)]; exact hv i e hi) (fun l _ hl => ?_) (fun i e hi => ?_) (fun I' a b => ?_)
    · rw [List.drop_length, h1 l hl]; rfl
    · rw [List.drop_length] at hi; cases hi
    · rw [yd_hh0]
      exact hQ I' a (fun p k h3 h4 => by rw [b p k h3 h4, h2 p k h4])
  unfold w_md_layout
  rw [nI_clamp (by omega), h168]
  refine ⟨vp_in_nI hk (by omega), ?_⟩
  by_cases h0 : ls.length = 0
  · refine xa_t ((xa_lel 0 (by omega) (by omega)).mpr (by omega)) ⟨131, yd_20 130 0 I (by omega) (fun l hl => by omega) (fun I2 h1 h2 => ⟨ls.length + 1, go 1 (by unfold yd_hh; rw [if_pos h0]) I2 h1 h2⟩)⟩
  · refine xa_f (fun h => by have := (xa_lel 0 (by omega) (by omega)).mp h; omega) ⟨131, yd_20 130 0 I (by omega) (fun l hl => by omega) (fun I2 h1 h2 => ⟨ls.length + 1, go 2 (by unfold yd_hh; rw [if_neg h0, List.drop_length]; rfl) I2 h1 h2⟩)⟩
/-- a character below the line -/
def yd_chr (line col : Nat) : List (Nat × Int32 × Nat) → Int32
  | [] => 32
  | e :: l => if line < e.2.2 ∧ col = e.1 then 124 else if line = e.2.2 ∧ e.1 ≤ col ∧ col < e.1 + xd_wd e.2.1 then xd_dg e.2.1 (col - e.1) else yd_chr line col l
theorem yd_chrC {I : pI} {R : pR} {t line col : Nat} {ls : List (Nat × Int32)} {K : pI → pR → Prop} {Q : Int32 → pI → pR → Prop} (hline : line < 2 ^ 31) (hcl : col < 2 ^ 31) (hN : ls.length ≤ 120) (hcol : ∀ e, e ∈ ls → e.1 < 120) (lm : xd_LM I t ls) (hlay : ∀ i e, (xd_lay ls)[i]? = some e → I (t + 4) i = nI e.2.2) (hK : Q 32 I R → K I R) :
    ∀ m i, i + m = ls.length → Q (yd_chr line col ((xd_lay ls).drop i)) I R → l_dr_characterAt_50 t (nI line) (nI col) K Q (m + 1) (nI i) I R := by
  have hll := xd_lay_len ls
  have hlin := xd_lay_b ls
  intro m; induction m with
  | zero =>
    intro i hi hQ
    unfold l_dr_characterAt_50
    rw [lm.1]
    rw [List.drop_of_length_le (by omega)] at hQ
    exact xa_t ((nI_leI (by omega) (by omega)).mpr (by omega)) (hK hQ)
  | succ m ih =>
    intro i hi hQ
    have hg : (xd_lay ls)[i]? = some (xd_lay ls)[i] := List.getElem?_eq_getElem (by omega)
    have ed : (xd_lay ls).drop i = (xd_lay ls)[i] :: (xd_lay ls).drop (i + 1) := List.drop_eq_getElem_cons (by omega)
    rw [ed] at hQ
    generalize (xd_lay ls)[i] = u at *
    have hu := xd_lay_ix ls i u hg
    have hc := hcol _ (List.mem_of_getElem? hu)
    simp only at hc
    have hl := hlin u (List.mem_of_getElem? hg)
    have wb := xd_wd_b u.2.1
    obtain ⟨v1, v2⟩ := lm.2 i _ hu
    simp only at v1 v2
    have v3 := hlay i u hg
    have hin : vp_in (nI i) 120 := vp_in_nI (by omega) (by omega)
    have j87 : ¬ (line < u.2.2 ∧ col = u.1) → j_dr_characterAt_87 t (fun y I3 R3 => l_dr_characterAt_50 t (nI line) (nI col) K Q (m + 1) y I3 R3) Q (nI line) (nI col) (nI i) I R := by
      intro hn
      have hQ' : Q (if line = u.2.2 ∧ u.1 ≤ col ∧ col < u.1 + xd_wd u.2.1 then xd_dg u.2.1 (col - u.1) else yd_chr line col ((xd_lay ls).drop (i + 1))) I R := by
        have : yd_chr line col (u :: (xd_lay ls).drop (i + 1)) = if line = u.2.2 ∧ u.1 ≤ col ∧ col < u.1 + xd_wd u.2.1 then xd_dg u.2.1 (col - u.1) else yd_chr line col ((xd_lay ls).drop (i + 1)) := by
          show (if _ then _ else _) = _
          rw [if_neg hn]
        rw [← this]; exact hQ
      unfold j_dr_characterAt_87
      rw [nI_clamp (by omega), v1, v2, v3, nI_1]
      refine ⟨hin, ?_⟩
      by_cases h1 : line = u.2.2
      · refine xa_t' (by rw [h1]) ⟨hin, ?_⟩
        by_cases h2 : col < u.1
        · rw [if_neg (by omega)] at hQ'
          exact xa_t ((nI_ltI (by omega) (by omega)).mpr h2) (ih (i + 1) (by omega) hQ')
        · refine xa_f (fun h => h2 ((nI_ltI (by omega) (by omega)).mp h)) ⟨hin, hin, xd_widthOf ?_⟩
          rw [pk_sub (by omega)]
          by_cases h3 : col < u.1 + xd_wd u.2.1
          · rw [if_pos ⟨h1, by omega, h3⟩] at hQ'
            refine xa_f (fun h => by have := (nI_leI (by omega) (by omega)).mp h; omega) ⟨hin, hin, ?_⟩
            rw [v1, v2, pk_sub (by omega)]
            exact xd_digitOf (by omega) hQ'
          · rw [if_neg (by omega)] at hQ'
            exact xa_t ((nI_leI (by omega) (by omega)).mpr (by omega)) (ih (i + 1) (by omega) hQ')
      · rw [if_neg (by omega)] at hQ'
        exact xa_f' (fun h => h1 ((nI_eq (by omega) (by omega)).mp h)) (ih (i + 1) (by omega) hQ')
    unfold l_dr_characterAt_50
    rw [lm.1, nI_clamp (by omega), v1, v3]
    refine xa_f (fun h => by have := (nI_leI (by omega) (by omega)).mp h; omega) (xa_f (fun h => by have := (xa_lle 120 (by omega) (by omega)).mp h; omega) ⟨hin, ?_⟩)
    by_cases h1 : col = u.1
    · refine xa_t' (by rw [h1]) ⟨hin, ?_⟩
      by_cases h2 : u.2.2 ≤ line
      · exact xa_t ((nI_leI (by omega) (by omega)).mpr h2) (j87 (by omega))
      · refine xa_f (fun h => h2 ((nI_leI (by omega) (by omega)).mp h)) ?_
        have : yd_chr line col (u :: (xd_lay ls).drop (i + 1)) = 124 := by
          show (if _ then _ else _) = _
          rw [if_pos ⟨by omega, h1⟩]
        rw [this] at hQ; exact hQ
    · exact xa_f' (fun h => h1 ((nI_eq (by omega) (by omega)).mp h)) (j87 (by omega))
theorem yd_chrR {I : pI} {R : pR} {k line col : Nat} {ls : List (Nat × Int32)} {K : pI → pR → Prop} {Q : Int32 → pI → pR → Prop} (hk : k < 6) (hline : line < 2 ^ 31) (hcl : col < 2 ^ 31) (hN : ls.length ≤ 120) (hcol : ∀ e, e ∈ ls → e.1 < 120) (h168 : I 168 k = nI ls.length) (hv : ∀ i e, ls[i]? = some e → I 169 (120 * k + i) = nI e.1 ∧ I 170 (120 * k + i) = e.2) (hlay : ∀ i e, (xd_lay ls)[i]? = some e → I 173 i = nI e.2.2) (hK : Q 32 I R → K I R) :
    ∀ m i, i + m = ls.length → Q (yd_chr line col ((xd_lay ls).drop i)) I R → l_md_drawn_62 (nI k) (nI line) (nI col) K Q (m + 1) (nI i) I R := by
  have hll := xd_lay_len ls
  have hlin := xd_lay_b ls
  have hin6 : vp_in (nI k) 6 := vp_in_nI hk (by omega)
  intro m; induction m with
  | zero =>
    intro i hi hQ
    unfold l_md_drawn_62
    rw [nI_clamp (by omega), h168]
    rw [List.drop_of_length_le (by omega)] at hQ
    exact ⟨hin6, xa_t ((nI_leI (by omega) (by omega)).mpr (by omega)) (hK hQ)⟩
  | succ m ih =>
    intro i hi hQ
    have hg : (xd_lay ls)[i]? = some (xd_lay ls)[i] := List.getElem?_eq_getElem (by omega)
    have ed : (xd_lay ls).drop i = (xd_lay ls)[i] :: (xd_lay ls).drop (i + 1) := List.drop_eq_getElem_cons (by omega)
    rw [ed] at hQ
    generalize (xd_lay ls)[i] = u at *
    have hu := xd_lay_ix ls i u hg
    have hc := hcol _ (List.mem_of_getElem? hu)
    simp only at hc
    have hl := hlin u (List.mem_of_getElem? hg)
    have wb := xd_wd_b u.2.1
    obtain ⟨v1, v2⟩ := hv i _ hu
    simp only at v1 v2
    have v3 := hlay i u hg
    have hin : vp_in (nI i) 120 := vp_in_nI (by omega) (by omega)
    have hin7 : vp_in (nI (120 * k + i)) 720 := vp_in_nI (by omega) (by omega)
    have j121 : ¬ (line < u.2.2 ∧ col = u.1) → j_md_drawn_121 (fun y I4 R4 => l_md_drawn_62 (nI k) (nI line) (nI col) K Q (m + 1) y I4 R4) Q (nI k) (nI line) (nI col) (nI i) (nI u.1) u.2.1 I R := by
      intro hn
      have hQ' : Q (if line = u.2.2 ∧ u.1 ≤ col ∧ col < u.1 + xd_wd u.2.1 then xd_dg u.2.1 (col - u.1) else yd_chr line col ((xd_lay ls).drop (i + 1))) I R := by
        have : yd_chr line col (u :: (xd_lay ls).drop (i + 1)) = if line = u.2.2 ∧ u.1 ≤ col ∧ col < u.1 + xd_wd u.2.1 then xd_dg u.2.1 (col - u.1) else yd_chr line col ((xd_lay ls).drop (i + 1)) := by
          show (if _ then _ else _) = _
          rw [if_neg hn]
        rw [← this]; exact hQ
      unfold j_md_drawn_121
      rw [nI_clamp (by omega), v3, nI_1]
      refine ⟨hin, ?_⟩
      by_cases h1 : line = u.2.2
      · refine xa_t' (by rw [h1]) ?_
        by_cases h2 : col < u.1
        · rw [if_neg (by omega)] at hQ'
          exact xa_t ((nI_ltI (by omega) (by omega)).mpr h2) (ih (i + 1) (by omega) hQ')
        · refine xa_f (fun h => h2 ((nI_ltI (by omega) (by omega)).mp h)) (xd_width ?_)
          rw [nI_add]
          by_cases h3 : col < u.1 + xd_wd u.2.1
          · rw [if_pos ⟨h1, by omega, h3⟩] at hQ'
            refine xa_f (fun h => by have := (nI_leI (by omega) (by omega)).mp h; omega) ?_
            rw [pk_sub (by omega)]
            exact xd_digit (by omega) hQ'
          · rw [if_neg (by omega)] at hQ'
            exact xa_t ((nI_leI (by omega) (by omega)).mpr (by omega)) (ih (i + 1) (by omega) hQ')
      · rw [if_neg (by omega)] at hQ'
        exact xa_f' (fun h => h1 ((nI_eq (by omega) (by omega)).mp h)) (ih (i + 1) (by omega) hQ')
    unfold l_md_drawn_62
    rw [show (120 : Int32) * nI k = nI (120 * k) from pk_mul _ _, nI_add, nI_clamp (show k < 2 ^ 31 by omega), nI_clamp (show 120 * k + i < 2 ^ 31 by omega), nI_clamp (show i < 2 ^ 31 by omega), h168, v1, v2, v3]
    refine ⟨hin6, xa_f (fun h => by have := (nI_leI (by omega) (by omega)).mp h; omega) ⟨hin7, hin7, hin, ?_⟩⟩
    by_cases h2 : u.2.2 ≤ line
    · exact xa_t ((nI_leI (by omega) (by omega)).mpr h2) (j121 (by omega))
    · refine xa_f (fun h => h2 ((nI_leI (by omega) (by omega)).mp h)) ?_
      by_cases h1 : col = u.1
      · refine xa_t' (by rw [h1]) ?_
        have : yd_chr line col (u :: (xd_lay ls).drop (i + 1)) = 124 := by
          show (if _ then _ else _) = _
          rw [if_pos ⟨by omega, h1⟩]
        rw [this] at hQ; exact hQ
      · exact xa_f' (fun h => h1 ((nI_eq (by omega) (by omega)).mp h)) (j121 (by omega))
