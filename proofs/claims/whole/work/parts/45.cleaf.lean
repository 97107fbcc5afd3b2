/-! THE CLASS'S READER: small rows -/
def xc_CX (I : pI) (R : pR) (q : Nat) (ts : List (Nat × Nat × Nat × Nat)) (L : Nat) : Prop := xt_TC I ts ∧ I 109 5 = nI L ∧ xt_WF ts L ∧ R 108 1 = some q ∧ (q = 54 ∨ q = 81)
theorem xc_TC_fr {S : Nat → Nat → Bool} {I I' : pI} {ts : List (Nat × Nat × Nat × Nat)} (h : xt_TC I ts) (fr : xa_fr S I I') (hs : ∀ p k, 109 ≤ p → p ≤ 113 → S p k = false) : xt_TC I' ts := by
  refine ⟨by rw [fr 109 4 (hs _ _ (by decide) (by decide))]; exact h.1, fun i t ht => ?_⟩
  rw [fr 110 i (hs _ _ (by decide) (by decide)), fr 111 i (hs _ _ (by decide) (by decide)), fr 112 i (hs _ _ (by decide) (by decide)), fr 113 i (hs _ _ (by decide) (by decide))]
  exact h.2 i t ht
theorem xc_CX_fr {S : Nat → Nat → Bool} {I I' : pI} {R : pR} {q L : Nat} {ts : List (Nat × Nat × Nat × Nat)} (h : xc_CX I R q ts L) (fr : xa_fr S I I') (hs : ∀ p k, 109 ≤ p → p ≤ 113 → S p k = false) : xc_CX I' R q ts L :=
  ⟨xc_TC_fr h.1 fr hs, by rw [fr 109 5 (hs _ _ (by decide) (by decide))]; exact h.2.1, h.2.2⟩
theorem xc_sh {q : Nat} (hq : q = 54 ∨ q = 81) : pSH[q]? = some (0, 5) := by
  rcases hq with rfl | rfl <;> rfl
theorem xc_kindAt {I : pI} {R : pR} {q L i : Nat} {ts : List (Nat × Nat × Nat × Nat)} {Q : Int32 → pI → pR → Prop} (cx : xc_CX I R q ts L) (hi : i < 2 ^ 31) : w_tk_kindAt (nI i) I R Q ↔ Q (nI (xt_kd ts L i)) I R := by
  obtain ⟨tc, hL, w, hR, hq⟩ := cx
  have hl := w.2.1
  have hk := w.1
  unfold w_tk_kindAt
  rw [tc.1]
  simp (disch := omega) only [xa_l120, xa_l256, xa_0lt, nI_leI, nI_clamp]
  by_cases h : i < ts.length
  · have e := (tc.2 i _ (xt_at_lt (L := L) h)).1
    simp [show ¬ ts.length ≤ i by omega, show ¬ 120 ≤ i by omega, e, xa_in (n := i) (N := 120) (by decide) (by omega), xt_kd]
  · have e : xt_kd ts L i = 256 := by unfold xt_kd; rw [xt_at_ge (by omega)]
    simp [show ts.length ≤ i by omega, e]
theorem xc_placeOf {I : pI} {R : pR} {q L i : Nat} {ts : List (Nat × Nat × Nat × Nat)} {Q : Int32 → pI → pR → Prop} (cx : xc_CX I R q ts L) (hi : i < 2 ^ 31) : w_tk_placeOf (nI i) I R Q ↔ Q (nI (xt_pl ts L i)) I R := by
  obtain ⟨tc, hL, w, hR, hq⟩ := cx
  have hl := w.2.1
  have hk := w.1
  unfold w_tk_placeOf
  rw [tc.1]
  simp (disch := omega) only [xa_l120, xa_0lt, nI_leI, nI_clamp]
  by_cases h : i < ts.length
  · have e := (tc.2 i _ (xt_at_lt (L := L) h)).2.1
    simp [show ¬ ts.length ≤ i by omega, show ¬ 120 ≤ i by omega, e, xa_in (n := i) (N := 120) (by decide) (by omega), xt_pl]
  · have e : xt_pl ts L i = L := by unfold xt_pl; rw [xt_at_ge (by omega)]
    simp [show ts.length ≤ i by omega, e, hL]
theorem xc_numberOf {I : pI} {R : pR} {q L i : Nat} {ts : List (Nat × Nat × Nat × Nat)} {Q : Int32 → pI → pR → Prop} (cx : xc_CX I R q ts L) (hi : i < 2 ^ 31) : w_tk_numberOf (nI i) I R Q ↔ Q (nI (xt_nm ts L i)) I R := by
  obtain ⟨tc, hL, w, hR, hq⟩ := cx
  have hl := w.2.1
  have hk := w.1
  unfold w_tk_numberOf
  rw [tc.1]
  simp (disch := omega) only [xa_l120, xa_0lt, nI_leI, nI_clamp]
  by_cases h : i < ts.length
  · have e := (tc.2 i _ (xt_at_lt (L := L) h)).2.2.2
    simp [show ¬ ts.length ≤ i by omega, show ¬ 120 ≤ i by omega, e, xa_in (n := i) (N := 120) (by decide) (by omega), xt_nm]
  · have e : xt_nm ts L i = 0 := by unfold xt_nm; rw [xt_at_ge (by omega)]
    simp [show ts.length ≤ i by omega, e]; rfl
theorem xc_endOf {I : pI} {R : pR} {q L i : Nat} {ts : List (Nat × Nat × Nat × Nat)} {Q : Int32 → pI → pR → Prop} (cx : xc_CX I R q ts L) (h : i < ts.length) : w_tk_endOf (nI i) I R Q ↔ Q (nI (xt_en ts L i)) I R := by
  obtain ⟨tc, hL, w, hR, hq⟩ := cx
  have hl := w.2.1
  have hk := w.1
  unfold w_tk_endOf
  rw [tc.1]
  simp (disch := omega) only [xa_l120, xa_0lt, nI_leI, nI_clamp]
  have e := (tc.2 i _ (xt_at_lt (L := L) h)).2.2.1
  simp [show ¬ ts.length ≤ i by omega, show ¬ 120 ≤ i by omega, e, xa_in (n := i) (N := 120) (by decide) (by omega), xt_en]
theorem xc_endOf_any {I : pI} {R : pR} {a : Int32} {Q : Int32 → pI → pR → Prop} (h : ∀ v, Q v I R) : w_tk_endOf a I R Q := by
  unfold w_tk_endOf
  refine ⟨fun _ => h _, fun h0 => ⟨fun _ => h _, fun _ => ⟨fun _ => h _, fun h1 => ⟨?_, h _⟩⟩⟩⟩
  rcases pk_ix a (n := 120) (by decide) with h2 | h2 | ⟨j, hj, e⟩
  · exact absurd h2 h0
  · exact absurd h2 h1
  · rw [e]; exact vp_in_nI hj (by decide)
theorem xc_levelOf {k : Nat} (hk : k < 2 ^ 31) {I : pI} {R : pR} {Q : Int32 → pI → pR → Prop} : w_sr_levelOf (nI k) I R Q ↔ Q (if xp_lev k = 9 then -1 else nI (xp_lev k)) I R := by
  unfold w_sr_levelOf
  simp (disch := omega) only [xa_l37, xa_l42, xa_l43, xa_l45, xa_l47, xa_l60, xa_l62, xa_l260, xa_l261, xa_l262, xa_l263, xa_l264, xa_l265, nI_eq]
  by_cases h : k = 37 ∨ k = 42 ∨ k = 43 ∨ k = 45 ∨ k = 47 ∨ k = 60 ∨ k = 62 ∨ k = 260 ∨ k = 261 ∨ k = 262 ∨ k = 263 ∨ k = 264 ∨ k = 265
  · rcases h with rfl | rfl | rfl | rfl | rfl | rfl | rfl | rfl | rfl | rfl | rfl | rfl | rfl <;> simp [xp_lev] <;> rfl
  · have e : xp_lev k = 9 := by
      unfold xp_lev
      rw [if_neg (by omega), if_neg (by omega), if_neg (by omega), if_neg (by omega), if_neg (by omega)]
    rw [e]
    simp [show ¬ k = 37 by omega, show ¬ k = 42 by omega, show ¬ k = 43 by omega, show ¬ k = 45 by omega, show ¬ k = 47 by omega, show ¬ k = 60 by omega, show ¬ k = 62 by omega, show ¬ k = 260 by omega, show ¬ k = 261 by omega, show ¬ k = 262 by omega, show ¬ k = 263 by omega, show ¬ k = 264 by omega, show ¬ k = 265 by omega]
theorem xc_lev_eq {k lv : Nat} (hlv : lv ≤ 4) : (if xp_lev k = 9 then (-1 : Int32) else nI (xp_lev k)) = nI lv ↔ xp_lev k = lv := by
  have h9 : xp_lev k ≤ 9 := by
    unfold xp_lev
    repeat' split
    all_goals decide
  by_cases h : xp_lev k = 9
  · rw [if_pos h, h]
    constructor
    · intro e; exfalso
      have : ¬ (nI lv < 0) := nI_pos (by omega)
      rw [← e] at this
      exact this (by decide)
    · omega
  · rw [if_neg h, nI_eq (by omega) (by omega)]
theorem xc_next {I : pI} {R : pR} {q L i : Nat} {ts : List (Nat × Nat × Nat × Nat)} {Q : Int32 → pI → pR → Prop} (cx : xc_CX I R q ts L) (hn : I 108 2 = nI i) (hi : i < 2 ^ 31) : w_ps_next I R Q ↔ Q (nI (xt_kd ts L i)) I R := by
  unfold w_ps_next; rw [hn, xc_kindAt cx hi]
def xc_S8 (p k : Nat) : Bool := p == 108 && (k == 2 || k == 3)
theorem xc_fail1 {I : pI} {R : pR} {q L i : Nat} {ts : List (Nat × Nat × Nat × Nat)} {Q : pI → pR → Prop} (cx : xc_CX I R q ts L) (hn : I 108 2 = nI i) (hi : i ≤ ts.length) (hw : I 108 3 = -1)
    (h : ∀ I', I' 108 2 = nI ts.length → I' 108 3 = nI (xt_pl ts L i) → xa_fr xc_S8 I I' → Q I' R) : w_ps_fail I R Q := by
  obtain ⟨tc, hL, w, hR, hq⟩ := cx
  have hl := w.2.1
  have hk := w.1
  unfold w_ps_fail
  rw [hw, hn, tc.1]
  refine xa_f (by decide) (xa_f (nI_pos (by omega)) ?_)
  by_cases hT : ts.length ≤ i
  · refine xa_t ((nI_leI (by omega) (by omega)).mpr hT) (xa_a (xa_a (h _ ?_ ?_ ?_)))
    · rw [xa_w]; simp [xa_w, tc.1]
    · simp [xa_w, hL, xt_pl, xt_at_ge hT]
    · exact xa_fr_w (xa_fr_w (xa_fr_r _ _) rfl) rfl
  · refine xa_f (fun hh => hT ((nI_leI (by omega) (by omega)).mp hh)) (xa_f (fun hh => by have := (xa_lle 120 (by omega) (by omega)).mp hh; omega) ⟨vp_in_nI (by omega) (by omega), xa_a (xa_a (h _ ?_ ?_ ?_))⟩)
    · rw [xa_w]; simp [xa_w, tc.1]
    · rw [nI_clamp (by omega), (tc.2 i _ (xt_at_lt (L := L) (by omega))).2.1]; simp [xa_w, xt_pl]
    · exact xa_fr_w (xa_fr_w (xa_fr_r _ _) rfl) rfl
theorem xc_fail2 {I : pI} {R : pR} {q L v : Nat} {ts : List (Nat × Nat × Nat × Nat)} {Q : pI → pR → Prop} (cx : xc_CX I R q ts L) (hw : I 108 3 = nI v) (hv : v < 2 ^ 31)
    (h : ∀ I', I' 108 2 = nI ts.length → I' 108 3 = nI v → xa_fr xc_S8 I I' → Q I' R) : w_ps_fail I R Q := by
  obtain ⟨tc, hL, w, hR, hq⟩ := cx
  unfold w_ps_fail
  rw [hw]
  refine xa_t (nI_pos' hv) (xa_a (h _ ?_ ?_ ?_))
  · rw [xa_w]; simp [tc.1]
  · rw [xa_w]; simp [hw]
  · exact xa_fr_w (xa_fr_r _ _) rfl
def xc_S1 (q s p k : Nat) : Bool := (p == q + 2 && k == 4) || ((p == q + 3 || p == q + 4 || p == q + 5 || p == q + 6) && k == s)
def xc_S (q s p k : Nat) : Bool := p == 108 || (p == q + 2 && k == 4) || ((p == q + 3 || p == q + 4 || p == q + 5 || p == q + 6) && decide (s ≤ k))
theorem xc_cdadd {I : pI} {R : pR} {q s k d e : Nat} {Q : Int32 → pI → pR → Prop} (hq : q = 54 ∨ q = 81) (hs : I (q + 2) 4 = nI s) (hl : s < 120)
    (h : ∀ I', I' (q + 2) 4 = nI (s + 1) → I' (q + 3) s = nI k → I' (q + 4) s = nI d → I' (q + 5) s = nI (s + 1) → I' (q + 6) s = nI e → xa_fr (xc_S1 q s) I I' → Q (nI s) I' R) : w_cd_add (q + 2) (nI k) (nI d) (nI e) I R Q := by
  have hb : vp_in (nI s) 120 := vp_in_nI hl (by decide)
  have hc : (nI s).toNatClampNeg = s := nI_clamp (by omega)
  unfold w_cd_add
  rw [hs, hc]
  refine xa_f (by rw [xa_lle 120 (by omega) (by omega)]; omega) ⟨hb, fun I1 e1 => ?_⟩
  have s1 : I1 (q + 2) 4 = nI s := by rw [e1, xa_w]; simp [hs]
  rw [s1, hc]
  refine ⟨hb, fun I2 e2 => ?_⟩
  have s2 : I2 (q + 2) 4 = nI s := by rw [e2, xa_w]; simp [s1]
  rw [s2, hc]
  refine ⟨hb, fun I3 e3 => ?_⟩
  have s3 : I3 (q + 2) 4 = nI s := by rw [e3, xa_w]; simp [s2]
  rw [s3, hc]
  refine ⟨hb, fun I4 e4 => ?_⟩
  have s4 : I4 (q + 2) 4 = nI s := by rw [e4, xa_w]; simp [s3]
  rw [s4]
  intro I5 e5
  have hI : ∀ p' i, I5 p' i = (if p' = q + 2 ∧ i = 4 then nI s + 1 else if p' = q + 6 ∧ i = s then nI e else if p' = q + 5 ∧ i = s then nI s + 1 else if p' = q + 4 ∧ i = s then nI d else if p' = q + 3 ∧ i = s then nI k else I p' i) := by
    intro p' i; rw [e5, xa_w, e4, xa_w, e3, xa_w, e2, xa_w, e1, xa_w]
  have s5 : I5 (q + 2) 4 = nI (s + 1) := by rw [hI]; simp [nI_1]
  rw [s5, nI_pred]
  refine h I5 s5 ?_ ?_ ?_ ?_ ?_
  · rw [hI]; simp
  · rw [hI]; simp
  · rw [hI]; simp [nI_1]
  · rw [hI]; simp
  · intro p' i hp
    rw [hI]
    simp only [xc_S1, Bool.or_eq_false_iff, Bool.and_eq_false_iff, beq_eq_false_iff_ne] at hp
    rw [if_neg (by omega), if_neg (by omega), if_neg (by omega), if_neg (by omega), if_neg (by omega)]
theorem xc_S1_S {q s s' : Nat} (h : s' ≤ s) : ∀ p k, xc_S q s' p k = false → xc_S1 q s p k = false := by
  intro p k hp
  simp only [xc_S, xc_S1, Bool.or_eq_false_iff, Bool.and_eq_false_iff, beq_eq_false_iff_ne, decide_eq_false_iff_not] at hp ⊢
  omega
theorem xc_S_S {q s s' : Nat} (h : s' ≤ s) : ∀ p k, xc_S q s' p k = false → xc_S q s p k = false := by
  intro p k hp
  simp only [xc_S, Bool.or_eq_false_iff, Bool.and_eq_false_iff, beq_eq_false_iff_ne, decide_eq_false_iff_not] at hp ⊢
  omega
theorem xc_S8_S {q s : Nat} : ∀ p k, xc_S q s p k = false → xc_S8 p k = false := by
  intro p k hp
  simp only [xc_S, xc_S8, Bool.or_eq_false_iff, Bool.and_eq_false_iff, beq_eq_false_iff_ne, decide_eq_false_iff_not] at hp ⊢
  omega
theorem xc_S_tk {q s : Nat} (hq : q = 54 ∨ q = 81) : ∀ p k, 109 ≤ p → p ≤ 113 → xc_S q s p k = false := by
  intro p k h1 h2
  simp only [xc_S, Bool.or_eq_false_iff, Bool.and_eq_false_iff, beq_eq_false_iff_ne, decide_eq_false_iff_not]
  omega
theorem xc_cdadd_any {I : pI} {R : pR} {q s : Nat} {k d e : Int32} {Q : Int32 → pI → pR → Prop} (hq : q = 54 ∨ q = 81) (hs : I (q + 2) 4 = nI s) (hl : s ≤ 120)
    (h : ∀ v I', (∃ s', s' ≤ 120 ∧ I' (q + 2) 4 = nI s') → I' 108 = I 108 → xa_fr (xc_S q 0) I I' → Q v I' R) : w_cd_add (q + 2) k d e I R Q := by
  have hc : (nI s).toNatClampNeg = s := nI_clamp (by omega)
  unfold w_cd_add
  rw [hs, hc]
  by_cases h120 : 120 ≤ s
  · exact xa_t ((xa_lle 120 (by omega) (by omega)).mpr h120) (h _ I ⟨s, hl, hs⟩ rfl (xa_fr_r _ _))
  have hb : vp_in (nI s) 120 := vp_in_nI (by omega) (by decide)
  refine xa_f (by rw [xa_lle 120 (by omega) (by omega)]; omega) ⟨hb, fun I1 e1 => ?_⟩
  have s1 : I1 (q + 2) 4 = nI s := by rw [e1, xa_w]; simp [hs]
  rw [s1, hc]
  refine ⟨hb, fun I2 e2 => ?_⟩
  have s2 : I2 (q + 2) 4 = nI s := by rw [e2, xa_w]; simp [s1]
  rw [s2, hc]
  refine ⟨hb, fun I3 e3 => ?_⟩
  have s3 : I3 (q + 2) 4 = nI s := by rw [e3, xa_w]; simp [s2]
  rw [s3, hc]
  refine ⟨hb, fun I4 e4 => ?_⟩
  have s4 : I4 (q + 2) 4 = nI s := by rw [e4, xa_w]; simp [s3]
  rw [s4]
  intro I5 e5
  refine h _ I5 ⟨s + 1, by omega, ?_⟩ ?_ ?_
  · rw [e5, xa_w]; simp [nI_1]
  · rw [e5, e4, e3, e2, e1, xa_p (by omega), xa_p (by omega), xa_p (by omega), xa_p (by omega), xa_p (by omega)]
  · rw [e5, e4, e3, e2, e1]
    refine xa_fr_w (xa_fr_w (xa_fr_w (xa_fr_w (xa_fr_w (xa_fr_r _ _) ?_) ?_) ?_) ?_) ?_ <;> simp [xc_S]
theorem xc_put_any {I : pI} {R : pR} {a n : Nat} {i v : Int32} {Q : pI → pR → Prop} (hn : n < 2 ^ 31) (h : ∀ I', (I' = I ∨ ∃ k, I' = pw_wI I a k v) → Q I' R) : w_sr_put a n i v I R Q := by
  unfold w_sr_put
  refine ⟨fun _ => h _ (Or.inl rfl), fun h0 => ⟨fun _ => h _ (Or.inl rfl), fun h1 => ?_⟩⟩
  rcases pk_ix i hn with h2 | h2 | ⟨j, hj, e⟩
  · exact absurd h2 h0
  · exact absurd h2 h1
  · rw [e]; exact ⟨vp_in_nI hj hn, xa_a (h _ (Or.inr ⟨_, rfl⟩))⟩
theorem xc_cdaim_any {I : pI} {R : pR} {q s : Nat} {i : Int32} {Q : pI → pR → Prop} (hq : q = 54 ∨ q = 81) (hs : I (q + 2) 4 = nI s) (hl : s ≤ 120)
    (h : ∀ I', (∃ s', s' ≤ 120 ∧ I' (q + 2) 4 = nI s') → I' 108 = I 108 → xa_fr (xc_S q 0) I I' → Q I' R) : w_cd_aim (q + 2) i I R Q := by
  unfold w_cd_aim
  refine xc_put_any (by decide) (fun I' hI => ?_)
  rcases hI with rfl | ⟨k, rfl⟩
  · exact h _ ⟨s, hl, hs⟩ rfl (xa_fr_r _ _)
  · refine h _ ⟨s, hl, ?_⟩ ?_ (xa_fr_w (xa_fr_r _ _) ?_)
    · rw [xa_w, if_neg (by omega)]; exact hs
    · rw [xa_p (by omega)]
    · simp [xc_S]
theorem xc_put {I : pI} {R : pR} {a n i : Nat} {v : Int32} {Q : pI → pR → Prop} (hn : n < 2 ^ 31) (hi : i < n) (h : Q (pw_wI I a i v) R) : w_sr_put a n (nI i) v I R Q := by
  unfold w_sr_put
  refine xa_f (nI_pos (by omega)) (xa_f (nI_ge hi hn) ⟨vp_in_nI hi hn, ?_⟩)
  rw [nI_clamp (by omega)]
  exact xa_a h
theorem xc_cdaim {I : pI} {R : pR} {q s i : Nat} {Q : pI → pR → Prop} (hs : I (q + 2) 4 = nI s) (hl : s ≤ 120) (hi : i + 1 < s) (h : Q (pw_wI I (q + 5) i (nI s)) R) : w_cd_aim (q + 2) (nI i) I R Q := by
  unfold w_cd_aim
  rw [hs, nI_1, if_pos (nI_lt hi (by omega))]
  exact xc_put (by decide) (by omega) h
def xc_CD (I : pI) (q s : Nat) (c : List xp_I) : Prop := ∀ i e, c[i]? = some e → I (q + 3) (s + i) = nI e.1 ∧ I (q + 4) (s + i) = nI e.2.1 ∧ I (q + 5) (s + i) = nI (s + i + e.2.2.1) ∧ I (q + 6) (s + i) = nI e.2.2.2
theorem xc_CD_app {I : pI} {q s : Nat} {c d : List xp_I} (h : xc_CD I q s c) (h2 : xc_CD I q (s + c.length) d) : xc_CD I q s (c ++ d) := by
  intro i e hi
  by_cases hl : i < c.length
  · rw [List.getElem?_append_left hl] at hi; exact h i e hi
  · rw [List.getElem?_append_right (by omega)] at hi
    have := h2 _ e hi
    rw [show s + c.length + (i - c.length) = s + i by omega] at this
    exact this
theorem xc_CD_one {I : pI} {q s k d t e : Nat} (h1 : I (q + 3) s = nI k) (h2 : I (q + 4) s = nI d) (h3 : I (q + 5) s = nI (s + t)) (h4 : I (q + 6) s = nI e) : xc_CD I q s [(k, d, t, e)] := by
  intro i u hi
  cases i with
  | zero => simp at hi; subst hi; exact ⟨h1, h2, h3, h4⟩
  | succ i => simp at hi
theorem xc_CD_nil {I : pI} {q s : Nat} : xc_CD I q s [] := by intro i u hi; simp at hi
theorem xc_CD_fr {I I' : pI} {q s s' : Nat} {c : List xp_I} (hq : q = 54 ∨ q = 81) (h : xc_CD I q s c) (fr : xa_fr (xc_S q s') I I') (hs : s + c.length ≤ s') : xc_CD I' q s c := by
  intro i e hi
  have hl : i < c.length := by
    rcases Nat.lt_or_ge i c.length with h | h
    · exact h
    · rw [List.getElem?_eq_none h] at hi; cases hi
  have := h i e hi
  have f : ∀ p, (p = q + 3 ∨ p = q + 4 ∨ p = q + 5 ∨ p = q + 6) → I' p (s + i) = I p (s + i) := fun p hp => fr p (s + i) (by
    simp only [xc_S, Bool.or_eq_false_iff, Bool.and_eq_false_iff, beq_eq_false_iff_ne, decide_eq_false_iff_not]
    omega)
  rw [f _ (Or.inl rfl), f _ (Or.inr (Or.inl rfl)), f _ (Or.inr (Or.inr (Or.inl rfl))), f _ (Or.inr (Or.inr (Or.inr rfl)))]
  exact this
