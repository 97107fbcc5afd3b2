/-! THE CLASS LOOKS FOR WHAT IS WRONG -/
def xq_fo (er : Option (Nat × Nat)) (l : List (Nat × Nat)) : Option (Nat × Nat) := l.foldl (fun er e => xk_fd e.1 e.2 er) er
theorem xq_fo_app (er : Option (Nat × Nat)) (a b : List (Nat × Nat)) : xq_fo er (a ++ b) = xq_fo (xq_fo er a) b := by simp [xq_fo]
def xq_col (h : List (Nat × Nat)) (v : Nat) : Option Nat := h.findIdx? (fun e => e.1 == v)
theorem xq_col_1 (h : List (Nat × Nat)) (e : Nat × Nat) (u : Nat) : xq_col (h ++ [e]) u = (match xq_col h u with
    | some k => some k
    | none => if e.1 = u then some h.length else none) := by
  unfold xq_col
  rw [List.findIdx?_append]
  cases h.findIdx? (fun e => e.1 == u) with
  | some k => simp
  | none =>
    by_cases he : e.1 = u
    · simp [he]
    · simp [he]
theorem xq_col_lt {h : List (Nat × Nat)} {v k : Nat} (e : xq_col h v = some k) : k < h.length := by
  unfold xq_col at e
  exact (List.findIdx?_eq_some_iff_getElem.mp e).1
def xq_c32 (o : Option Nat) : Int32 := match o with
  | some k => nI k
  | none => -1
def xq_CO (I : pI) (h : List (Nat × Nat)) : Prop := ∀ v, v < 26 → I 3 v = xq_c32 (xq_col h v)
def xq_ER (I : pI) (er : Option (Nat × Nat)) : Prop := match er with
  | none => I 2 2 = 0 ∧ I 2 3 = -1
  | some e => I 2 2 = nI e.1 ∧ I 2 3 = nI e.2 ∧ 0 < e.1 ∧ e.1 < 10 ∧ e.2 < 1000
theorem xq_tell {I : pI} {R : pR} {c p : Nat} {er : Option (Nat × Nat)} {Q : pI → pR → Prop} (he : xq_ER I er) (hc : 0 < c ∧ c < 10) (hp : p < 1000) (h : ∀ I', xq_ER I' (xk_fd c p er) → (∀ p' k', p' ≠ 2 → I' p' k' = I p' k') → Q I' R) : w_ck_tell (nI c) (nI p) I R Q := by
  have hw : xk_fd c p er = some (c, p) → ∀ I1, I1 = pw_wI I 2 2 (nI c) → ∀ I2, I2 = pw_wI I1 2 3 (nI p) → Q I2 R := by
    intro hf I1 e1 I2 e2
    have hI : ∀ p' k', I2 p' k' = if p' = 2 ∧ k' = 3 then nI p else if p' = 2 ∧ k' = 2 then nI c else I p' k' := by
      intro p' k'; rw [e2, xa_w, e1, xa_w]
    refine h I2 ?_ (fun p' k' hp => by rw [hI, if_neg (by omega), if_neg (by omega)])
    rw [hf]
    exact ⟨by rw [hI]; simp, by rw [hI]; simp, hc.1, hc.2, hp⟩
  unfold w_ck_tell
  cases er with
  | none => exact xa_t he.1 (hw rfl)
  | some e =>
    obtain ⟨a, b, c1, c2, c3⟩ := he
    rw [a, b]
    refine xa_f (xa_ne 0 (by omega)) ?_
    by_cases h1 : p < e.2
    · exact xa_t ((nI_ltI (by omega) (by omega)).mpr h1) (hw (by unfold xk_fd; simp [h1]))
    · refine xa_f (fun hh => h1 ((nI_ltI (by omega) (by omega)).mp hh)) ?_
      by_cases h2 : p = e.2
      · refine xa_t' (by rw [h2]) ?_
        by_cases h3 : c < e.1
        · exact xa_f (fun hh => by have := (nI_leI (by omega) (by omega)).mp hh; omega) (hw (by unfold xk_fd; simp [h2, h3]))
        · refine xa_t ((nI_leI (by omega) (by omega)).mpr (by omega)) (h I ?_ (fun _ _ _ => rfl))
          have : xk_fd c p (some e) = some e := by unfold xk_fd; simp [h2, h3]
          rw [this]; exact ⟨a, b, c1, c2, c3⟩
      · refine xa_f' (fun hh => h2 ((nI_eq (by omega) (by omega)).mp hh)) (h I ?_ (fun _ _ _ => rfl))
        have : xk_fd c p (some e) = some e := by unfold xk_fd; simp [h1, h2]
        rw [this]; exact ⟨a, b, c1, c2, c3⟩
theorem xq_pick {I : pI} {R : pR} {a n i : Nat} {Q : Int32 → pI → pR → Prop} (hi : i < n) (hn : n < 2 ^ 31) : w_sr_pick a n (nI i) I R Q ↔ Q (I a i) I R := by
  have e : Int32.ofNat n = nI n := rfl
  unfold w_sr_pick
  rw [e]
  simp (disch := omega) only [xa_0lt, nI_leI, nI_clamp]
  simp [show ¬ n ≤ i by omega, xa_in hn hi]
def xq_h1 (h : List (Nat × Nat)) (c : Nat) : List (Nat × Nat) := match h[c]? with
  | some e => (if (xq_col (h.take c) e.1).isSome then [(3, e.2)] else []) ++ (if c = 4 then [(4, e.2)] else [])
  | none => []
def xq_hl (h : List (Nat × Nat)) : Nat → Nat → List (Nat × Nat)
  | _, 0 => []
  | c, m + 1 => xq_h1 h c ++ xq_hl h (c + 1) m
def xq_S (p k : Nat) : Bool := p == 2 || p == 3 || p == 4
theorem xq_hdr {R : pR} {q : Nat} {h : List (Nat × Nat)} {K Q : pI → pR → Prop} (hq : q = 54 ∨ q = 81) (hl : h.length ≤ 60) (hv : ∀ (i : Nat) (e : Nat × Nat), h[i]? = some e → e.1 < 26 ∧ e.2 < 1000) : ∀ m c er I, c + m = h.length → xi_HM I q h → xq_CO I (h.take c) → xq_ER I er → (∀ I', xq_CO I' h → xq_ER I' (xq_fo er (xq_hl h c m)) → I' 4 = I 4 → xa_fr xq_S I I' → K I' R) → l_ck_checkHeader_2 q K Q (m + 1) (nI c) I R := by
  intro m; induction m with
  | zero =>
    intro c er I hc hm co he hK
    unfold l_ck_checkHeader_2
    rw [hm.1]
    refine xa_t ((nI_leI (by omega) (by omega)).mpr (by omega)) (hK I ?_ he rfl (xa_fr_r _ _))
    rw [List.take_of_length_le (by omega)] at co; exact co
  | succ m ih =>
    intro c er I hc hm co he hK
    have hg : h[c]? = some h[c] := List.getElem?_eq_getElem (by omega)
    generalize h[c] = e at hg
    have hb := hv c e hg
    have hmc := hm.2 c e hg
    unfold l_ck_checkHeader_2
    rw [hm.1]
    refine xa_f (fun hh => by have := (nI_leI (by omega) (by omega)).mp hh; omega) ?_
    rw [xq_pick (by omega) (by omega), hmc.1, xq_pick (by omega) (by omega), hmc.2, xq_pick hb.1 (by omega), co e.1 hb.1]
    have htk : h.take (c + 1) = h.take c ++ [e] := by
      rw [List.take_add_one, hg]; rfl
    have hlt : (h.take c).length = c := by rw [List.length_take]; omega
    have go59 : ∀ I1 er1, (∀ p' k', p' ≠ 2 → p' ≠ 3 → I1 p' k' = I p' k') → xq_CO I1 (h.take (c + 1)) → xq_ER I1 er1 → er1 = xq_fo er (if (xq_col (h.take c) e.1).isSome then [(3, e.2)] else []) → j_ck_checkHeader_59 q (fun y1 I6 R6 => l_ck_checkHeader_2 q K Q (m + 1) y1 I6 R6) Q (nI c) (nI e.2) I1 R := by
      intro I1 er1 f1 co1 he1 hee
      have hm1 : xi_HM I1 q h := ⟨by rw [f1 _ _ (by omega) (by omega)]; exact hm.1, fun i e hi => by rw [f1 _ _ (by omega) (by omega), f1 _ _ (by omega) (by omega)]; exact hm.2 i e hi⟩
      have fin : ∀ I2 er2, (∀ p' k', p' ≠ 2 → I2 p' k' = I1 p' k') → xq_ER I2 er2 → er2 = xq_fo er (xq_h1 h c) → l_ck_checkHeader_2 q K Q (m + 1) (nI c + 1) I2 R := by
        intro I2 er2 f2 he2 hee2
        rw [nI_1]
        refine ih (c + 1) er2 I2 (by omega) ⟨by rw [f2 _ _ (by omega)]; exact hm1.1, fun i e hi => by rw [f2 _ _ (by omega), f2 _ _ (by omega)]; exact hm1.2 i e hi⟩ (fun v hv => by rw [f2 _ _ (by omega)]; exact co1 v hv) he2 (fun I' co' he' e4 fr' => hK I' co' ?_ ?_ ?_)
        · show xq_ER I' (xq_fo er (xq_h1 h c ++ xq_hl h (c + 1) m))
          rw [xq_fo_app, ← hee2]; exact he'
        · rw [e4]; funext k; rw [f2 _ _ (by omega), f1 _ _ (by omega) (by omega)]
        · intro p k hp
          simp only [xq_S, Bool.or_eq_false_iff, beq_eq_false_iff_ne] at hp
          rw [fr' p k (by simp only [xq_S, Bool.or_eq_false_iff, beq_eq_false_iff_ne]; exact hp), f2 _ _ (by omega), f1 _ _ (by omega) (by omega)]
      unfold j_ck_checkHeader_59
      by_cases h4 : c = 4
      · refine xa_t' (xa_e 4 h4) ?_
        refine xq_tell he1 (c := 4) (by decide) hb.2 (fun I2 he2 f2 => fin I2 _ f2 he2 ?_)
        unfold xq_h1
        rw [hg, hee]
        show _ = xq_fo er (_ ++ (if c = 4 then _ else _))
        rw [if_pos h4, xq_fo_app]; rfl
      · refine xa_f' (xa_ne 4 (by omega)) (fin I1 er1 (fun _ _ _ => rfl) he1 ?_)
        unfold xq_h1
        rw [hg, hee]
        show _ = xq_fo er (_ ++ (if c = 4 then _ else _))
        rw [if_neg h4, List.append_nil]
    cases hcol : xq_col (h.take c) e.1 with
    | none =>
      rw [hcol] at go59
      refine xa_t (by decide) (xc_put (by omega) hb.1 (go59 _ er ?_ ?_ ?_ rfl))
      · intro p' k' h2 h3; rw [xa_p h3]
      · intro v hv
        rw [xa_w, htk, xq_col_1]
        by_cases hve : v = e.1
        · subst hve
          rw [if_pos ⟨rfl, rfl⟩, hcol]
          simp [hlt, xq_c32]
        · rw [if_neg (fun h => hve h.2), co v hv]
          cases xq_col (h.take c) v with
          | some k => rfl
          | none => simp [show ¬ e.1 = v from fun h => hve h.symm]
      · unfold xq_ER at he ⊢
        cases er with
        | none => simp only at he ⊢; rw [xa_p (by decide)]; exact he
        | some e => simp only at he ⊢; rw [xa_p (by decide)]; exact he
    | some k =>
      rw [hcol] at go59
      have hk := xq_col_lt hcol
      rw [hlt] at hk
      refine xa_f (nI_pos (by omega)) (xq_tell he (c := 3) (by decide) hb.2 (fun I1 he1 f1 => go59 I1 _ (fun p' k' h2 _ => f1 p' k' h2) ?_ he1 rfl))
      intro v hv
      rw [f1 _ _ (by omega), co v hv, htk, xq_col_1]
      cases hc2 : xq_col (h.take c) v with
      | some k' => rfl
      | none =>
        have : ¬ e.1 = v := by rintro rfl; rw [hcol] at hc2; cases hc2
        simp [this]
/-! statements -/
def xq_asg (its : List xi_I) (j v : Nat) : Bool := (its.take j).any (fun it => decide (xi_k it ≤ 2) && decide (xi_tg it = some v))
def xq_AS (I : pI) (its : List xi_I) (j : Nat) : Prop := ∀ v, v < 26 → I 4 v = if xq_asg its j v then 1 else 0
def xq_kn (h : List (Nat × Nat)) (its : List xi_I) (j : Nat) (it : xi_I) (v : Nat) : Bool := if xi_k it = 8 then (match xq_col h v with
    | some k => decide (k < (xi_tg it).getD 0)
    | none => false)
  else (xq_col h v).isSome || xq_asg its j v
def xq_ld (c : List xp_I) : List (Nat × Nat) := c.filterMap (fun e => if e.1 = 1 then some (e.2.2.2, e.2.1) else none)
def xq_us (h : List (Nat × Nat)) (its : List xi_I) (j : Nat) (it : xi_I) (u : List (Nat × Nat)) : List (Nat × Nat) := u.flatMap (fun e => if xq_kn h its j it e.2 then [] else [(2, e.1)])
def xq_s1 (h : List (Nat × Nat)) (its : List xi_I) (j : Nat) (it : xi_I) : List (Nat × Nat) := if xi_k it = 7 then (match xi_mo (xi_ru it) with
    | some m => if m < xi_le (xi_ru it) then [(5, xi_fi it)] else []
    | none => [])
  else xq_us h its j it (xq_ld (xi_x it).1) ++ (if xi_k it ≤ 2 then (match xi_tg it with
    | some v => if (xq_col h v).isSome then [(3, xi_fi it)] else []
    | none => []) else [])
