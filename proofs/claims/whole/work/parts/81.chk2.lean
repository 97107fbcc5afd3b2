def xq_CI (c : List xp_I) : Prop := ∀ e, e ∈ c → e.1 < 10 ∧ e.2.1 < 20000 ∧ e.2.2.2 < 1000 ∧ (e.1 = 1 → e.2.1 < 26)
theorem xq_pick_any {I : pI} {R : pR} {a n : Nat} {i : Int32} {Q : Int32 → pI → pR → Prop} (hn : n < 2 ^ 31) (h : ∀ v, Q v I R) : w_sr_pick a n i I R Q := by
  unfold w_sr_pick
  refine ⟨fun _ => h _, fun h0 => ⟨fun _ => h _, fun h1 => ⟨?_, h _⟩⟩⟩
  rcases pk_ix i hn with h2 | h2 | ⟨j, hj, e⟩
  · exact absurd h2 h0
  · exact absurd h2 h1
  · rw [e]; exact vp_in_nI hj hn
theorem xq_known {I : pI} {R : pR} {v : Nat} {h : List (Nat × Nat)} {its : List xi_I} {j : Nat} {Q : Int32 → pI → pR → Prop} (co : xq_CO I h) (as : xq_AS I its j) (hl : h.length ≤ 60) (hv : v < 26) (hq : Q (if (xq_col h v).isSome || xq_asg its j v then 1 else 0) I R) : w_ck_isKnown (nI v) I R Q := by
  unfold w_ck_isKnown
  rw [xq_pick hv (by omega), co v hv]
  cases hc : xq_col h v with
  | some k =>
    have := xq_col_lt hc
    rw [hc] at hq
    exact xa_t (nI_pos' (by omega)) (by simpa using hq)
  | none =>
    rw [hc] at hq
    refine xa_f (by decide) ?_
    rw [xq_pick hv (by omega), as v hv]
    cases ha : xq_asg its j v with
    | true => rw [ha] at hq; exact xa_f (by decide) (by simpa using hq)
    | false => rw [ha] at hq; exact xa_t (by decide) (by simpa using hq)
theorem xq_left {I : pI} {R : pR} {v c : Nat} {h : List (Nat × Nat)} {Q : Int32 → pI → pR → Prop} (co : xq_CO I h) (hl : h.length ≤ 60) (hv : v < 26) (hc : c < 1000) (hq : Q (if (match xq_col h v with
    | some k => decide (k < c)
    | none => false) then 1 else 0) I R) : w_ck_isLeftOf (nI v) (nI c) I R Q := by
  unfold w_ck_isLeftOf
  rw [xq_pick hv (by omega), co v hv]
  cases hcol : xq_col h v with
  | some k =>
    have := xq_col_lt hcol
    rw [hcol] at hq
    refine xa_f (nI_pos (by omega)) ?_
    rw [xq_pick hv (by omega), co v hv, hcol]
    by_cases hk : k < c
    · exact xa_f (fun hh => by have := (nI_leI (by omega) (by omega)).mp hh; omega) (by simpa [hk] using hq)
    · exact xa_t ((nI_leI (by omega) (by omega)).mpr (by omega)) (by simpa [hk] using hq)
  | none =>
    rw [hcol] at hq
    exact xa_t (by decide) (by simpa using hq)
theorem xq_CO_2 {I I' : pI} {h : List (Nat × Nat)} (co : xq_CO I h) (f : ∀ p' k', p' ≠ 2 → I' p' k' = I p' k') : xq_CO I' h := fun v hv => by rw [f _ _ (by omega)]; exact co v hv
theorem xq_AS_2 {I I' : pI} {its : List xi_I} {j : Nat} (co : xq_AS I its j) (f : ∀ p' k', p' ≠ 2 → I' p' k' = I p' k') : xq_AS I' its j := fun v hv => by rw [f _ _ (by omega)]; exact co v hv
/-- the loop over the instructions of an expression -/
theorem xq_code {R : pR} {q a : Nat} {h : List (Nat × Nat)} {its : List xi_I} {j : Nat} {it : xi_I} {f2 : Int32} {K Q : pI → pR → Prop} (hq : q = 54 ∨ q = 81) (hl : h.length ≤ 60) (hk8 : xi_k it < 20) (htg : xi_k it = 8 → ∃ c, xi_tg it = some c ∧ c < 1000) {det : Int32} (hdet : xi_k it = 8 → det = nI ((xi_tg it).getD 0)) : ∀ (d : List xp_I) (s : Nat) (er : Option (Nat × Nat)) (I : pI), s + d.length ≤ 120 → xc_CD I q s d → xq_CI d → xq_CO I h → xq_AS I its j → xq_ER I er → (∀ I', xq_ER I' (xq_fo er (xq_us h its j it (xq_ld d))) → (∀ p' k', p' ≠ 2 → I' p' k' = I p' k') → K I' R) → l_ck_checkStatement_87 q f2 (nI (xi_k it)) det (nI (s + d.length)) K Q (d.length + 1) (nI s) I R := by
  intro d; induction d with
  | nil =>
    intro s er I hs cd ci co as he hK
    unfold l_ck_checkStatement_87
    exact xa_t ((nI_leI (by simp at hs ⊢; omega) (by omega)).mpr (by simp)) (hK I he (fun _ _ _ => rfl))
  | cons e d ih =>
    intro s er I hs cd ci co as he hK
    simp only [List.length_cons] at hs
    have hce := cd 0 e rfl
    have hci := ci e List.mem_cons_self
    simp only [Nat.add_zero] at hce
    have cd' : ∀ I', (∀ p' k', p' ≠ 2 → I' p' k' = I p' k') → xc_CD I' q (s + 1) d := by
      intro I' f i u hi
      have := cd (i + 1) u (by simpa using hi)
      rw [show s + (i + 1) = s + 1 + i by omega] at this
      rw [f _ _ (by omega), f _ _ (by omega), f _ _ (by omega), f _ _ (by omega)]
      exact this
    have ci' : xq_CI d := fun u hu => ci u (List.mem_cons_of_mem _ hu)
    have next : ∀ I1 er1, (∀ p' k', p' ≠ 2 → I1 p' k' = I p' k') → xq_ER I1 er1 → (∀ l, xq_fo er1 l = xq_fo er ((if e.1 = 1 then (if xq_kn h its j it e.2.1 then [] else [(2, e.2.2.2)]) else []) ++ l)) → l_ck_checkStatement_87 q f2 (nI (xi_k it)) det (nI (s + (e :: d).length)) K Q (e :: d).length (nI s + 1) I1 R := by
      intro I1 er1 f1 he1 hl1
      rw [nI_1, List.length_cons, show s + (d.length + 1) = s + 1 + d.length by omega]
      refine ih (s + 1) er1 I1 (by omega) (cd' I1 f1) ci' (xq_CO_2 co f1) (xq_AS_2 as f1) he1 (fun I' he' f' => hK I' ?_ (fun p' k' hp => by rw [f' _ _ hp, f1 _ _ hp]))
      rw [hl1] at he'
      have e2 : xq_us h its j it (xq_ld (e :: d)) = (if e.1 = 1 then (if xq_kn h its j it e.2.1 then [] else [(2, e.2.2.2)]) else []) ++ xq_us h its j it (xq_ld d) := by
        unfold xq_us xq_ld
        by_cases h1 : e.1 = 1
        · simp [h1]
        · simp [h1]
      rw [e2]; exact he'
    have go132 : ∀ (s0 : Int32), (e.1 = 1 → s0 = if xq_kn h its j it e.2.1 then 1 else 0) → j_ck_checkStatement_132 q (fun y1 I10 R10 => l_ck_checkStatement_87 q f2 (nI (xi_k it)) det (nI (s + (e :: d).length)) K Q (e :: d).length y1 I10 R10) Q f2 (nI (xi_k it)) det (nI (s + (e :: d).length)) (nI s) s0 I R := by
      intro s0 hs0
      unfold j_ck_checkStatement_132
      rw [xq_pick (by omega) (by omega), hce.1]
      by_cases h1 : e.1 = 1
      · refine xa_t' (xa_e 1 h1) ?_
        have hs0' := hs0 h1
        by_cases hkn : xq_kn h its j it e.2.1
        · rw [if_pos hkn] at hs0'
          refine xa_f' (by rw [hs0']; decide) (next I er (fun _ _ _ => rfl) he (fun l => ?_))
          rw [if_pos h1, if_pos hkn]; rfl
        · rw [if_neg hkn] at hs0'
          refine xa_t' hs0' ?_
          rw [xq_pick (by omega) (by omega), hce.2.2.2]
          refine xq_tell he (c := 2) (by decide) hci.2.2.1 (fun I1 he1 f1 => next I1 _ f1 he1 (fun l => ?_))
          rw [if_pos h1, if_neg hkn]; rfl
      · refine xa_f' (xa_ne 1 (by omega)) (next I er (fun _ _ _ => rfl) he (fun l => ?_))
        rw [if_neg h1]; rfl
    unfold l_ck_checkStatement_87
    refine xa_f (fun hh => by have h9 : s + (e :: d).length ≤ s := (nI_leI (by rw [List.length_cons]; omega) (by omega)).mp hh; rw [List.length_cons] at h9; omega) ?_
    rw [xq_pick (by omega) (by omega), hce.2.1]
    by_cases h8 : xi_k it = 8
    · refine xa_t' (xa_e 8 h8) ?_
      obtain ⟨c, hc, hc2⟩ := htg h8
      by_cases hv : e.2.1 < 26
      · have hdd : det = nI c := by rw [hdet h8, hc]; rfl
        subst hdd
        refine xq_left (c := c) co hl hv hc2 (go132 _ (fun h1 => ?_))
        unfold xq_kn; rw [if_pos h8, hc]; rfl
      · unfold w_ck_isLeftOf
        refine xq_pick_any (by omega) (fun v => ⟨fun _ => go132 _ (fun h1 => absurd (hci.2.2.2 h1) hv), fun _ => xq_pick_any (by omega) (fun v2 => ⟨fun _ => go132 _ (fun h1 => absurd (hci.2.2.2 h1) hv), fun _ => go132 _ (fun h1 => absurd (hci.2.2.2 h1) hv)⟩)⟩)
    · refine xa_f' (xa_ne 8 (by omega)) ?_
      by_cases hv : e.2.1 < 26
      · refine xq_known co as hl hv (go132 _ (fun h1 => ?_))
        unfold xq_kn; rw [if_neg h8]
      · unfold w_ck_isKnown
        refine xq_pick_any (by omega) (fun v => ⟨fun _ => go132 _ (fun h1 => absurd (hci.2.2.2 h1) hv), fun _ => xq_pick_any (by omega) (fun v2 => ⟨fun _ => go132 _ (fun h1 => absurd (hci.2.2.2 h1) hv), fun _ => go132 _ (fun h1 => absurd (hci.2.2.2 h1) hv)⟩)⟩)
/-- what is known of an item -/
def xq_IW (it : xi_I) : Prop := xi_k it < 9 ∧ xi_fi it < 1000 ∧ xq_CI (xi_x it).1 ∧ (xi_k it ≤ 2 → ∀ v, xi_tg it = some v → v < 26) ∧ (xi_k it = 8 → ∃ c, xi_tg it = some c ∧ c < 1000) ∧ xi_le (xi_ru it) < 20000 ∧ (∀ m, xi_mo (xi_ru it) = some m → m < 20000)
theorem xq_kindOf {I : pI} {R : pR} {q j : Nat} {it : xi_I} {its : List xi_I} {Q : Int32 → pI → pR → Prop} (sm : xi_SM I q its) (hj : its[j]? = some it) (hl : its.length ≤ 60) : w_st_kindOf (q + 7) (nI j) I R Q ↔ Q (nI (xi_k it)) I R := by
  have hlt := xa_some_lt hj
  unfold w_st_kindOf
  rw [sm.1]
  simp (disch := omega) only [xa_0lt, nI_leI, nI_clamp, xa_l61]
  simp [show ¬ its.length ≤ j by omega, show ¬ 61 ≤ j by omega, xa_in (n := j) (N := 61) (by decide) (by omega)]
  rw [show q + 7 + 1 = q + 8 from rfl, (sm.2 j it hj).1]
theorem xq_placeOf {I : pI} {R : pR} {q j : Nat} {it : xi_I} {its : List xi_I} {Q : Int32 → pI → pR → Prop} (sm : xi_SM I q its) (hj : its[j]? = some it) (hl : its.length ≤ 60) : w_st_placeOf (q + 7) (nI j) I R Q ↔ Q (nI (xi_fi it)) I R := by
  have hlt := xa_some_lt hj
  unfold w_st_placeOf
  rw [sm.1]
  simp (disch := omega) only [xa_0lt, nI_leI, nI_clamp, xa_l61]
  simp [show ¬ its.length ≤ j by omega, show ¬ 61 ≤ j by omega, xa_in (n := j) (N := 61) (by decide) (by omega)]
  rw [show q + 7 + 2 = q + 9 from rfl, (sm.2 j it hj).2.1]
theorem xq_FR {I I' : pI} {q : Nat} {its : List xi_I} (hq : q = 54 ∨ q = 81) (cm : xi_CM I q its) (f : ∀ p' k', p' ≠ 2 → p' ≠ 3 → p' ≠ 4 → I' p' k' = I p' k') : xi_CM I' q its := xi_CM_p cm (fun p a b => funext (fun k => f p k (by omega) (by omega) (by omega)))
theorem xq_asg_1 {its : List xi_I} {j : Nat} {it : xi_I} (hj : its[j]? = some it) (v : Nat) : xq_asg its (j + 1) v = (xq_asg its j v || (decide (xi_k it ≤ 2) && decide (xi_tg it = some v))) := by
  unfold xq_asg
  rw [List.take_add_one, hj]; simp
theorem xq_stm {I : pI} {R : pR} {q j : Nat} {h : List (Nat × Nat)} {its : List xi_I} {it : xi_I} {er : Option (Nat × Nat)} {Q : pI → pR → Prop} (hq : q = 54 ∨ q = 81) (hl : h.length ≤ 60) (hil : its.length ≤ 60) (hcl : (xi_C its).length ≤ 120) (hrl : (xi_rs its).length ≤ 20) (cm : xi_CM I q its) (hj : its[j]? = some it) (iw : xq_IW it) (co : xq_CO I h) (as : xq_AS I its j) (he : xq_ER I er)
    (hQ : ∀ I', xq_CO I' h → xq_AS I' its (j + 1) → xq_ER I' (xq_fo er (xq_s1 h its j it)) → (∀ p' k', p' ≠ 2 → p' ≠ 4 → I' p' k' = I p' k') → Q I' R) : w_ck_checkStatement q (nI j) I R Q := by
  obtain ⟨sm, hct, hcd, hrm⟩ := cm
  obtain ⟨w1, w2, w3, w4, w5, w6, w7⟩ := iw
  have hlt := xa_some_lt hj
  have se := sm.2 j it hj
  unfold w_ck_checkStatement
  rw [xq_kindOf sm hj hil, xq_pick (by omega) (by omega), se.2.2.2.2.2]
  by_cases h7 : xi_k it = 7
  · refine xa_t' (xa_e 7 h7) ?_
    have hdet : xi_det its j it = nI (xi_nr (its.take j)) := by unfold xi_det; rw [if_pos h7]
    have hrs : (xi_rs its)[xi_nr (its.take j)]? = some (xi_ru it) := by
      have e1 : its = its.take j ++ (it :: its.drop (j + 1)) := by
        have := (List.take_append_drop j its).symm
        rw [List.drop_eq_getElem_cons hlt] at this
        have e2 : its[j] = it := by
          rw [List.getElem?_eq_getElem hlt] at hj; exact Option.some.inj hj
        rw [e2] at this; exact this
      have e3 : xi_rs its = xi_rs (its.take j) ++ (xi_ru it :: xi_rs (its.drop (j + 1))) := by
        conv => lhs; rw [e1]
        simp [xi_rs, h7]
      rw [e3, ← xi_rs_len, List.getElem?_append_right (Nat.le_refl _)]; simp
    have hr2 := xa_some_lt hrs
    have re := hrm.2.2.1 _ _ hrs
    rw [hdet, xq_pick (by omega) (by omega), re.2.1, xq_pick (by omega) (by omega), re.1]
    have asn : xq_AS I its (j + 1) := by
      intro v hv; rw [as v hv, xq_asg_1 hj]; simp [show ¬ xi_k it ≤ 2 by omega]
    have e7 : xq_s1 h its j it = (match xi_mo (xi_ru it) with
        | some m => if m < xi_le (xi_ru it) then [(5, xi_fi it)] else []
        | none => []) := by
      unfold xq_s1; rw [if_pos h7]
      cases xi_mo (xi_ru it) <;> rfl
    cases hmo : xi_mo (xi_ru it) with
    | none =>
      rw [hmo] at e7
      refine xa_t ?_ (hQ I co asn (by rw [e7]; exact he) (fun _ _ _ _ => rfl))
      show nI (xi_le (xi_ru it)) ≤ nI 2147483647
      exact (nI_leI (by omega) (by decide)).mpr (by omega)
    | some m =>
      have hm := w7 m hmo
      rw [hmo] at e7
      by_cases hc : m < xi_le (xi_ru it)
      · refine xa_f (fun hh => ?_) ?_
        · have : xi_le (xi_ru it) ≤ m := (nI_leI (by omega) (by omega)).mp hh
          omega
        · rw [xq_placeOf sm hj hil]
          refine xq_tell he (c := 5) (by decide) w2 (fun I1 he1 f1 => hQ I1 (xq_CO_2 co f1) (xq_AS_2 asn f1) ?_ (fun p' k' hp _ => f1 p' k' hp))
          rw [e7]; simp only [if_pos hc]; exact he1
      · refine xa_t ((nI_leI (by omega) (by omega)).mpr (by omega)) (hQ I co asn ?_ (fun _ _ _ _ => rfl))
        rw [e7]; simp only [if_neg hc]; exact he
  · refine xa_f' (xa_ne 7 (by omega)) ?_
    have hdet : xi_det its j it = (match xi_tg it with
        | some v => nI v
        | none => -1) := by
      unfold xi_det; rw [if_neg h7]
      cases xi_tg it <;> rfl
    rw [xq_pick (by omega) (by omega), se.2.2.2.2.1, xq_pick (by omega) (by omega), se.2.2.2.1]
    -- the code of this item lies at its place
    have e1 : its = its.take j ++ ([it] ++ its.drop (j + 1)) := by
      have := (List.take_append_drop j its).symm
      rw [List.drop_eq_getElem_cons hlt] at this
      have e2 : its[j] = it := by
        rw [List.getElem?_eq_getElem hlt] at hj; exact Option.some.inj hj
      rw [e2] at this; exact this
    have eC : xi_C its = xi_C (its.take j) ++ ((xi_x it).1 ++ xi_C (its.drop (j + 1))) := by
      conv => lhs; rw [e1]
      rw [xi_C_app, xi_C_app, xi_C_one]
    have etk : xi_C (its.take (j + 1)) = xi_C (its.take j) ++ (xi_x it).1 := by
      rw [List.take_add_one, hj, xi_C_app]; simp [xi_C]
    have hlen : (xi_C (its.take j)).length + (xi_x it).1.length ≤ 120 := by
      rw [eC, List.length_append, List.length_append] at hcl; omega
    have cdj : xc_CD I q (xi_C (its.take j)).length (xi_x it).1 := by
      intro i e hi
      have hi' := xa_some_lt hi
      have := hcd ((xi_C (its.take j)).length + i) e (by
        rw [eC, List.getElem?_append_right (by omega), show (xi_C (its.take j)).length + i - (xi_C (its.take j)).length = i by omega, List.getElem?_append_left hi']; exact hi)
      rw [Nat.zero_add] at this; exact this
    rw [etk, List.length_append]
    refine ⟨(xi_x it).1.length + 1, xq_code (a := 0) hq hl (by omega) w5 (fun h8 => ?_) (xi_x it).1 _ er I hlen cdj w3 co as he (fun I1 he1 f1 => ?_)⟩
    · obtain ⟨c, hc, _⟩ := w5 h8
      rw [hdet, hc]; rfl
    · have co1 := xq_CO_2 co f1
      have as1 := xq_AS_2 as f1
      have e7 : xq_s1 h its j it = xq_us h its j it (xq_ld (xi_x it).1) ++ (if xi_k it ≤ 2 then (match xi_tg it with
          | some v => if (xq_col h v).isSome then [(3, xi_fi it)] else []
          | none => []) else []) := by
        unfold xq_s1; rw [if_neg h7]
        cases xi_tg it <;> rfl
      by_cases h2 : xi_k it ≤ 2
      · refine xa_f (fun hh => by have := (xa_llt 2 (by omega) (by omega)).mp hh; omega) ?_
        rw [hdet]
        cases htg : xi_tg it with
        | none =>
          refine xa_t (by show (-1 : Int32) < 0; decide) (hQ I1 co1 ?_ ?_ (fun p' k' hp _ => f1 p' k' hp))
          · intro v hv; rw [as1 v hv, xq_asg_1 hj, htg]; simp
          · rw [e7, if_pos h2, htg, List.append_nil]; exact he1
        | some v =>
          have hv := w4 h2 v htg
          refine xa_f (nI_pos (by omega)) ?_
          show w_sr_pick 3 26 (nI v) I1 R _
          rw [xq_pick hv (by omega), co1 v hv]
          have fin : ∀ I2 er2, (∀ p' k', p' ≠ 2 → I2 p' k' = I1 p' k') → xq_ER I2 er2 → er2 = xq_fo er (xq_s1 h its j it) → w_sr_put 4 26 (nI v) 1 I2 R Q := by
            intro I2 er2 f2 he2 hee
            refine xc_put (by omega) hv (hQ _ ?_ ?_ ?_ ?_)
            · intro u hu; rw [xa_p (by decide), f2 _ _ (by omega)]; exact co1 u hu
            · intro u hu
              rw [xa_w, xq_asg_1 hj, htg]
              by_cases huv : u = v
              · subst huv; simp [h2]
              · rw [if_neg (fun h => huv h.2), f2 _ _ (by omega), as1 u hu]
                simp [show ¬ v = u from fun h => huv h.symm]
            · rw [← hee]
              unfold xq_ER at he2 ⊢
              cases er2 with
              | none => simp only at he2 ⊢; rw [xa_p (by decide)]; exact he2
              | some e => simp only at he2 ⊢; rw [xa_p (by decide)]; exact he2
            · intro p' k' hp hp4; rw [xa_p hp4, f2 _ _ hp, f1 _ _ hp]
          cases hc : xq_col h v with
          | none =>
            refine xa_t (by decide) (fin I1 _ (fun _ _ _ => rfl) he1 ?_)
            rw [e7, if_pos h2, htg]; simp [hc]
          | some k =>
            have hk := xq_col_lt hc
            refine xa_f (nI_pos (by omega)) ?_
            have sm1 : xi_SM I1 q its := ⟨by rw [f1 _ _ (by omega)]; exact sm.1, xi_SO_fr sm.2 (fun p k a b _ => f1 _ _ (by omega))⟩
            rw [xq_placeOf sm1 hj hil]
            refine xq_tell he1 (c := 3) (by decide) w2 (fun I2 he2 f2 => fin I2 _ f2 he2 ?_)
            rw [e7, if_pos h2, htg, xq_fo_app]; simp [hc]; rfl
      · refine xa_t ((xa_llt 2 (by omega) (by omega)).mpr (by omega)) (hQ I1 co1 ?_ ?_ (fun p' k' hp _ => f1 p' k' hp))
        · intro v hv; rw [as1 v hv, xq_asg_1 hj]; simp [h2]
        · rw [e7, if_neg h2, List.append_nil]; exact he1
