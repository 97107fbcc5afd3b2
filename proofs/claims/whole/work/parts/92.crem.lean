/-! THE CLASS REMEMBERS -/
def xv_SM (oc s p k : Nat) : Bool := xv_SE oc p k || (p == 119 && decide (s ≤ k))
theorem xv_SM_E {oc s : Nat} {I I' : pI} (h : xa_fr (xv_SE oc) I I') : xa_fr (xv_SM oc s) I I' := xa_fr_m h (fun p k hp => by
  unfold xv_SM at hp; simp only [Bool.or_eq_false_iff] at hp; exact hp.1)
theorem xv_SM_s {oc s s' : Nat} {I I' : pI} (h : xa_fr (xv_SM oc s') I I') (hs : s ≤ s') : xa_fr (xv_SM oc s) I I' := xa_fr_m h (fun p k hp => by
  simp only [xv_SM, xv_SE, Bool.or_eq_false_iff, Bool.and_eq_false_iff, beq_eq_false_iff_ne, decide_eq_false_iff_not] at hp ⊢; omega)
theorem xv_SM_o {oc s : Nat} {I I' : pI} (h : xa_fr (xv_SM oc s) I I') (p k : Nat) (hp : ¬ (p = 115 ∧ (k = 7 ∨ k = 10 ∨ k = 11 ∨ k = 12)) ∧ p ≠ 116 ∧ p ≠ 117 ∧ p ≠ 118 ∧ p ≠ 120 ∧ p ≠ oc + 2 ∧ ¬ (p = 119 ∧ s ≤ k)) : I' p k = I p k := h p k (by
  simp only [xv_SM, xv_SE, Bool.or_eq_false_iff, Bool.and_eq_false_iff, beq_eq_false_iff_ne, decide_eq_false_iff_not]; omega)
theorem xv_E_M {q oc s : Nat} {its : List xi_I} {a m : Nat} {I I' : pI} (hq : q = 54 ∨ q = 81) (hoc : xv_oc oc) (f : xa_fr (xv_SM oc s) I I') (h : xv_E q its a m I) : xv_E q its a m I' := by
  unfold xv_oc at hoc
  refine ⟨xi_CM_p h.1 (fun p a b => funext (fun k => xv_SM_o f p k (by omega))), ?_, ?_⟩
  · rw [xv_SM_o f _ _ (by omega)]; exact h.2.1
  · rw [xv_SM_o f _ _ (by omega)]; exact h.2.2
theorem xg_rem_o {V : Nat → Int32} : ∀ (os : List (Nat × xp_D)) (O : Nat → Int32) (s : xp_S) O' s' f, xg_rem V os O s = (O', s', f) → ∀ p, (∀ e, e ∈ os → e.1 ≠ p) → O' p = O p := by
  intro os; induction os with
  | nil => intro O s O' s' f h p _; cases h; rfl
  | cons e os ih =>
    intro O s O' s' f h p hp
    unfold xg_rem at h
    rcases hd : e.2 (xg_A []) V xg_O0 s with ⟨s1, D, g | v⟩
    · rw [hd] at h; cases h; rfl
    · rw [hd] at h
      rw [ih _ _ _ _ _ h p (fun e he => hp e (by simp [he]))]
      unfold xv_u; rw [if_neg (fun e' => hp e (by simp) e'.symm)]
theorem xv_remL {g : Bool} {q oc : Nat} {R : pR} {V : Nat → Int32} {ts : List (Nat × Nat × Nat × Nat)} {L : Nat} {its : List xi_I} {f4 : Nat} {K : pI → pR → Prop} {Q : Int32 → pI → pR → Prop} (hq : q = 54 ∨ q = 81) (hoc : xv_oc oc) (hR : R 115 5 = some q) (hR6 : R 115 6 = some oc) (w : xg_W ts L its) (hf4 : f4 ≤ 120) :
    ∀ c os s O st b I, s + c.length = f4 → xc_CD I q s c → (∀ e, e ∈ c → e.1 < 8) → xo_C (xf_P (xt_kd ts L) (xt_nm ts L) (xt_pl ts L)) c os → os.Pairwise (fun a b => a.1 < b.1) → xv_E q its 0 0 I → xv_St g I oc V st → xv_B b st → b + 120 * c.length ≤ 1000000000 →
    (∀ O' s', xg_rem V os O st = (O', s', none) → ∀ I', xa_fr (xv_SM oc s) I I' → xv_St g I' oc V s' → xv_B (b + 120 * c.length) s' → xv_OC I' s c O' → K I' R) →
    (∀ O' s' f, xg_rem V os O st = (O', s', some f) → ∀ I', xa_fr (xv_SM oc s) I I' → xv_St g I' oc V s' → xv_B (b + 120 * c.length) s' → I' 115 11 = nI f.1 → I' 115 12 = nI f.2 → (f.1 = 2 ∨ f.1 = 3) → Q 0 I' R) →
    l_rn_remember_42 q (nI f4) K Q (c.length + 1) (nI s) I R := by
  have w' := w
  obtain ⟨ww, w1, w2, w3, w4, w5, w6⟩ := w'
  intro c; induction c with
  | nil =>
    intro os s O st b I hs cd ci ho hp hE hst hB hb h1 h2
    have hs' : s = f4 := by simpa using hs
    unfold l_rn_remember_42
    refine xa_t ((nI_leI (by omega) (by omega)).mpr (by omega)) (h1 O st ?_ I (xa_fr_r _ _) hst (xv_B_m hB (by omega)) (fun i e hi => by simp at hi))
    rw [show os = [] from ho]; rfl
  | cons e c ih =>
    intro os s O st b I hs cd ci ho hp hE hst hB hb h1 h2
    have hl : (e :: c).length = c.length + 1 := rfl
    rw [hl] at hs hb h1 h2 ⊢
    obtain ⟨ce, cdr⟩ := xv_CD_cn cd
    have ce1 := ci e (by simp)
    unfold l_rn_remember_42
    refine xa_f (fun hh => by have := (nI_leI (by omega) (by omega)).mp hh; omega) ?_
    rw [xq_pick (by omega) (by omega), ce.1]
    by_cases h5 : e.1 = 5
    · refine xa_t' (xa_e 5 h5) ?_
      obtain ⟨y, os', c', hP, h3, h4, hδ, h6⟩ := ho.1 h5
      obtain ⟨dp, p, p', hdp, hD, hyc, _⟩ := hP
      rw [xq_pick (by omega) (by omega), ce.2.2.1, nI_1, show s + e.2.2.1 = s + 1 + y.1.length by omega]
      have hcl : y.1.length + c'.length = c.length := by rw [h4, List.length_append]
      have cdy : xc_CD I q (s + 1) y.1 := by rw [h4] at cdr; exact (xv_CD_sp cdr).1
      have evy : xv_EV g q oc R V xg_O0 (xg_A (xg_rng its 0 0)) (xv_E q its 0 0) 0 dp y := xv_evD hq hR hoc hR6 (xv_E_S hq hoc) (xv_HAc hq hoc hR hR6 w1 w4 w5 (fun it hi => ⟨(w6 it hi).1, (w6 it hi).2.1⟩) (by omega) (Or.inl rfl)) xg_B hD
      rw [h3] at hp
      obtain ⟨hp1, hp2⟩ := List.pairwise_cons.mp hp
      refine xv_evaluate (V := V) hq hoc evy (by omega) hdp (by omega) cdy (fun i u hi h5' => absurd h5' (hyc u (List.mem_of_getElem? hi)).1) (fun u hu => ?_) hE hst hB (by omega) (fun s' D v hd I1 f1 st1 hB1 hv g7 g8 => ?_) (fun s' D f hd I1 f1 st1 hB1 ha hb' h23 => ?_)
      · obtain ⟨a, b, c⟩ := hyc u hu; exact ⟨b.1, b.2.1, c, b.2.2.1, b.2.2.2⟩
      · refine xa_f' (by decide) (xc_put (by omega) (by omega) ?_)
        have hoc' := hoc
        unfold xv_oc at hoc'
        have f2 : xa_fr (xv_SM oc s) I1 (pw_wI I1 119 s (I1 115 10)) := xa_fr_w (xa_fr_r _ _) (by simp [xv_SM])
        have e119 : pw_wI I1 119 s (I1 115 10) 119 s = v := by rw [xa_w, if_pos ⟨rfl, rfl⟩]; exact hv
        have st2 : xv_St g (pw_wI I1 119 s (I1 115 10)) oc V s' := by
          refine ⟨fun v hv => ?_, ?_, ?_, fun hg r hr => ?_⟩
          · rw [xa_p (by omega)]; exact st1.1 v hv
          · rw [xa_p (by omega)]; exact st1.2.1
          · rw [xa_p (by omega)]; exact st1.2.2.1
          · rw [xa_p (by omega)]; exact st1.2.2.2 hg r hr
        generalize pw_wI I1 119 s (I1 115 10) = I2 at *
        have f12 := xa_fr_t (xv_SM_E (s := s) f1) f2
        have hrem : ∀ r, xg_rem V os' (xv_u O e.2.2.2 v) s' = r → xg_rem V os O st = r := by
          intro r hr
          rw [h3]
          show (match y.2.2.1 (xg_A []) V xg_O0 st with
            | (s', _, .inr v) => xg_rem V os' (xv_u O e.2.2.2 v) s'
            | (s', _, .inl f) => (O, s', some f)) = r
          have hd' : y.2.2.1 (xg_A []) V xg_O0 st = (s', D, .inr v) := hd
          rw [hd']; exact hr
        have cd2 : xc_CD I2 q (s + 1) c := fun i u hi => by
          rw [xv_SM_o f12 _ _ (by omega), xv_SM_o f12 _ _ (by omega), xv_SM_o f12 _ _ (by omega), xv_SM_o f12 _ _ (by omega)]; exact cdr i u hi
        refine ih os' (s + 1) (xv_u O e.2.2.2 v) s' (b + 120) I2 (by omega) cd2 (fun u hu => ci u (by simp [hu])) h6 hp2 (xv_E_M hq hoc f12 hE) st2 (xv_B_m hB1 (by omega)) (by omega) (fun O' s2 h I' f' st' hB' oc' => h1 O' s2 (hrem _ h) I' (xa_fr_t f12 (xv_SM_s f' (by omega))) st' (xv_B_m hB' (by omega)) ?_) (fun O' s2 f h I' f' st' hB' => h2 O' s2 f (hrem _ h) I' (xa_fr_t f12 (xv_SM_s f' (by omega))) st' (xv_B_m hB' (by omega)))
        intro i u hi hu5
        cases i with
        | zero =>
          cases hi
          rw [Nat.add_zero, xv_SM_o f' _ _ (by omega), e119]
          rw [xg_rem_o _ _ _ _ _ _ h e.2.2.2 (fun a ha => by have := hp1 a ha; show a.1 ≠ e.2.2.2; simp only at this; omega)]
          unfold xv_u; rw [if_pos rfl]
        | succ i =>
          have := oc' i u hi hu5
          rw [show s + (i + 1) = s + 1 + i by omega]; exact this
      · refine xa_t' rfl (h2 O s' f ?_ I1 (xv_SM_E f1) st1 (xv_B_m hB1 (by omega)) ha hb' h23)
        rw [h3]
        show (match y.2.2.1 (xg_A []) V xg_O0 st with
            | (s', _, .inr v) => xg_rem V os' (xv_u O e.2.2.2 v) s'
            | (s', _, .inl f) => (O, s', some f)) = _
        have hd' : y.2.2.1 (xg_A []) V xg_O0 st = (s', D, .inl f) := hd
        rw [hd']
    · refine xa_f' (xa_ne 5 (by omega)) ?_
      rw [nI_1]
      refine ih os (s + 1) O st b I (by omega) cdr (fun u hu => ci u (by simp [hu])) (ho.2 h5) hp hE hst hB (by omega) (fun O' s2 h I' f' st' hB' oc' => h1 O' s2 h I' (xv_SM_s f' (by omega)) st' (xv_B_m hB' (by omega)) ?_) (fun O' s2 f h I' f' st' hB' => h2 O' s2 f h I' (xv_SM_s f' (by omega)) st' (xv_B_m hB' (by omega)))
      intro i u hi hu5
      cases i with
      | zero => cases hi; exact absurd hu5 h5
      | succ i =>
        have := oc' i u hi hu5
        rw [show s + (i + 1) = s + 1 + i by omega]; exact this
