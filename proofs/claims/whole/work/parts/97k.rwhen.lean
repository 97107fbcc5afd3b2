/-! THE REFERENCE'S WHEN AND THEN -/
/-- a part with steps, from a on, its conditions from c on, to e -/
def yg_WP (its : List xi_I) (p a c e : Nat) : Prop := a < c ∧ c ≤ e ∧ e ≤ its.length ∧ (∀ j it, its[j]? = some it → ((xi_k it = 1 ∧ xi_pt it = p) ↔ (a ≤ j ∧ j < c))) ∧ (∀ j it, its[j]? = some it → c ≤ j → j < e → (4 ≤ xi_k it ∧ xi_k it ≤ 7) ∧ xi_pt it = p) ∧ (∀ it, its[e]? = some it → xi_pt it ≠ p ∨ xi_k it = 2 ∨ xi_k it = 8) ∧ (∀ j it, its[j]? = some it → 4 ≤ xi_k it → xi_k it ≤ 7 → xi_pt it = p → c ≤ j ∧ j < e)
theorem yg_rng_s {its : List xi_I} {e : Nat} : ∀ m a, a + m ≤ e → (∀ j it, a ≤ j → j < a + m → its[j]? = some it → xi_k it ≠ 7) → xg_rng its a (e - a) = xg_rng its (a + m) (e - (a + m)) := by
  intro m; induction m with
  | zero => intro a _ _; rfl
  | succ m ih =>
    intro a h hn
    rw [show e - a = (e - (a + 1)) + 1 by omega]
    show (match its[a]? with
        | some it => if xi_k it = 7 then [(xi_nr (its.take a), it)] else []
        | none => []) ++ xg_rng its (a + 1) (e - (a + 1)) = _
    rw [ih (a + 1) (by omega) (fun j it h1 h2 => hn j it (by omega) (by omega)), show a + 1 + m = a + (m + 1) by omega]
    cases hg : its[a]? with
    | none => rfl
    | some it =>
      show (if xi_k it = 7 then [(xi_nr (its.take a), it)] else []) ++ _ = _
      rw [if_neg (hn a it (by omega) (by omega) hg)]; rfl
theorem yg_claims_s {V O : Nat → Int32} {calm : Bool} {s : xp_S} {its : List xi_I} {e : Nat} : ∀ m a, a + m ≤ e → e ≤ its.length → (∀ j it, a ≤ j → j < a + m → its[j]? = some it → xi_k it = 1) → xg_claims V O calm (xg_seg its a e) s = xg_claims V O calm (xg_seg its (a + m) e) s := by
  intro m; induction m with
  | zero => intro a _ _ _; rfl
  | succ m ih =>
    intro a h he hn
    have hg : its[a]? = some its[a] := List.getElem?_eq_getElem (by omega)
    have h1 := hn a _ (by omega) (by omega) hg
    rw [xg_seg_c hg (by omega)]
    show (if xi_k its[a] = 4 ∨ xi_k its[a] = 3 then _ else _) = _
    rw [if_neg (by omega), if_neg (by split <;> omega), ih (a + 1) (by omega) he (fun j it h1 h2 => hn j it (by omega) (by omega)), show a + 1 + m = a + (m + 1) by omega]
theorem yg_fil {its : List xi_I} {P Q : xi_I → Bool} {a e : Nat} (hae : a ≤ e) (h : ∀ j it, its[j]? = some it → (P it = true ↔ (a ≤ j ∧ j < e ∧ Q it = true))) : its.filter P = (xg_seg its a e).filter Q := by
  have key : ∀ n k, (its.drop n).length = k → (its.drop n).filter P = ((xg_seg its (max a n) e)).filter Q := by
    intro n k hk
    induction k generalizing n with
    | zero =>
      have hd : its.drop n = [] := List.eq_nil_of_length_eq_zero hk
      have hn : its.length ≤ n := by rw [List.length_drop] at hk; omega
      rw [hd]
      unfold xg_seg
      rw [List.drop_of_length_le (by omega)]; simp
    | succ k ih =>
      have hn : n < its.length := by rw [List.length_drop] at hk; omega
      have hg : its[n]? = some its[n] := List.getElem?_eq_getElem hn
      have i := ih (n + 1) (by rw [List.length_drop] at hk ⊢; omega)
      have hh := h n _ hg
      rw [List.drop_eq_getElem_cons hn]
      by_cases h1 : a ≤ n
      · by_cases h2 : n < e
        · rw [show max a n = n by omega, xg_seg_c hg h2]
          rw [show max a (n + 1) = n + 1 by omega] at i
          cases hq : Q its[n] with
          | true => rw [List.filter_cons_of_pos (hh.mpr ⟨h1, h2, hq⟩), List.filter_cons_of_pos hq, i]
          | false => rw [List.filter_cons_of_neg (fun hp => by have := (hh.mp hp).2.2; rw [hq] at this; cases this), List.filter_cons_of_neg (by simp [hq]), i]
        · rw [List.filter_cons_of_neg (fun hp => h2 (hh.mp hp).2.1), i, xg_seg_n (by omega), xg_seg_n (by omega)]
      · rw [List.filter_cons_of_neg (fun hp => h1 (hh.mp hp).1), i, show max a n = a by omega, show max a (n + 1) = a by omega]
  have := key 0 _ rfl
  rw [List.drop_zero, show max a 0 = a by omega] at this
  exact this
section
variable {o now : Nat} {F : xi_F} {R : pR} {ts : List (Nat × Nat × Nat × Nat)} {L : Nat}
theorem yv_act36 {p a c e : Nat} {f2 : Int32} {K : pI → pR → Prop} {Q : Int32 → pI → pR → Prop} (ho : o ≤ 1) (w : xg_W ts L F.1) (hpt : ∀ it, it ∈ F.1 → xi_pt it < 1000) (hp : p < 1000) (wp : yg_WP F.1 p a c e) :
    ∀ m j I, j + m = F.1.length → yv_FM I o F → I 121 63 = nI (100 * o + F.1.length) → (∀ i, i < j → I 145 (100 * o + i) = 0) → (j ≤ a → I 121 62 = nI (100 * o)) → (a < j → I 121 62 = nI (100 * o + (min j c - 1))) →
    (∀ I', (∀ i, i < F.1.length → I' 145 (100 * o + i) = 0) → I' 121 62 = nI (100 * o + (c - 1)) → (∀ p k, p ≠ 145 → ¬ (p = 121 ∧ k = 62) → I' p k = I p k) → K I' R) →
    l_md_acted_36 (nI p) f2 K Q (m + 1) (nI (100 * o + j)) I R := by
  obtain ⟨hac, hce, hel, wh, wt, wn, wo⟩ := wp
  have w1 := w.2.1
  intro m; induction m with
  | zero =>
    intro j I hj fm h63 hz h1 h2 hK
    unfold l_md_acted_36
    rw [h63]
    refine xa_t ((nI_leI (by omega) (by omega)).mpr (by omega)) (hK I (fun i hi => hz i (by omega)) ?_ (fun _ _ _ _ => rfl))
    rw [h2 (by omega)]; congr 2; omega
  | succ m ih =>
    intro j I hj fm h63 hz h1 h2 hK
    have hg : F.1[j]? = some F.1[j] := List.getElem?_eq_getElem (by omega)
    generalize F.1[j] = it at hg
    have him := List.mem_of_getElem? hg
    have iw := w.2.2.2.2.2.2 it him
    have hkb := xk_kd_b iw.1
    have hp1 := hpt it him
    have ie := (fm.1 j it hg).1
    have hwj := wh j it hg
    have hin : vp_in (nI (100 * o + j)) 200 := vp_in_nI (by omega) (by omega)
    unfold l_md_acted_36
    rw [h63]
    refine xa_f (fun hh => by have := (nI_leI (by omega) (by omega)).mp hh; omega) ⟨hin, xa_a ⟨hin, ?_⟩⟩
    rw [nI_clamp (by omega), xa_p (p' := 131) (by decide), xa_p (p' := 132) (by decide), ie.1, ie.2.1, nI_1]
    have hz' : ∀ i, i < j + 1 → pw_wI I 145 (100 * o + j) 0 145 (100 * o + i) = 0 := by
      intro i hi
      rw [xa_w]
      by_cases hij : i = j
      · subst hij; rw [if_pos ⟨rfl, rfl⟩]
      · rw [if_neg (by omega)]; exact hz i (by omega)
    have fm' : yv_FM (pw_wI I 145 (100 * o + j) 0) o F := yv_FM_p fm (fun p k hp => by rw [xa_p (by omega)]) (by rw [xa_p (by decide)])
    have skip : ¬ (xi_k it = 1 ∧ xi_pt it = p) → l_md_acted_36 (nI p) f2 K Q (m + 1) (nI (100 * o + j + 1)) (pw_wI I 145 (100 * o + j) 0) R := by
      intro hn
      have hn' : ¬ (a ≤ j ∧ j < c) := fun h => hn (hwj.mpr h)
      refine ih (j + 1) _ (by omega) fm' (by rw [xa_p (by decide)]; exact h63) hz' (fun h => by rw [xa_p (by decide)]; exact h1 (by omega)) (fun h => ?_) (fun I' a1 a2 a3 => hK I' a1 a2 (fun p k hp hp' => by rw [a3 p k hp hp', xa_p hp]))
      rw [xa_p (by decide), h2 (by omega)]; congr 2; omega
    by_cases hk : xi_k it = 1
    · refine xa_t' (by rw [hk]; rfl) ⟨hin, ?_⟩
      by_cases hpp : xi_pt it = p
      · have hin' := hwj.mp ⟨hk, hpp⟩
        refine xa_t' (by rw [hpp]) (xa_a ?_)
        refine ih (j + 1) _ (by omega) (yv_FM_p fm' (fun p k hp => by rw [xa_p (by omega)]) (by rw [xa_w, if_neg (by decide)])) (by rw [xa_w, if_neg (by decide), xa_p (by decide)]; exact h63) (fun i hi => by rw [xa_p (by decide)]; exact hz' i hi) (fun h => by omega) (fun h => ?_) (fun I' a1 a2 a3 => hK I' a1 a2 (fun p k hp hp' => by rw [a3 p k hp hp', xa_w, if_neg hp', xa_p hp]))
        rw [xa_w, if_pos ⟨rfl, rfl⟩]; congr 2; omega
      · exact xa_f' (fun e => hpp ((nI_eq (by omega) (by omega)).mp e)) (skip (fun h => hpp h.2))
    · refine xa_f' (fun e => hk ?_) (skip (fun h => hk h.1))
      have := (xa_eql 3 (by omega) (by omega)).mp e
      exact (xk_kd_inj iw.1 (show 1 < 9 by omega)).mp this
theorem yv_act90 {p a c e : Nat} {f2 : Int32} {K : pI → pR → Prop} {Q : Int32 → pI → pR → Prop} (ho : o ≤ 1) (w : xg_W ts L F.1) (hpt : ∀ it, it ∈ F.1 → xi_pt it < 1000) (hp : p < 1000) (wp : yg_WP F.1 p a c e) :
    ∀ m j I, j + m = e → a ≤ j → yv_FM I o F → I 121 63 = nI (100 * o + j) →
    (∀ I', I' 121 63 = nI (100 * o + e) → (∀ p k, ¬ (p = 121 ∧ k = 63) → I' p k = I p k) → K I' R) →
    l_md_acted_90 (nI p) f2 K Q (m + 1) I R := by
  obtain ⟨hac, hce, hel, wh, wt, wn, wo⟩ := wp
  have w1 := w.2.1
  have hin2 : vp_in (nI o) 2 := vp_in_nI (by omega) (by omega)
  intro m; induction m with
  | zero =>
    intro j I hj haj fm h63 hK
    have k := hK I (by rw [h63]; congr 2) (fun _ _ _ => rfl)
    unfold l_md_acted_90
    rw [fm.2.2.2.1, nI_clamp (by omega), fm.2.2.2.2.1, h63]
    refine ⟨hin2, fun _ => k, fun hne => ?_⟩
    have hlt : j < F.1.length := by
      by_cases h : j < F.1.length
      · exact h
      · exact absurd ((nI_leI (by omega) (by omega)).mpr (by omega)) hne
    have hg : F.1[j]? = some F.1[j] := List.getElem?_eq_getElem hlt
    generalize F.1[j] = it at hg
    have him := List.mem_of_getElem? hg
    have hp1 := hpt it him
    have ie := (fm.1 j it hg).1
    have hin : vp_in (nI (100 * o + j)) 200 := vp_in_nI (by omega) (by omega)
    rw [nI_clamp (by omega), ie.1, ie.2.1]
    have hn := wn it (by rw [← hg]; congr 1; omega)
    refine ⟨hin, fun _ => k, fun hpe => ⟨hin, ?_⟩⟩
    have hpe' := (nI_eq (by omega) (by omega)).mp hpe
    rcases hn with h | h | h
    · exact absurd hpe' h
    · exact xa_t (by rw [h]; rfl) k
    · exact xa_f (by rw [h]; decide) ⟨hin, xa_t (by rw [h]; rfl) k⟩
  | succ m ih =>
    intro j I hj haj fm h63 hK
    have hg : F.1[j]? = some F.1[j] := List.getElem?_eq_getElem (by omega)
    generalize F.1[j] = it at hg
    have him := List.mem_of_getElem? hg
    have iw := w.2.2.2.2.2.2 it him
    have hkb := xk_kd_b iw.1
    have ie := (fm.1 j it hg).1
    have hin : vp_in (nI (100 * o + j)) 200 := vp_in_nI (by omega) (by omega)
    have hkp : (xi_k it = 1 ∨ (4 ≤ xi_k it ∧ xi_k it ≤ 7)) ∧ xi_pt it = p := by
      by_cases hjc : j < c
      · have := (wh j it hg).mpr ⟨haj, hjc⟩; exact ⟨Or.inl this.1, this.2⟩
      · have := wt j it hg (by omega) (by omega); exact ⟨Or.inr this.1, this.2⟩
    have n8 : xk_kd (xi_k it) ≠ 8 := fun h => by have := (xk_kd_inj iw.1 (show 2 < 9 by omega)).mp h; omega
    have n9 : xk_kd (xi_k it) ≠ 9 := fun h => by have := (xk_kd_inj iw.1 (show 8 < 9 by omega)).mp h; omega
    unfold l_md_acted_90
    rw [fm.2.2.2.1, nI_clamp (by omega), fm.2.2.2.2.1, h63, nI_clamp (by omega), ie.1, ie.2.1, hkp.2, nI_1]
    refine ⟨hin2, xa_f (fun hh => by have := (nI_leI (by omega) (by omega)).mp hh; omega) ⟨hin, xa_t' rfl ⟨hin, xa_f (xa_ne 8 (by omega)) ⟨hin, xa_f (xa_ne 9 (by omega)) (xa_a ?_)⟩⟩⟩⟩
    exact ih (j + 1) _ (by omega) (by omega) (yv_FM_p fm (fun p k hp => by rw [xa_p (by omega)]) (by rw [xa_w, if_neg (by decide)])) (by rw [xa_w, if_pos ⟨rfl, rfl⟩]; rfl) (fun I' a1 a2 => hK I' a1 (fun p k hp => by rw [a2 p k hp, xa_w, if_neg hp]))
/-- the steps of a part -/
theorem yv_act168 {p fa fm : Nat} {P : xi_I → Bool} {K Q : Int32 → pI → pR → Prop} (hnow : now < 6) (ho : o ≤ 1) (w : xg_W ts L F.1) (hfm : fa + fm ≤ F.1.length) (hpt : ∀ it, it ∈ F.1 → xi_pt it < 1000) (hp : p < 1000) (hP : ∀ it, P it = (decide (xi_k it = 1) && decide (xi_pt it = p))) :
    ∀ m a V s b I, a + m = F.1.length → yv_E o F fa fm I → yv_St true I o now F.1 V s → xv_B b s → b + 200 * m ≤ 1000000000 →
    (∀ V' s' r, xg_steps (xg_A (xg_rng F.1 fa fm)) (xg_ds ((F.1.drop a).filter P)) V s = (V', s', r) → ∀ I', xa_fr (yv_SV now) I I' → yv_St true I' o now F.1 V' s' → xv_B (b + 200 * m) s' → (∀ f, r = some f → I' 121 60 = nI f.2 ∧ (f.1 = 2 ∨ f.1 = 3)) → K (match r with
      | none => 0
      | some f => nI f.1) I' R) →
    l_md_acted_168 (nI p) K Q (m + 1) 0 (nI (100 * o + a)) I R := by
  have w' := w
  obtain ⟨ww, w1, w2, w3, w4, w5, w6⟩ := w'
  have hin2 : vp_in (nI o) 2 := vp_in_nI (by omega) (by omega)
  intro m; induction m with
  | zero =>
    intro a V s b I ha hE st hB hb hK
    unfold l_md_acted_168
    rw [hE.1.2.2.2.1, nI_clamp (by omega), hE.1.2.2.2.2.1]
    refine ⟨hin2, xa_t ((nI_leI (by omega) (by omega)).mpr (by omega)) (hK V s none ?_ I (xa_fr_r _ _) st (xv_B_m hB (by omega)) (fun f hf => by cases hf))⟩
    rw [List.drop_of_length_le (by omega)]; rfl
  | succ m ih =>
    intro a V s b I ha hE st hB hb hK
    have hg : F.1[a]? = some F.1[a] := List.getElem?_eq_getElem (by omega)
    have ed : F.1.drop a = F.1[a] :: F.1.drop (a + 1) := List.drop_eq_getElem_cons (by omega)
    rw [ed] at hK
    generalize F.1[a] = it at *
    have hm := List.mem_of_getElem? hg
    have iw := w6 it hm
    have hp1 := hpt it hm
    have hk9 := iw.1
    have hkb := xk_kd_b hk9
    obtain ⟨ie, _⟩ := hE.1.1 a it hg
    have hin : vp_in (nI (100 * o + a)) 200 := vp_in_nI (by omega) (by omega)
    unfold l_md_acted_168
    rw [hE.1.2.2.2.1, nI_clamp (by omega), hE.1.2.2.2.2.1]
    refine ⟨hin2, xa_f (fun hh => by have := (nI_leI (by omega) (by omega)).mp hh; omega) (xa_t' rfl ⟨hin, ?_⟩)⟩
    rw [nI_clamp (by omega), ie.1, ie.2.1, nI_1]
    have hPi := hP it
    have skip : P it = false → l_md_acted_168 (nI p) K Q (m + 1) 0 (nI (100 * o + a + 1)) I R := by
      intro hpp
      rw [List.filter_cons_of_neg (by simp [hpp])] at hK
      exact ih (a + 1) V s b I (by omega) hE st hB (by omega) (fun V' s' r hr I' f' st' hB' => hK V' s' r hr I' f' st' (xv_B_m hB' (by omega)))
    by_cases hk : xi_k it = 1
    · refine xa_t' (by rw [hk]; rfl) ⟨hin, ?_⟩
      by_cases hpp : xi_pt it = p
      · refine xa_t' (by rw [hpp]) ?_
        have hPt : P it = true := by rw [hPi]; simp [hk, hpp]
        rw [List.filter_cons_of_pos (by simp [hPt])] at hK
        have ht1 : xk_tg F.2.2.2.1 it = xg_ti (xi_tg it) := by
          unfold xk_tg; rw [if_neg (by omega)]
          cases xi_tg it <;> rfl
        have est : ∀ r, (xi_x it).2.2.1 (xg_A (xg_rng F.1 fa fm)) V xg_O0 s = r → xg_steps (xg_A (xg_rng F.1 fa fm)) (xg_ds (it :: (F.1.drop (a + 1)).filter P)) V s = (match r with
            | (s', _, .inr v) => xg_steps (xg_A (xg_rng F.1 fa fm)) (xg_ds ((F.1.drop (a + 1)).filter P)) (xg_up V (xi_tg it) v) s'
            | (s', _, .inl f) => (V, s', some f)) := by
          intro r hr
          show (match (xi_x it).2.2.1 (xg_A (xg_rng F.1 fa fm)) V xg_O0 s with
            | (s', _, .inr v) => xg_steps (xg_A (xg_rng F.1 fa fm)) (xg_ds ((F.1.drop (a + 1)).filter P)) (xg_up V (xi_tg it) v) s'
            | (s', _, .inl f) => (V, s', some f)) = _
          rw [hr]
        refine yv_does (b := b) hnow ho w hfm (Or.inr rfl) hg (by omega) ht1 (fun t ht => iw.2.2.2.2.1 (by omega) t ht) hE st hB (by omega) (fun s' D v hd I1 f1' st1 hB1 => xa_f' (by decide) ?_) (fun s' D f hd I1 f1' st1 hB1 ha' hb' h23 => xa_t' rfl ?_)
        · exact ih (a + 1) _ s' (b + 200) I1 (by omega) (yv_E_V f1' hE) st1 hB1 (by omega) (fun V' s2 r hr I' f' st' hB' => hK V' s2 r (by rw [est _ hd]; exact hr) I' (xa_fr_t f1' f') st' (xv_B_m hB' (by omega)))
        · rw [ha']
          have hE1 := yv_E_V f1' hE
          have k := hK V s' (some f) (est _ hd) I1 f1' st1 (xv_B_m hB1 (by omega)) (fun f' hf => by cases hf; exact ⟨hb', h23⟩)
          unfold l_md_acted_168
          rw [hE1.1.2.2.2.1, nI_clamp (by omega)]
          exact ⟨hin2, fun _ => k, fun _ => xa_f' (xa_ne 0 (by omega)) k⟩
      · exact xa_f' (fun e => hpp ((nI_eq (by omega) (by omega)).mp e)) (skip (by rw [hPi]; simp [hpp]))
    · refine xa_f' (fun e => hk ?_) (skip (by rw [hPi]; simp [hk]))
      have := (xa_eql 3 (by omega) (by omega)).mp e
      exact (xk_kd_inj iw.1 (show 1 < 9 by omega)).mp this
theorem yv_acted {p a c e : Nat} {V : Nat → Int32} {s : xp_S} {b : Nat} {I : pI} {Q : Int32 → pI → pR → Prop} (hnow : now < 6) (ho : o ≤ 1) (w : xg_W ts L F.1) (hpt : ∀ it, it ∈ F.1 → xi_pt it < 1000) (hp : p < 1000) (wp : yg_WP F.1 p a c e) (fm : yv_FM I o F) (st : yv_St false I o now F.1 V s)
    (hQ : ∀ V' s' r, xg_steps (xg_A (xg_rng F.1 a (e - a))) (xg_ds ((xg_seg F.1 a e).filter (fun it => xi_k it == 1))) V (xg_rs s) = (V', s', r) → ∀ I', xa_fr (yv_SI now) I I' → (∀ k, I' 159 k = I 159 k) → (∀ p k, 163 ≤ p ∧ p ≤ 172 ∧ p ≠ 166 ∧ p ≠ 167 → I' p k = I p k) → yv_E o F 0 0 I' → yv_St true I' o now F.1 V' s' → xv_B 12000 s' → I' 121 62 = nI (100 * o + (c - 1)) → I' 121 63 = nI (100 * o + e) → (∀ f, r = some f → I' 121 60 = nI f.2 ∧ (f.1 = 2 ∨ f.1 = 3)) → Q (match r with
      | none => 0
      | some f => nI f.1) I' R) : w_md_acted (nI p) I R Q := by
  have w1 := w.2.1
  have wp' := wp
  obtain ⟨hac, hce, hel, wh, wt, wn, wo⟩ := wp'
  have hin2 : vp_in (nI o) 2 := vp_in_nI (by omega) (by omega)
  unfold w_md_acted
  refine xa_a ?_
  rw [show pw_wI I 121 61 1 121 10 = nI o by rw [xa_w, if_neg (by decide)]; exact fm.2.2.2.1, show (100 : Int32) * nI o = nI (100 * o) from pk_mul _ _]
  refine xa_a ?_
  rw [show pw_wI (pw_wI I 121 61 1) 121 62 (nI (100 * o)) 121 10 = nI o by rw [xa_w, if_neg (by decide), xa_w, if_neg (by decide)]; exact fm.2.2.2.1, nI_clamp (by omega), show pw_wI (pw_wI I 121 61 1) 121 62 (nI (100 * o)) 147 o = nI (100 * o + F.1.length) by rw [xa_p (by decide), xa_p (by decide)]; exact fm.2.2.2.2.1]
  refine ⟨hin2, xa_a ?_⟩
  have g3 : ∀ p k, ¬ (p = 121 ∧ 61 ≤ k ∧ k ≤ 63) → pw_wI (pw_wI (pw_wI I 121 61 1) 121 62 (nI (100 * o))) 121 63 (nI (100 * o + F.1.length)) p k = I p k := fun p k h => by rw [xa_w, if_neg (by omega), xa_w, if_neg (by omega), xa_w, if_neg (by omega)]
  have t61 : pw_wI (pw_wI (pw_wI I 121 61 1) 121 62 (nI (100 * o))) 121 63 (nI (100 * o + F.1.length)) 121 61 = 1 := by rw [xa_w, if_neg (by decide), xa_w, if_neg (by decide), xa_w, if_pos ⟨rfl, rfl⟩]
  have t62 : pw_wI (pw_wI (pw_wI I 121 61 1) 121 62 (nI (100 * o))) 121 63 (nI (100 * o + F.1.length)) 121 62 = nI (100 * o) := by rw [xa_w, if_neg (by decide), xa_w, if_pos ⟨rfl, rfl⟩]
  have t63 : pw_wI (pw_wI (pw_wI I 121 61 1) 121 62 (nI (100 * o))) 121 63 (nI (100 * o + F.1.length)) 121 63 = nI (100 * o + F.1.length) := by rw [xa_w, if_pos ⟨rfl, rfl⟩]
  generalize pw_wI (pw_wI (pw_wI I 121 61 1) 121 62 (nI (100 * o))) 121 63 (nI (100 * o + F.1.length)) = I3 at *
  have fm3 : yv_FM I3 o F := yv_FM_p fm (fun p k hp => g3 p k (by omega)) (g3 _ _ (by omega))
  rw [t62]
  refine ⟨F.1.length + 1, yv_act36 (p := p) ho w hpt hp wp F.1.length 0 I3 (by omega) fm3 t63 (fun i hi => by omega) (fun _ => t62) (fun h => by omega) (fun I4 z4 u62 g4 => ?_)⟩
  rw [u62]
  refine xa_a ?_
  have g5 : ∀ p k, p ≠ 145 → ¬ (p = 121 ∧ 61 ≤ k ∧ k ≤ 63) → pw_wI I4 121 63 (nI (100 * o + (c - 1))) p k = I p k := fun p k h1 h2 => by rw [xa_w, if_neg (by omega), g4 p k h1 (by omega), g3 p k h2]
  have fm5 : yv_FM (pw_wI I4 121 63 (nI (100 * o + (c - 1)))) o F := yv_FM_p fm (fun p k hp => g5 p k (by omega) (by omega)) (g5 _ _ (by omega) (by omega))
  refine ⟨e - (c - 1) + 1, yv_act90 (p := p) ho w hpt hp wp (e - (c - 1)) (c - 1) _ (by omega) (by omega) fm5 (by rw [xa_w, if_pos ⟨rfl, rfl⟩]) (fun I6 u63 g6 => ?_)⟩
  have g6' : ∀ p k, p ≠ 145 → ¬ (p = 121 ∧ 61 ≤ k ∧ k ≤ 63) → I6 p k = I p k := fun p k h1 h2 => by rw [g6 p k (by omega), g5 p k h1 h2]
  have fm6 : yv_FM I6 o F := yv_FM_p fm (fun p k hp => g6' p k (by omega) (by omega)) (g6' _ _ (by omega) (by omega))
  have v61 : I6 121 61 = 1 := by rw [g6 _ _ (by omega), xa_w, if_neg (by decide), g4 _ _ (by omega) (by omega)]; exact t61
  have v62 : I6 121 62 = nI (100 * o + (c - 1)) := by rw [g6 _ _ (by omega), xa_w, if_neg (by decide)]; exact u62
  have hz6 : ∀ i, i < F.1.length → I6 145 (100 * o + i) = 0 := fun i hi => by rw [g6 _ _ (by omega), xa_p (by decide)]; exact z4 i hi
  have hE6 : yv_E o F (c - 1) (e - (c - 1)) I6 := ⟨fm6, Or.inr ⟨v61, v62, by rw [u63]; congr 2; omega⟩⟩
  have st6 : yv_St true I6 o now F.1 V (xg_rs s) := by
    refine ⟨by rw [g6' _ _ (by omega) (by omega)]; exact st.1, fun v hv => by rw [g6' _ _ (by omega) (by omega)]; exact st.2.1 v hv, ?_, ?_, fun hg j it hj h7 => ?_⟩
    · rw [g6' _ _ (by omega) (by omega)]; exact st.2.2.1
    · rw [g6' _ _ (by omega) (by omega)]; exact st.2.2.2.1
    · rw [hz6 j (xa_some_lt hj)]; unfold xg_rs; rw [if_pos (by omega)]
  have hB6 : xv_B 0 (xg_rs s) := fun r => ⟨0, by omega, by unfold xg_rs; rw [if_pos (by omega)]; rfl⟩
  rw [fm6.2.2.2.1, show (100 : Int32) * nI o = nI (100 * o) from pk_mul _ _]
  have f6 : xa_fr (yv_SI now) I I6 := fun p k hp => by
    simp only [yv_SI, Bool.or_eq_false_iff, Bool.and_eq_false_iff, beq_eq_false_iff_ne, decide_eq_false_iff_not] at hp
    exact g6' p k (by omega) (by omega)
  have erng : xg_rng F.1 a (e - a) = xg_rng F.1 (c - 1) (e - (c - 1)) := by
    have := yg_rng_s (its := F.1) (e := e) (c - 1 - a) a (by omega) (fun j it h1 h2 hg => by have := ((wh j it hg).mpr ⟨h1, by omega⟩).1; omega)
    rw [show a + (c - 1 - a) = c - 1 by omega] at this; exact this
  have efil : F.1.filter (fun it => decide (xi_k it = 1) && decide (xi_pt it = p)) = (xg_seg F.1 a e).filter (fun it => xi_k it == 1) := by
    refine yg_fil (by omega) (fun j it hg => ?_)
    have h1 := wh j it hg
    have h2 := wt j it hg
    simp only [Bool.and_eq_true, decide_eq_true_eq, beq_iff_eq]
    constructor
    · intro h; have := h1.mp h; exact ⟨by omega, by omega, h.1⟩
    · intro ⟨x, y, z⟩
      by_cases hjc : j < c
      · exact h1.mpr ⟨x, hjc⟩
      · have := (h2 (by omega) y).1; omega
  rw [erng] at hQ
  refine ⟨F.1.length + 1, yv_act168 (p := p) (P := fun it => decide (xi_k it = 1) && decide (xi_pt it = p)) hnow ho w (by omega) hpt hp (fun _ => rfl) F.1.length 0 V (xg_rs s) 0 I6 (by omega) hE6 st6 hB6 (by omega) (fun V' s' r hr I7 f7 st7 hB7 hf7 => xa_a ?_)⟩
  rw [List.drop_zero, efil] at hr
  have g8 : ∀ p k, ¬ (p = 121 ∧ k = 61) → pw_wI I7 121 61 0 p k = I7 p k := fun p k h => by rw [xa_w, if_neg h]
  refine hQ V' s' r hr _ (xa_fr_t f6 (xa_fr_t (yv_SI_V f7) (xa_fr_w (xa_fr_r _ _) rfl))) (fun k => by rw [g8 _ _ (by omega), yv_SV_o f7 _ _ (by omega), g6' _ _ (by omega) (by omega)]) (fun p k hp => by rw [g8 _ _ (by omega), yv_SV_o f7 _ _ (by omega), g6' _ _ (by omega) (by omega)]) ⟨yv_FM_p fm6 (fun p k hp => by rw [g8 _ _ (by omega), yv_SV_o f7 _ _ (by omega)]) (by rw [g8 _ _ (by omega), yv_SV_o f7 _ _ (by omega)]), Or.inl ⟨rfl, by rw [xa_w, if_pos ⟨rfl, rfl⟩]⟩⟩ ?_ (xv_B_m hB7 (by omega)) (by rw [g8 _ _ (by omega), yv_SV_o f7 _ _ (by omega)]; exact v62) (by rw [g8 _ _ (by omega), yv_SV_o f7 _ _ (by omega)]; exact u63) (fun f hf => ⟨by rw [g8 _ _ (by omega)]; exact (hf7 f hf).1, (hf7 f hf).2⟩)
  exact ⟨by rw [g8 _ _ (by omega)]; exact st7.1, fun v hv => by rw [g8 _ _ (by omega)]; exact st7.2.1 v hv, by rw [g8 _ _ (by omega)]; exact st7.2.2.1, by rw [g8 _ _ (by omega)]; exact st7.2.2.2.1, fun hg j it hj h7 => by rw [g8 _ _ (by omega)]; exact st7.2.2.2.2 hg j it hj h7⟩
end
