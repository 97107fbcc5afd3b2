def xk_fd (c p : Nat) (er : Option (Nat × Nat)) : Option (Nat × Nat) := match er with
  | none => some (c, p)
  | some e => if p < e.2 ∨ (p = e.2 ∧ c < e.1) then some (c, p) else some e
theorem xk_found {I : pI} {R : pR} {c p : Nat} {er : Option (Nat × Nat)} {Q : pI → pR → Prop} (he : xk_ER I er) (hc : 0 < c ∧ c < 10) (hp : p < 1000) (h : ∀ I', xk_ER I' (xk_fd c p er) → (∀ p' k', ¬ (p' = 121 ∧ (k' = 55 ∨ k' = 56)) → I' p' k' = I p' k') → Q I' R) : w_md_found (nI c) (nI p) I R Q := by
  have hw : xk_fd c p er = some (c, p) → ∀ I1, I1 = pw_wI I 121 55 (nI c) → ∀ I2, I2 = pw_wI I1 121 56 (nI p) → Q I2 R := by
    intro hf I1 e1 I2 e2
    have hI : ∀ p' k', I2 p' k' = if p' = 121 ∧ k' = 56 then nI p else if p' = 121 ∧ k' = 55 then nI c else I p' k' := by
      intro p' k'; rw [e2, xa_w, e1, xa_w]
    refine h I2 ?_ (fun p' k' hp => by rw [hI, if_neg (by omega), if_neg (by omega)])
    rw [hf]
    exact ⟨by rw [hI]; simp, by rw [hI]; simp, hc.1, hc.2, hp⟩
  unfold w_md_found
  cases er with
  | none => exact xa_t he.1 (hw rfl)
  | some e =>
    obtain ⟨a, b, c1, c2, c3⟩ := he
    rw [a, b]
    refine xa_f (xa_ne 0 (by omega)) ?_
    by_cases h1 : p < e.2
    · exact xa_t ((nI_ltI (by omega) (by omega)).mpr h1) (hw (by unfold xk_fd; simp [h1]))
    · refine xa_f (fun hh => h1 ((nI_ltI (by omega) (by omega)).mp hh)) ?_
      by_cases h2 : p = e.2
      · refine xa_t' (by rw [h2]) ?_
        by_cases h3 : c < e.1
        · exact xa_f (fun hh => by have := (nI_leI (by omega) (by omega)).mp hh; omega) (hw (by unfold xk_fd; simp [h2, h3]))
        · refine xa_t ((nI_leI (by omega) (by omega)).mpr (by omega)) (h I ?_ (fun _ _ _ => rfl))
          have : xk_fd c p (some e) = some e := by unfold xk_fd; simp [h2, h3]
          rw [this]; exact ⟨a, b, c1, c2, c3⟩
      · refine xa_f' (fun hh => h2 ((nI_eq (by omega) (by omega)).mp hh)) (h I ?_ (fun _ _ _ => rfl))
        have : xk_fd c p (some e) = some e := by unfold xk_fd; simp [h1, h2]
        rw [this]; exact ⟨a, b, c1, c2, c3⟩
def xk_RL (I : pI) (o part rows : Nat) (hs : List (Nat × Nat)) (its : List xi_I) (l : List Int32) (er : Option (Nat × Nat)) (rc : Int32) : Prop := (I 121 32 = nI (100 * o + its.length) ∧ xk_IO I o hs its) ∧ xk_AM I o l ∧ xk_ER I er ∧ I 121 34 = nI part ∧ I 121 35 = nI rows ∧ I 121 54 = nI hs.length ∧ (∀ i e, hs[i]? = some e → I 157 i = nI e.1) ∧ I 121 52 = rc
theorem xk_RL_fr {I I' : pI} {b o part rows : Nat} {hs : List (Nat × Nat)} {its : List xi_I} {l : List Int32} {er : Option (Nat × Nat)} {rc : Int32} (h : xk_RL I o part rows hs its l er rc) (fr : xa_fr (xr_S b) I I') : xk_RL I' o part rows hs its l er rc := by
  have f : ∀ p k, ¬ ((p = 121 ∧ (k = 7 ∨ k = 8 ∨ k = 15 ∨ k = 39 ∨ k = 43 ∨ k = 44 ∨ k = 45 ∨ k = 46 ∨ k = 47)) ∨ (128 ≤ p ∧ p ≤ 130) ∨ (150 ≤ p ∧ p ≤ 156)) → I' p k = I p k := fun p k hp => fr p k (by
    simp only [xr_S, Bool.or_eq_false_iff, Bool.and_eq_false_iff, beq_eq_false_iff_ne, decide_eq_false_iff_not]; omega)
  obtain ⟨⟨a1, a2⟩, ⟨b1, b2⟩, c, d, e, g, h, i⟩ := h
  exact ⟨⟨by rw [f _ _ (by omega)]; exact a1, xk_IO_fr a2 (fun p k a b _ _ => f _ _ (by omega))⟩, ⟨by rw [f _ _ (by omega)]; exact b1, fun i a hi => by rw [f _ _ (by omega)]; exact b2 i a hi⟩, xk_ER_fr c (f _ _ (by omega)) (f _ _ (by omega)), by rw [f _ _ (by omega)]; exact d, by rw [f _ _ (by omega)]; exact e, by rw [f _ _ (by omega)]; exact g, fun i e hi => by rw [f _ _ (by omega)]; exact h i e hi, by rw [f _ _ (by omega)]; exact i⟩
/-- an item under way -/
def xk_B (I : pI) (ts : List (Nat × Nat × Nat × Nat)) (L o p part rows : Nat) (hs : List (Nat × Nat)) (its : List xi_I) (l : List Int32) (ev : List (Nat × Nat × Nat × Int32)) (er : Option (Nat × Nat)) (rc : Int32) (k pt : Nat) (tg : Int32) (fi : Nat) : Prop := xr_TK I ts L ∧ xr_IT I (400 * o) p (xi_G its) ev ∧ xk_RL I o part rows hs its l er rc ∧ xk_PD I o its.length k pt tg (400 * o + (xi_G its).length) fi
theorem xk_B_at {I : pI} {L o p p' part rows k pt fi : Nat} {ts : List (Nat × Nat × Nat × Nat)} {hs : List (Nat × Nat)} {its : List xi_I} {l : List Int32} {ev : List (Nat × Nat × Nat × Int32)} {er : Option (Nat × Nat)} {rc tg : Int32} (h : xk_B I ts L o p part rows hs its l ev er rc k pt tg fi) : xk_B (pw_wI I 121 7 (nI p')) ts L o p' part rows hs its l ev er rc k pt tg fi ∧ xa_fr (xr_S (400 * o)) I (pw_wI I 121 7 (nI p')) := by
  obtain ⟨tk, it, rl, pd⟩ := h
  have fr : xa_fr (xr_S (400 * o)) I (pw_wI I 121 7 (nI p')) := xa_fr_w (xa_fr_r _ _) rfl
  refine ⟨⟨xr_TK_fr tk fr xr_S_tk, ?_, xk_RL_fr rl fr, xk_PD_fr pd fr⟩, fr⟩
  obtain ⟨i0, i1, i2, i3⟩ := it
  exact ⟨by rw [xa_w]; simp, by rw [xa_w, if_neg (by decide)]; exact i1, xr_CD_fr i2 (fun q k a b _ _ => by rw [xa_p (by omega)]), xr_EV_fr i3 (by rw [xa_w, if_neg (by decide)]) (fun q k a b => by rw [xa_p (by omega)])⟩
theorem xk_want {I : pI} {R : pR} {L p : Nat} {ts : List (Nat × Nat × Nat × Nat)} {Q : Int32 → pI → pR → Prop} (c : Nat) (hc : 33 ≤ c ∧ c < 127) (tk : xr_TK I ts L) (hat : I 121 7 = nI p) (hp : p < ts.length + 6) (h1 : xt_kd ts L p = c → Q 1 (pw_wI I 121 7 (nI (p + 1))) R) (h2 : xt_kd ts L p ≠ c → ∀ I', I' 121 8 = nI (xt_pl ts L p) → (∀ b, xa_fr (xr_S b) I I') → Q 0 I' R) : w_md_want (nI c) I R Q := by
  have a1 := tk.1.1; have a2 := tk.1.2.1
  have hkb := xt_ka_b (xt_kd_b tk.1 (i := p))
  have he := xt_ka_eq tk.1 (p := p) c hc
  unfold w_md_want
  rw [hat, nI_clamp (by omega), (tk.2 p hp).1, nI_1]
  refine ⟨vp_in_nI (by omega) (by omega), ?_⟩
  by_cases h : xt_kd ts L p = c
  · exact xa_t (by rw [he.mpr h]) (xa_a (h1 h))
  · refine xa_f (fun hh => h (he.mp ((nI_eq (by omega) (by omega)).mp hh))) (xr_fail tk hat hp (h2 h _ (by rw [xa_w]; simp) (fun b => xa_fr_w (xa_fr_r _ _) rfl)))
def xk_evi (it : xi_I) : List (Nat × Nat × Nat × Int32) := if xi_k it = 8 then xr_uv (match xi_tg it with
    | some c => nI c
    | none => -1) (xi_x it).2.2.2.1
  else xr_uv (-1) (xi_x it).2.2.2.1 ++ (match xi_tg it with
    | some v => [(2, xi_fi it, v, 0)]
    | none => [])
theorem xk_tg_n {hs : List (Nat × Nat)} {it : xi_I} (h : xi_k it ≠ 8) : xk_tg hs it = (match xi_tg it with
    | some v => nI v
    | none => -1) := by unfold xk_tg; rw [if_neg h]; cases xi_tg it <;> rfl
theorem xk_evi_n {it : xi_I} (h : xi_k it ≠ 8) : xk_evi it = xr_uv (-1) (xi_x it).2.2.2.1 ++ (match xi_tg it with
    | some v => [(2, xi_fi it, v, 0)]
    | none => []) := by unfold xk_evi; rw [if_neg h]
def xk_eri (er : Option (Nat × Nat)) (it : xi_I) : Option (Nat × Nat) := match xi_mo (xi_ru it) with
  | some m => if xi_k it = 7 ∧ m < xi_le (xi_ru it) then xk_fd 5 (xi_fi it) er else er
  | none => er
theorem xk_eri_n {er : Option (Nat × Nat)} {it : xi_I} (h : xi_k it ≠ 7) : xk_eri er it = er := by
  unfold xk_eri; split
  · rw [if_neg (fun hh => h hh.1)]
  · rfl
/-- an expression and the end of its item -/
theorem xk_expr {I : pI} {R : pR} {L o p part rows k pt : Nat} {ok : Bool} {ts : List (Nat × Nat × Nat × Nat)} {hs : List (Nat × Nat)} {its : List xi_I} {ev : List (Nat × Nat × Nat × Int32)} {er : Option (Nat × Nat)} {rc tg f2 : Int32} {lv fi : Nat} {Q : Int32 → pI → pR → Prop} (ho : o ≤ 1) (hlv : lv ≤ 4) (b : xk_B I ts L o p part rows hs its ((xi_rs its).flatMap xi_an) ev er rc (xk_kd k) pt tg fi) (hk : k ≠ 7) (hp : p ≤ ts.length) (hg : (xi_G its).length ≤ xt_pl ts L p) (hev : ev.length ≤ xt_pl ts L p) (hl : its.length < 100) (hok : ok = true ↔ ¬ f2 = 0)
    (h1 : ∀ p' x, xp_P (xt_kd ts L) (xt_nm ts L) (xt_pl ts L) 64 0 lv 0 ok p = .inr (p', x) → ∀ I', xr_IT I' (400 * o) p' (xi_G its ++ x.2.1) (ev ++ xr_uv rc x.2.2.2.1) → xr_TK I' ts L → xk_RL I' o part rows hs its ((xi_rs its).flatMap xi_an) er rc → xk_PD I' o its.length (xk_kd k) pt tg (400 * o + (xi_G its).length) fi → xa_fr (xk_S o) I I' → Q 1 I' R)
    (h2 : ∀ g, xp_P (xt_kd ts L) (xt_nm ts L) (xt_pl ts L) 64 0 lv 0 ok p = .inl g → ∀ I', I' 121 8 = nI (xt_pl ts L g) → xa_fr (xk_S o) I I' → Q 0 I' R) : w_md_expression (nI (lv + 1)) f2 I R Q := by
  obtain ⟨tk, it, rl, pd⟩ := b
  refine xr_expr (by omega) hlv tk rl.2.2.2.2.2.2.2 it hp hg hev hok (fun p' x hx I' it' fr' => ?_) (fun g hg I' f' fr' => h2 g hg I' f' (xa_fr_m fr' xk_S_r))
  exact h1 p' x hx I' it' (xr_TK_fr tk fr' xr_S_tk) (xk_RL_fr rl fr') (xk_PD_fr pd fr') (xa_fr_m fr' xk_S_r)
theorem xk_fin {I : pI} {R : pR} {L o p' part rows : Nat} {ts : List (Nat × Nat × Nat × Nat)} {hs : List (Nat × Nat)} {its : List xi_I} {it : xi_I} {ev : List (Nat × Nat × Nat × Int32)} {er : Option (Nat × Nat)} {rc : Int32} {K : pI → pR → Prop} (ho : o ≤ 1) (tk : xr_TK I ts L) (ic : xr_IT I (400 * o) p' (xi_G its ++ (xi_x it).2.1) ev) (rl : xk_RL I o part rows hs its ((xi_rs its).flatMap xi_an) er rc) (pd : xk_PD I o its.length (xk_kd (xi_k it)) (xi_pt it) (xk_tg hs it) (400 * o + (xi_G its).length) (xi_fi it)) (hk : xi_k it ≠ 7) (hl : its.length < 100) (hp : p' ≤ ts.length) (hp0 : 0 < p') (hla : xt_en ts L (p' - 1) = xi_la it) (hgl : (xi_G its).length + (xi_x it).2.1.length < 400)
    (h : ∀ I', xk_ST I' ts L o p' part rows hs (its ++ [it]) ev er rc → xa_fr (xk_S o) I I' → K I' R) : w_md_finish I R K := by
  have hG : xi_G (its ++ [it]) = xi_G its ++ (xi_x it).2.1 := by rw [xi_G_app, xi_G_one]
  refine xk_finish (k := 0) (tg := 0) (Q := fun _ _ _ => True) ho tk (by rw [hG]; exact ic) (by rw [hG, List.length_append]; exact hgl) (by rw [xi_rs_n hk]; exact rl) pd (fun h7 => absurd h7 hk) hl hp hp0 hla h
theorem xk_ST_B {I : pI} {L o p part rows k pt fi : Nat} {ts : List (Nat × Nat × Nat × Nat)} {hs : List (Nat × Nat)} {its : List xi_I} {ev : List (Nat × Nat × Nat × Int32)} {er : Option (Nat × Nat)} {rc tg : Int32} (st : xk_ST I ts L o p part rows hs its ev er rc) (pd : xk_PD I o its.length k pt tg (400 * o + (xi_G its).length) fi) : xk_B I ts L o p part rows hs its ((xi_rs its).flatMap xi_an) ev er rc k pt tg fi := ⟨st.1, st.2.1, st.2.2, pd⟩
/-- an expression that is asked for -/
theorem xk_asked {I : pI} {R : pR} {L o p part rows k : Nat} {ts : List (Nat × Nat × Nat × Nat)} {hs : List (Nat × Nat)} {its : List xi_I} {ev : List (Nat × Nat × Nat × Int32)} {er : Option (Nat × Nat)} {Q : Int32 → pI → pR → Prop} (ho : o ≤ 1) (hk : k = 3 ∨ k = 4) (st : xk_ST I ts L o p part rows hs its ev er (-1)) (hp : p ≤ ts.length) (hg : (xi_G its).length ≤ xt_pl ts L p) (hev : ev.length ≤ xt_pl ts L p) (hl : its.length < 100)
    (h1 : ∀ p' it, xi_ex (xt_pl ts L) (xt_en ts L) k part p none (xp_P (xt_kd ts L) (xt_nm ts L) (xt_pl ts L) 64 0 0 0 (decide (k = 4)) p) = .inr (p', it) → ∀ I', xk_ST I' ts L o p' part rows hs (its ++ [it]) (ev ++ xk_evi it) (xk_eri er it) (-1) → xa_fr (xk_S o) I I' → Q 1 I' R)
    (h2 : ∀ g, xi_ex (xt_pl ts L) (xt_en ts L) k part p none (xp_P (xt_kd ts L) (xt_nm ts L) (xt_pl ts L) 64 0 0 0 (decide (k = 4)) p) = .inl g → ∀ I', I' 121 8 = nI (xt_pl ts L g) → xa_fr (xk_S o) I I' → Q 0 I' R) : w_md_asked (nI (xk_kd k)) I R Q := by
  have w := st.1.1
  have hL := w.1
  have hkk : xk_kd k < 20 ∧ xk_kd k ≠ 9 := by rcases hk with rfl | rfl <;> decide
  unfold w_md_asked
  refine xk_begin ho st hl hp hkk.1 (fun I1 st1 pd1 fr1 => ?_)
  rw [if_neg hkk.2] at pd1
  have key : ∀ (f2 : Int32) (ok : Bool), ok = decide (k = 4) → (ok = true ↔ ¬ f2 = 0) → w_md_expression 1 f2 I1 R (fun v2 I2 R2 => ((¬ v2 = 0 → (w_md_finish I2 R2 (fun I3 R3 => Q (1 : Int32) I3 R3))) ∧ (v2 = 0 → Q (0 : Int32) I2 R2))) := by
    intro f2 ok hok hf
    subst hok
    refine xk_expr (lv := 0) (k := k) ho (by omega) (xk_ST_B st1 pd1) (by omega) hp hg hev hl hf (fun p' x hx I2 it2 tk2 rl2 pd2 fr2 => ?_) (fun g hg I2 f2 fr2 => ?_)
    · refine xa_f' (by decide) ?_
      have hlx := xp_len w (by omega) (by omega) hx
      have hpb := xt_pl_b w (i := p')
      refine xk_fin (it := (k, part, xt_pl ts L p, xt_en ts L (p' - 1), none, x, xi_r0)) ho tk2 it2 rl2 ?_ (show k ≠ 7 by omega) hl hlx.2.1 (by omega) rfl ?_ (fun I3 st3 fr3 => ?_)
      · have e : xk_tg hs (k, part, xt_pl ts L p, xt_en ts L (p' - 1), none, x, xi_r0) = -1 := by
          rw [xk_tg_n (it := (k, part, xt_pl ts L p, xt_en ts L (p' - 1), none, x, xi_r0)) (show k ≠ 8 by omega)]; rfl
        rw [e]; exact pd2
      · show (xi_G its).length + x.2.1.length < 400; omega
      · refine h1 p' _ (by rw [hx]; rfl) I3 ?_ (xa_fr_t fr1 (xa_fr_t fr2 fr3))
        rw [xk_eri_n (it := (k, part, xt_pl ts L p, xt_en ts L (p' - 1), none, x, xi_r0)) (show k ≠ 7 by omega)]
        have e : xk_evi (k, part, xt_pl ts L p, xt_en ts L (p' - 1), none, x, xi_r0) = xr_uv (-1) x.2.2.2.1 := by
          rw [xk_evi_n (it := (k, part, xt_pl ts L p, xt_en ts L (p' - 1), none, x, xi_r0)) (show k ≠ 8 by omega)]; exact List.append_nil _
        rw [e]; exact st3
    · exact xa_t' rfl (h2 g (by rw [hg]; rfl) I2 f2 (xa_fr_t fr1 fr2))
  rcases hk with rfl | rfl
  · exact xa_f' (by decide) (key 0 false rfl (by simp))
  · exact xa_t' rfl (key 1 true rfl (by simp))
