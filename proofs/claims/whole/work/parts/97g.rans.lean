/-! THE REFERENCE'S STAND-INS -/
/-- what the reference keeps of a feature -/
def yv_FM (I : pI) (o : Nat) (F : xi_F) : Prop := xk_IO I o F.2.2.2.1 F.1 ∧ (∀ i a, ((xi_rs F.1).flatMap xi_an)[i]? = some a → I 146 (120 * o + i) = a) ∧ xr_CD I (400 * o) (xi_G F.1) ∧ I 121 10 = nI o ∧ I 147 o = nI (100 * o + F.1.length) ∧ I 148 o = nI F.2.1.length ∧ I 149 o = nI F.2.2.2.2.length
def yv_E (o : Nat) (F : xi_F) (a m : Nat) (I : pI) : Prop := yv_FM I o F ∧ (m = 0 ∧ I 121 61 = 0 ∨ I 121 61 = 1 ∧ I 121 62 = nI (100 * o + a) ∧ I 121 63 = nI (100 * o + (a + m)))
theorem yv_FM_p {I I' : pI} {o : Nat} {F : xi_F} (h : yv_FM I o F) (f : ∀ p k, (128 ≤ p ∧ p ≤ 149 ∧ p ≠ 145) → I' p k = I p k) (f1 : I' 121 10 = I 121 10) : yv_FM I' o F := by
  obtain ⟨a, b, c, d, e, g, i⟩ := h
  refine ⟨fun j it hj => ?_, fun i a hi => ?_, fun i e hi => ?_, f1.trans d, (f _ _ (by omega)).trans e, (f _ _ (by omega)).trans g, (f _ _ (by omega)).trans i⟩
  · obtain ⟨⟨a1, a2, a3, a4, a5, a6, a7⟩, a8⟩ := a j it hj
    refine ⟨⟨(f _ _ (by omega)).trans a1, (f _ _ (by omega)).trans a2, (f _ _ (by omega)).trans a3, (f _ _ (by omega)).trans a4, (f _ _ (by omega)).trans a5, (f _ _ (by omega)).trans a6, (f _ _ (by omega)).trans a7⟩, fun h7 => ?_⟩
    obtain ⟨b1, b2, b3, b4, b5, b6, b7⟩ := a8 h7
    exact ⟨(f _ _ (by omega)).trans b1, (f _ _ (by omega)).trans b2, (f _ _ (by omega)).trans b3, (f _ _ (by omega)).trans b4, (f _ _ (by omega)).trans b5, (f _ _ (by omega)).trans b6, (f _ _ (by omega)).trans b7⟩
  · exact (f _ _ (by omega)).trans (b i a hi)
  · have := c i e hi
    exact ⟨(f _ _ (by omega)).trans this.1, (f _ _ (by omega)).trans this.2.1, (f _ _ (by omega)).trans this.2.2⟩
theorem yv_E_S {o now : Nat} {F : xi_F} {a m : Nat} : ∀ I I', xa_fr (yv_S now) I I' → yv_E o F a m I → yv_E o F a m I' := by
  intro I I' f h
  refine ⟨yv_FM_p h.1 (fun p k hp => yv_S_o f p k (by omega)) (yv_S_o f _ _ (by omega)), ?_⟩
  rw [yv_S_o f _ _ (by omega), yv_S_o f _ _ (by omega), yv_S_o f _ _ (by omega)]; exact h.2
theorem yg_nr {its : List xi_I} {j j' : Nat} {it : xi_I} (hj : its[j]? = some it) (h7 : xi_k it = 7) (hjj : j < j') : xi_nr (its.take j) < xi_nr (its.take j') := by
  have e : its.take j' = its.take j ++ xg_seg its j j' := xg_take_seg (by omega)
  rw [e, xg_seg_c hj hjj]
  simp [xi_nr, h7]
theorem yg_nri {its : List xi_I} {j j' : Nat} {it it' : xi_I} (hj : its[j]? = some it) (h7 : xi_k it = 7) (hj' : its[j']? = some it') (h7' : xi_k it' = 7) (hne : j' ≠ j) : xi_nr (its.take j') ≠ xi_nr (its.take j) := by
  rcases Nat.lt_or_gt_of_ne hne with h | h
  · have := yg_nr hj' h7' h; omega
  · have := yg_nr hj h7 h; omega
theorem yg_tk {its : List xi_I} {j : Nat} {it : xi_I} (hj : its[j]? = some it) (h7 : xi_k it = 7) : (xi_rs its).take (xi_nr (its.take j)) = xi_rs (its.take j) ∧ (xi_rs its).take (xi_nr (its.take j) + 1) = xi_rs (its.take (j + 1)) := by
  have hlt := xa_some_lt hj
  have e1 : its = its.take j ++ (it :: its.drop (j + 1)) := by
    have := (List.take_append_drop j its).symm
    rw [List.drop_eq_getElem_cons hlt] at this
    have e2 : its[j] = it := by
      rw [List.getElem?_eq_getElem hlt] at hj; exact Option.some.inj hj
    rw [e2] at this; exact this
  have e3 : xi_rs its = xi_rs (its.take j) ++ (xi_ru it :: xi_rs (its.drop (j + 1))) := by
    conv => lhs; rw [e1]
    simp [xi_rs, h7]
  have e4 : xi_rs (its.take (j + 1)) = xi_rs (its.take j) ++ [xi_ru it] := by
    rw [List.take_add_one, hj]; simp [xi_rs, h7]
  rw [e3, e4, ← xi_rs_len]
  refine ⟨List.take_left' rfl, ?_⟩
  rw [show xi_rs (its.take j) ++ (xi_ru it :: xi_rs (its.drop (j + 1))) = (xi_rs (its.take j) ++ [xi_ru it]) ++ xi_rs (its.drop (j + 1)) by simp]
  exact List.take_left' (by simp)
theorem xk_kd7 {k : Nat} (h : k < 9) : xk_kd k = 7 ↔ k = 7 := by
  unfold xk_kd
  repeat' split
  all_goals omega
theorem xk_kd_b {k : Nat} (h : k < 9) : xk_kd k < 10 := by
  unfold xk_kd
  repeat' split
  all_goals omega
section
variable {g : Bool} {o now : Nat} {F : xi_F} {R : pR} {V : Nat → Int32}
/-- the answer of a rule -/
theorem yv_149 {I : pI} {s : xp_S} {j t p x : Nat} {it : xi_I} {D : List (Nat × Int32)} {Q : Int32 → pI → pR → Prop} (hnow : now < 6) (ho : o ≤ 1) (hil : F.1.length ≤ 60) (hal : ((xi_rs F.1).flatMap xi_an).length ≤ 60) (fm : yv_FM I o F) (st : yv_St true I o now F.1 V s) (hj : F.1[j]? = some it) (h7 : xi_k it = 7) (hx : s (2 + xi_nr (F.1.take j)) = nI x) (hxb : x ≤ 1000000000) (ht : I 121 58 = nI t) (hb : t < 64) (dl : yv_DL I D) (hD : D.length < 200)
    (h : ∀ I', xa_fr (yv_S now) I I' → yv_St true I' o now F.1 V (xg_bump s (2 + xi_nr (F.1.take j))) → yv_DL I' (D ++ [(p, xg_ans (xi_ru it) x)]) → (∀ j, j ≠ t → I' 158 j = I 158 j) → I' 158 t = xg_ans (xi_ru it) x → I' 121 58 = nI (t + 1) → Q 1 I' R) : j_md_call_149 Q (nI p) (nI (100 * o + j)) I R := by
  have hjl := xa_some_lt hj
  have hin : vp_in (nI (100 * o + j)) 200 := vp_in_nI (by omega) (by omega)
  obtain ⟨_, re⟩ := fm.1 j it hj
  obtain ⟨r1, r2, r3, r4, r5, r6, r7⟩ := re h7
  have hrs := xg_rsix hj h7
  obtain ⟨tk1, tk2⟩ := yg_tk hj h7
  obtain ⟨f1, f2, f3⟩ := xg_fl (i := if x < (xi_an (xi_ru it)).length then x else (xi_an (xi_ru it)).length - 1) hrs
  rw [tk1] at f1 f2
  rw [tk2] at f1 f3
  have hh := st.2.2.2.2 rfl j it hj h7
  rw [hx] at hh
  have am := fm.2.1
  generalize ((xi_rs (F.1.take j)).flatMap xi_an).length = a0 at *
  generalize ((xi_rs (F.1.take (j + 1))).flatMap xi_an).length = b0 at *
  have fin : ∀ w, w = xg_ans (xi_ru it) x → j_md_call_230 Q (nI p) w (pw_wI I 145 (100 * o + j) (nI (x + 1))) R := by
    intro w hw
    unfold j_md_call_230
    have d1 : yv_DL (pw_wI I 145 (100 * o + j) (nI (x + 1))) D := ⟨by rw [xa_p (by decide)]; exact dl.1, fun j e hj => by rw [xa_p (by decide), xa_p (by decide)]; exact dl.2 j e hj⟩
    have st1 : yv_St true (pw_wI I 145 (100 * o + j) (nI (x + 1))) o now F.1 V (xg_bump s (2 + xi_nr (F.1.take j))) := by
      refine ⟨by rw [xa_p (by decide)]; exact st.1, fun v hv => by rw [xa_p (by decide)]; exact st.2.1 v hv, ?_, ?_, fun hg j' it' hj' h7' => ?_⟩
      · rw [xa_p (by decide)]; unfold xg_bump; rw [if_neg (by omega)]; exact st.2.2.1
      · rw [xa_p (by decide)]; unfold xg_bump; rw [if_neg (by omega)]; exact st.2.2.2.1
      · rw [xa_w]; unfold xg_bump
        by_cases hjj : j' = j
        · subst hjj; rw [if_pos ⟨rfl, rfl⟩, if_pos rfl, hx, nI_1]
        · have := yg_nri hj h7 hj' h7' hjj
          rw [if_neg (by omega), if_neg (by omega)]; exact st.2.2.2.2 hg j' it' hj' h7'
    have ff : xa_fr (yv_S now) I (pw_wI I 145 (100 * o + j) (nI (x + 1))) := xa_fr_w (xa_fr_r _ _) (by simp [yv_S])
    refine yv_give (t := t) (by rw [xa_p (by decide)]; exact ht) hb d1 (fun I2 g2 d2 a2 b2 c2 => yv_top (t := t) (p := p) c2 hb rfl d2 hD (fun I3 g3 d3 a3 c3 => ?_))
    rw [b2, hw] at d3
    refine h I3 (xa_fr_t ff (xa_fr_t (yv_SN_f g2) (yv_SN_f g3))) (yv_St_N (yv_St_N st1 g2) g3) d3 (fun j' hj' => ?_) ?_ c3
    · rw [a3, a2 j' hj', xa_p (by decide)]
    · rw [a3, b2, hw]
  have j192 : ∀ (x7 s0 : Int32), x7 = nI (xi_an (xi_ru it)).length → ((xi_an (xi_ru it)).length ≠ 0 → s0 = nI (if x < (xi_an (xi_ru it)).length then x else (xi_an (xi_ru it)).length - 1)) → j_md_call_192 Q (nI p) (nI (100 * o + j)) x7 s0 I R := by
    intro x7 s0 h7' hs0
    unfold j_md_call_192
    rw [nI_clamp (by omega), hh, nI_1, h7']
    refine ⟨hin, hin, xa_a ?_⟩
    by_cases h0 : (xi_an (xi_ru it)).length = 0
    · refine xa_t' (xa_e 0 h0) (fin _ ?_)
      unfold xg_ans
      rw [List.getElem?_eq_none (by omega)]; rfl
    · have hil : (if x < (xi_an (xi_ru it)).length then x else (xi_an (xi_ru it)).length - 1) < (xi_an (xi_ru it)).length := by split <;> omega
      refine xa_f' (xa_ne 0 (by omega)) ⟨hin, ?_⟩
      rw [hs0 h0, xa_p (p' := 143) (by decide), xa_p (p' := 146) (by decide), r6, nI_add]
      have g := f2 hil
      rw [List.getElem?_eq_getElem hil] at g
      have ga := am _ _ g
      rw [← Nat.add_assoc] at ga
      refine ⟨vp_in_nI (by omega) (by omega), fin _ ?_⟩
      rw [nI_clamp (by omega), ga]
      unfold xg_ans
      rw [List.getElem?_eq_getElem hil]; rfl
  unfold j_md_call_149
  rw [nI_clamp (by omega), r6, r7, hh, pk_sub (by omega)]
  refine ⟨hin, hin, hin, ?_⟩
  by_cases hx2 : x < (xi_an (xi_ru it)).length
  · refine xa_f (fun e => by have := (nI_leI (by omega) (by omega)).mp e; omega) ⟨hin, j192 _ _ (by congr 1; omega) (fun _ => by rw [if_pos hx2])⟩
  · refine xa_t ((nI_leI (by omega) (by omega)).mpr (by omega)) (j192 _ _ (by congr 1; omega) (fun h0 => ?_))
    rw [if_neg hx2, xa_m1 (by omega)]; congr 1; omega
theorem yv_callL {I : pI} {s : xp_S} {b m0 t p : Nat} {v : Int32} {D : List (Nat × Int32)} {K Q : Int32 → pI → pR → Prop} (hnow : now < 6) (ho : o ≤ 1) (hil : F.1.length ≤ 60) (hal : ((xi_rs F.1).flatMap xi_an).length ≤ 60) (hw : ∀ it, it ∈ F.1 → xi_k it < 9 ∧ (xi_k it = 7 → xg_RW (xi_ru it))) (fm : yv_FM I o F) (st : yv_St g I o now F.1 V s) (hB : xv_B b s) (hb : b ≤ 1000000000) (hm0 : m0 ≤ 1) (ht : I 121 58 = nI t) (htb : t < 64) (dl : yv_DL I D) (hD : D.length < 200) (h61 : I 121 61 = 1) :
    ∀ m a (sm : Bool), (m = 0 ∨ g = true) → a + m ≤ F.1.length → I 121 63 = nI (100 * o + (a + m)) →
    (∀ sm' : Bool, xg_go m0 v (xg_rng F.1 a m) sm s = (s, if sm' then none else some 0) → K (if sm' then 1 else 0) I R) →
    (∀ s' w, xg_go m0 v (xg_rng F.1 a m) sm s = (s', some w) → ∀ I', xa_fr (yv_S now) I I' → yv_St g I' o now F.1 V s' → yv_DL I' (D ++ [(p, w)]) → (∀ j, j ≠ t → I' 158 j = I 158 j) → I' 158 t = w → I' 121 58 = nI (t + 1) → Q 1 I' R) →
    l_md_call_26 (nI m0) v (nI p) K Q (m + 1) (if sm then 1 else 0) (nI (100 * o + a)) I R := by
  intro m; induction m with
  | zero =>
    intro a sm _ ha h63 hK hQ
    unfold l_md_call_26
    rw [h63]
    exact xa_t ((nI_leI (by omega) (by omega)).mpr (by omega)) (hK sm rfl)
  | succ m ih =>
    intro a sm hgm ha h63 hK hQ
    have hgt : g = true := hgm.resolve_left (by omega)
    have hg : F.1[a]? = some F.1[a] := List.getElem?_eq_getElem (by omega)
    generalize F.1[a] = it at hg
    have hwi := hw it (List.mem_of_getElem? hg)
    have hin : vp_in (nI (100 * o + a)) 200 := vp_in_nI (by omega) (by omega)
    obtain ⟨ie, re⟩ := fm.1 a it hg
    unfold l_md_call_26
    rw [h63, h61, nI_clamp (by omega), ie.1]
    refine xa_f (fun hh => by have := (nI_leI (by omega) (by omega)).mp hh; omega) (xa_f (by decide) ⟨hin, ?_⟩)
    have er : xg_rng F.1 a (m + 1) = (if xi_k it = 7 then [(xi_nr (F.1.take a), it)] else []) ++ xg_rng F.1 (a + 1) m := by
      show (match F.1[a]? with
        | some it => if xi_k it = 7 then [(xi_nr (F.1.take a), it)] else []
        | none => []) ++ _ = _
      rw [hg]
    have nxt : ∀ sm2 : Bool, xg_go m0 v (xg_rng F.1 a (m + 1)) sm s = xg_go m0 v (xg_rng F.1 (a + 1) m) sm2 s → l_md_call_26 (nI m0) v (nI p) K Q (m + 1) (if sm2 then 1 else 0) (nI (100 * o + a) + 1) I R := by
      intro sm2 he
      rw [nI_1]
      exact ih (a + 1) sm2 (Or.inr hgt) (by omega) (by rw [h63]; congr 1; omega) (fun sm' h => hK sm' (he.trans h)) (fun s' w h => hQ s' w (he.trans h))
    have j251 : ∀ (b6 : Bool), xg_go m0 v (xg_rng F.1 a (m + 1)) sm s = xg_go m0 v (xg_rng F.1 (a + 1) m) (sm || b6) s → j_md_call_251 (fun y1 y2 I2 R1 => l_md_call_26 (nI m0) v (nI p) K Q (m + 1) y1 y2 I2 R1) Q (nI m0) v (nI p) (if sm then 1 else 0) (nI (100 * o + a)) (if b6 then 1 else 0) I R := by
      intro b6 he
      have n := nxt _ he
      unfold j_md_call_251
      cases sm with
      | true => exact xa_f' (by decide) n
      | false =>
        refine xa_t' rfl ?_
        cases b6 with
        | true => exact xa_f (by decide) n
        | false => exact xa_t rfl n
    have no : xg_go m0 v (xg_rng F.1 a (m + 1)) sm s = xg_go m0 v (xg_rng F.1 (a + 1) m) sm s → j_md_call_114 (fun y1 y2 I2 R1 => l_md_call_26 (nI m0) v (nI p) K Q (m + 1) y1 y2 I2 R1) Q (nI m0) v (nI p) (if sm then 1 else 0) (nI (100 * o + a)) I R := by
      intro he
      unfold j_md_call_114 j_md_call_115
      exact xa_t rfl (j251 false (by rw [Bool.or_false]; exact he))
    by_cases h7 : xi_k it = 7
    · refine xa_t' (xa_e 7 ((xk_kd7 hwi.1).mpr h7)) ⟨hin, ?_⟩
      have ww := hwi.2 h7
      obtain ⟨w1, w2, w3, w4, w5⟩ := ww
      obtain ⟨r1, r2, r3, r4, r5, r6, r7⟩ := re h7
      rw [if_pos h7] at er
      have hgo : xg_go m0 v (xg_rng F.1 a (m + 1)) sm s = (if xg_meets (xi_ru it) m0 v then (if xg_free (xi_ru it) (s (2 + xi_nr (F.1.take a))) then (xg_bump s (2 + xi_nr (F.1.take a)), some (xg_ans (xi_ru it) (s (2 + xi_nr (F.1.take a))).toNatClampNeg)) else xg_go m0 v (xg_rng F.1 (a + 1) m) true s) else xg_go m0 v (xg_rng F.1 (a + 1) m) sm s) := by rw [er]; rfl
      have no7 : xg_meets (xi_ru it) m0 v = false → j_md_call_114 (fun y1 y2 I2 R1 => l_md_call_26 (nI m0) v (nI p) K Q (m + 1) y1 y2 I2 R1) Q (nI m0) v (nI p) (if sm then 1 else 0) (nI (100 * o + a)) I R := by
        intro hm; rw [hm] at hgo; exact no hgo
      have yes7 : xg_meets (xi_ru it) m0 v = true → j_md_call_110 (fun y1 y2 I2 R1 => l_md_call_26 (nI m0) v (nI p) K Q (m + 1) y1 y2 I2 R1) Q (nI m0) v (nI p) (if sm then 1 else 0) (nI (100 * o + a)) I R := by
        intro hm
        rw [hm, if_pos rfl] at hgo
        obtain ⟨x, hx, ex⟩ := hB (xi_nr (F.1.take a))
        have hit : xg_free (xi_ru it) (s (2 + xi_nr (F.1.take a))) = true → j_md_call_149 Q (nI p) (nI (100 * o + a)) I R := by
          intro hf
          rw [hf, if_pos rfl, ex, nI_clamp (by omega)] at hgo
          subst hgt
          exact yv_149 hnow ho hil hal fm st hg h7 ex (by omega) ht htb dl hD (fun I' f st' d a1 a2 a3 => hQ _ _ hgo I' f st' d a1 a2 a3)
        unfold j_md_call_110 j_md_call_115
        refine xa_f (by decide) ⟨hin, ?_⟩
        rw [nI_clamp (by omega), r2]
        cases hmo : xi_mo (xi_ru it) with
        | none =>
          refine xa_t (by unfold xk_mo; decide) (hit ?_)
          unfold xg_free; rw [hmo]
        | some k =>
          have hk := w2 k hmo
          show (nI k < 0 → _) ∧ (¬ nI k < 0 → _)
          refine xa_f (nI_pos (by omega)) ⟨hin, hin, ?_⟩
          rw [st.2.2.2.2 hgt a it hg h7, ex]
          have hfr : xg_free (xi_ru it) (s (2 + xi_nr (F.1.take a))) = decide (nI x < nI k) := by unfold xg_free; rw [hmo, ex]
          by_cases hkx : k ≤ x
          · refine xa_t ((nI_leI (by omega) (by omega)).mpr hkx) (j251 true ?_)
            rw [Bool.or_true, hgo, hfr, if_neg (by simp; exact (nI_leI (by omega) (by omega)).mpr hkx)]
          · refine xa_f (fun hh => hkx ((nI_leI (by omega) (by omega)).mp hh)) (hit ?_)
            rw [hfr]; simp; exact (nI_ltI (by omega) (by omega)).mpr (by omega)
      rw [r3]
      unfold xg_meets at no7 yes7
      by_cases hwh : xi_wh (xi_ru it) = m0
      · refine xa_t' (by rw [hwh]) ⟨hin, ?_⟩
        rw [r4]
        by_cases hf : xi_ft (xi_ru it) = 0
        · exact xa_t (xa_e 0 hf) (yes7 (by simp [hwh, hf]))
        · refine xa_f (xa_ne 0 (by omega)) ⟨hin, ?_⟩
          have j91 : ∀ b1 : Bool, b1 = decide (xi_ft (xi_ru it) = 1) → j_md_call_91 (fun y1 y2 I2 R1 => l_md_call_26 (nI m0) v (nI p) K Q (m + 1) y1 y2 I2 R1) Q (nI m0) v (nI p) (if sm then 1 else 0) (nI (100 * o + a)) (if b1 then 1 else 0) I R := by
            intro b1 hb1
            unfold j_md_call_91 j_md_call_107
            rw [nI_clamp (by omega), r5]
            refine ⟨hin, ?_⟩
            by_cases hv : v = nI (xi_fg (xi_ru it))
            · refine xa_t' hv ?_
              cases b1 with
              | true => exact xa_t' rfl (yes7 (by simp [hwh, hf, hv, ← hb1]))
              | false => exact xa_f' (by decide) (no7 (by simp [hwh, hf, hv, ← hb1]))
            · refine xa_f' hv ?_
              cases b1 with
              | true => exact xa_f' (by decide) (no7 (by simp [hwh, hf, hv, ← hb1]))
              | false => exact xa_t' rfl (yes7 (by simp [hwh, hf, hv, ← hb1]))
          by_cases h1 : xi_ft (xi_ru it) = 1
          · exact xa_t' (xa_e 1 h1) (j91 true (by simp [h1]))
          · exact xa_f' (xa_ne 1 (by omega)) (j91 false (by simp [h1]))
      · exact xa_f' (fun e => hwh ((nI_eq (by omega) (by omega)).mp e)) (no7 (by simp [hwh]))
    · have hk7 := xk_kd7 hwi.1
      have hkb := xk_kd_b hwi.1
      refine xa_f' (xa_ne 7 ⟨fun e => h7 (hk7.mp e), by omega, by omega⟩) (no ?_)
      rw [er, if_neg h7]; rfl
theorem yv_HAc {a m : Nat} (hnow : now < 6) (ho : o ≤ 1) (hil : F.1.length ≤ 60) (hal : ((xi_rs F.1).flatMap xi_an).length ≤ 60) (hw : ∀ it, it ∈ F.1 → xi_k it < 9 ∧ (xi_k it = 7 → xg_RW (xi_ru it))) (ham : a + m ≤ F.1.length) (hgm : m = 0 ∨ g = true) : yv_HA g o now F.1 R V (xg_A (xg_rng F.1 a m)) (yv_E o F a m) := by
  intro I s b m0 p t v D Q hE st hB hb hm0 hp ht htb dl hD hs hn
  obtain ⟨fm, hfo⟩ := hE
  have hin : vp_in (nI (2 * now + m0)) 12 := vp_in_nI (by omega) (by omega)
  have hc : I 167 (2 * now + m0) = s m0 := by
    rcases (show m0 = 0 ∨ m0 = 1 by omega) with rfl | rfl
    · exact st.2.2.1
    · exact st.2.2.2.1
  unfold w_md_call
  rw [st.1, show (2 : Int32) * nI now = nI (2 * now) from pk_mul _ _, nI_add, nI_clamp (by omega), hc]
  refine ⟨hin, hin, xa_a ?_⟩
  have st1 : yv_St g (pw_wI I 167 (2 * now + m0) (s m0 + 1)) o now F.1 V (xg_bump s m0) := by
    refine ⟨by rw [xa_p (by decide)]; exact st.1, fun v hv => by rw [xa_p (by decide)]; exact st.2.1 v hv, ?_, ?_, fun hg j' it' hj' h7' => ?_⟩
    · rw [xa_w]; unfold xg_bump
      by_cases h : (0 : Nat) = m0
      · rw [if_pos ⟨rfl, by omega⟩, if_pos h, ← h]
      · rw [if_neg (by omega), if_neg h]; exact st.2.2.1
    · rw [xa_w]; unfold xg_bump
      by_cases h : (1 : Nat) = m0
      · rw [if_pos ⟨rfl, by omega⟩, if_pos h, ← h]
      · rw [if_neg (by omega), if_neg h]; exact st.2.2.2.1
    · rw [xa_p (by decide)]; unfold xg_bump; rw [if_neg (by omega)]; exact st.2.2.2.2 hg j' it' hj' h7'
  have hB1 : xv_B b (xg_bump s m0) := by
    intro r
    obtain ⟨x, hx, e⟩ := hB r
    unfold xg_bump
    rw [if_neg (by omega), e]; exact ⟨x, hx, rfl⟩
  have f1 : xa_fr (yv_S now) I (pw_wI I 167 (2 * now + m0) (s m0 + 1)) := xa_fr_w (xa_fr_r _ _) (by simp [yv_S]; omega)
  have hE1 := (yv_E_S (o := o) (F := F) (a := a) (m := m) _ _ f1 ⟨fm, hfo⟩)
  have ht1 : pw_wI I 167 (2 * now + m0) (s m0 + 1) 121 58 = nI t := by rw [xa_p (by decide)]; exact ht
  have dl1 : yv_DL (pw_wI I 167 (2 * now + m0) (s m0 + 1)) D := ⟨by rw [xa_p (by decide)]; exact dl.1, fun j e hj => by rw [xa_p (by decide), xa_p (by decide)]; exact dl.2 j e hj⟩
  have s1 : pw_wI I 167 (2 * now + m0) (s m0 + 1) 158 = I 158 := xa_p (by decide)
  generalize pw_wI I 167 (2 * now + m0) (s m0 + 1) = I1 at *
  have fin : ∀ sm' : Bool, xg_go m0 v (xg_rng F.1 a m) false (xg_bump s m0) = (xg_bump s m0, if sm' then none else some 0) → j_md_call_274 Q (nI p) (if sm' then 1 else 0) I1 R := by
    intro sm' he
    have eA : xg_A (xg_rng F.1 a m) s m0 v = (xg_bump s m0, if sm' then none else some 0) := he
    unfold j_md_call_274
    cases sm' with
    | false =>
      refine xa_t rfl (yv_give ht1 htb dl1 (fun I2 g2 d2 a2 b2 c2 => yv_draw d2 hD (fun I3 g3 d3 a3 c3 => hs 0 (by rw [eA]; rfl) I3 (xa_fr_t f1 (xa_fr_t (yv_SN_f g2) (yv_SN_f g3))) (by rw [eA]; exact yv_St_N (yv_St_N st1 g2) g3) d3 (fun j hj => ?_) ?_ (c3.trans c2))))
      · rw [a3, a2 j hj, s1]
      · rw [a3, b2]
    | true =>
      refine xa_f (by decide) ?_
      unfold w_md_trouble
      refine xa_a (xa_a (hn (by rw [eA]; rfl) _ (xa_fr_t f1 (xa_fr_w (xa_fr_w (xa_fr_r _ _) rfl) rfl)) ?_ ?_ ?_))
      · rw [eA]
        exact yv_St_T st1 (fun p k hp => by rw [xa_p hp, xa_p hp]) (fun k a b c => by rw [xa_w, if_neg (by omega), xa_w, if_neg (by omega)])
      · rw [xa_w, if_neg (by decide), xa_w, if_pos ⟨rfl, rfl⟩]
      · rw [xa_w, if_pos ⟨rfl, rfl⟩]
  rcases hE1.2 with ⟨hm, h61⟩ | ⟨h61, h62, h63⟩
  · subst hm
    refine ⟨1, ?_⟩
    have k := fin false rfl
    unfold l_md_call_26
    exact ⟨fun _ => k, fun _ => xa_t h61 k⟩
  · rw [h62]
    refine ⟨m + 1, yv_callL (sm := false) hnow ho hil hal hw hE1.1 st1 hB1 (by omega) hm0 ht1 htb dl1 hD h61 m a hgm ham h63 fin (fun s' w he I' f' st' d a1 a2 a3 => ?_)⟩
    have eA : xg_A (xg_rng F.1 a m) s m0 v = (s', some w) := he
    exact hs w (by rw [eA]) I' (xa_fr_t f1 f') (by rw [eA]; exact st') d (fun j hj => by rw [a1 j hj, s1]) a2 a3
end
