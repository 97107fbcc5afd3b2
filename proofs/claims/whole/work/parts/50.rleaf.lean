/-! THE REFERENCE'S READER: small rows -/
def xr_TK (I : pI) (ts : List (Nat × Nat × Nat × Nat)) (L : Nat) : Prop := xt_WF ts L ∧ ∀ i, i < ts.length + 6 → I 123 i = nI (xt_ka (xt_kd ts L i)) ∧ (xt_kd ts L i ≠ 257 → I 124 i = nI (xt_nm ts L i)) ∧ I 125 i = nI (xt_pl ts L i) ∧ I 126 i = nI (xt_en ts L i)
theorem xr_TK_mk {I : pI} {ts : List (Nat × Nat × Nat × Nat)} {L : Nat} (w : xt_WF ts L) (h : xt_TR I (ts ++ List.replicate 6 (256, 0, L, L))) : xr_TK I ts L := by
  refine ⟨w, fun i hi => ?_⟩
  have e : (ts ++ List.replicate 6 (256, 0, L, L))[i]? = some (xt_at ts L i) := by
    by_cases h1 : i < ts.length
    · rw [List.getElem?_append_left h1]; exact xt_at_lt h1
    · rw [List.getElem?_append_right (by omega), List.getElem?_replicate, if_pos (by omega), xt_at_ge (by omega)]
  exact h.2 i _ e
theorem xr_TK_fr {S : Nat → Nat → Bool} {I I' : pI} {ts : List (Nat × Nat × Nat × Nat)} {L : Nat} (h : xr_TK I ts L) (fr : xa_fr S I I') (hs : ∀ p k, 123 ≤ p → p ≤ 126 → S p k = false) : xr_TK I' ts L := by
  refine ⟨h.1, fun i hi => ?_⟩
  rw [fr 123 i (hs _ _ (by decide) (by decide)), fr 124 i (hs _ _ (by decide) (by decide)), fr 125 i (hs _ _ (by decide) (by decide)), fr 126 i (hs _ _ (by decide) (by decide))]
  exact h.2 i hi
def xr_WS (I : pI) : List (Nat × Nat × Nat) → Prop
  | [] => True
  | e :: W => I 150 W.length = nI e.1 ∧ I 151 W.length = nI e.2.1 ∧ I 152 W.length = nI e.2.2 ∧ xr_WS I W
theorem xr_WS_fr {I I' : pI} : ∀ {W : List (Nat × Nat × Nat)}, xr_WS I W → (∀ p k, 150 ≤ p → p ≤ 152 → k < W.length → I' p k = I p k) → xr_WS I' W := by
  intro W; induction W with
  | nil => intro _ _; trivial
  | cons e W ih =>
    intro h f
    refine ⟨?_, ?_, ?_, ih h.2.2.2 (fun p k a b c => f p k a b (by simp; omega))⟩
    · rw [f 150 _ (by decide) (by decide) (by simp)]; exact h.1
    · rw [f 151 _ (by decide) (by decide) (by simp)]; exact h.2.1
    · rw [f 152 _ (by decide) (by decide) (by simp)]; exact h.2.2.1
def xr_CD (I : pI) (b : Nat) (c : List xp_I) : Prop := ∀ i e, c[i]? = some e → I 128 (b + i) = nI e.1 ∧ I 129 (b + i) = nI (if e.2.2.1 = 0 then e.2.1 else b + i + e.2.2.1) ∧ I 130 (b + i) = nI e.2.2.2
theorem xr_CD_fr {I I' : pI} {b : Nat} {c : List xp_I} (h : xr_CD I b c) (f : ∀ p k, 128 ≤ p → p ≤ 130 → b ≤ k → k < b + c.length → I' p k = I p k) : xr_CD I' b c := by
  intro i e hi
  have hl : i < c.length := by
    rcases Nat.lt_or_ge i c.length with h | h
    · exact h
    · rw [List.getElem?_eq_none h] at hi; cases hi
  rw [f 128 _ (by decide) (by decide) (by omega) (by omega), f 129 _ (by decide) (by decide) (by omega) (by omega), f 130 _ (by decide) (by decide) (by omega) (by omega)]
  exact h i e hi
def xr_EV (I : pI) (ev : List (Nat × Nat × Nat × Int32)) : Prop := I 121 47 = nI ev.length ∧ ∀ i e, ev[i]? = some e → I 153 i = nI e.1 ∧ I 154 i = nI e.2.1 ∧ I 155 i = nI e.2.2.1 ∧ I 156 i = e.2.2.2
theorem xr_EV_fr {I I' : pI} {ev : List (Nat × Nat × Nat × Int32)} (h : xr_EV I ev) (f0 : I' 121 47 = I 121 47) (f : ∀ p k, 153 ≤ p → p ≤ 156 → I' p k = I p k) : xr_EV I' ev := by
  refine ⟨f0.trans h.1, fun i e hi => ?_⟩
  rw [f 153 _ (by decide) (by decide), f 154 _ (by decide) (by decide), f 155 _ (by decide) (by decide), f 156 _ (by decide) (by decide)]
  exact h.2 i e hi
def xr_ST (I : pI) (b p : Nat) (W : List (Nat × Nat × Nat)) (G : List xp_I) (dp mk ib : Nat) (sd : Int32) (ev : List (Nat × Nat × Nat × Int32)) : Prop :=
  I 121 7 = nI p ∧ I 121 39 = nI W.length ∧ xr_WS I W ∧ I 121 15 = nI (b + G.length) ∧ xr_CD I b G ∧ I 121 43 = nI dp ∧ I 121 44 = nI mk ∧ I 121 45 = nI ib ∧ I 121 46 = sd ∧ xr_EV I ev
def xr_S (b p k : Nat) : Bool := (p == 121 && (k == 7 || k == 8 || k == 15 || k == 39 || k == 43 || k == 44 || k == 45 || k == 46 || k == 47)) || ((p == 128 || p == 129 || p == 130) && decide (b ≤ k) && decide (k < b + 400)) || (p == 150 || p == 151 || p == 152 || p == 153 || p == 154 || p == 155 || p == 156)
theorem xr_S_tk {b : Nat} : ∀ p k, 123 ≤ p → p ≤ 126 → xr_S b p k = false := by
  intro p k h1 h2
  simp only [xr_S, Bool.or_eq_false_iff, Bool.and_eq_false_iff, beq_eq_false_iff_ne, decide_eq_false_iff_not]
  omega
theorem xr_w7 {I : pI} {b p dp mk ib : Nat} {W : List (Nat × Nat × Nat)} {G : List xp_I} {sd : Int32} {ev : List (Nat × Nat × Nat × Int32)} (p' : Nat) (st : xr_ST I b p W G dp mk ib sd ev) : xr_ST (pw_wI I 121 7 (nI p')) b p' W G dp mk ib sd ev ∧ xa_fr (xr_S b) I (pw_wI I 121 7 (nI p')) := by
  obtain ⟨h0, h1, h2, h3, h4, h5, h6, h7, h8, h9⟩ := st
  exact ⟨⟨by rw [xa_w, if_pos ⟨rfl, rfl⟩], by rw [xa_w, if_neg (by decide)]; exact h1, xr_WS_fr h2 (fun q k a b _ => by rw [xa_p (by omega)]), by rw [xa_w, if_neg (by decide)]; exact h3, xr_CD_fr h4 (fun q k a b _ _ => by rw [xa_p (by omega)]), by rw [xa_w, if_neg (by decide)]; exact h5, by rw [xa_w, if_neg (by decide)]; exact h6, by rw [xa_w, if_neg (by decide)]; exact h7, by rw [xa_w, if_neg (by decide)]; exact h8, xr_EV_fr h9 (by rw [xa_w, if_neg (by decide)]) (fun q k a b => by rw [xa_p (by omega)])⟩, xa_fr_w (xa_fr_r _ _) rfl⟩
theorem xr_w43 {I : pI} {b p dp mk ib : Nat} {W : List (Nat × Nat × Nat)} {G : List xp_I} {sd : Int32} {ev : List (Nat × Nat × Nat × Int32)} (dp' : Nat) (st : xr_ST I b p W G dp mk ib sd ev) : xr_ST (pw_wI I 121 43 (nI dp')) b p W G dp' mk ib sd ev ∧ xa_fr (xr_S b) I (pw_wI I 121 43 (nI dp')) := by
  obtain ⟨h0, h1, h2, h3, h4, h5, h6, h7, h8, h9⟩ := st
  exact ⟨⟨by rw [xa_w, if_neg (by decide)]; exact h0, by rw [xa_w, if_neg (by decide)]; exact h1, xr_WS_fr h2 (fun q k a b _ => by rw [xa_p (by omega)]), by rw [xa_w, if_neg (by decide)]; exact h3, xr_CD_fr h4 (fun q k a b _ _ => by rw [xa_p (by omega)]), by rw [xa_w, if_pos ⟨rfl, rfl⟩], by rw [xa_w, if_neg (by decide)]; exact h6, by rw [xa_w, if_neg (by decide)]; exact h7, by rw [xa_w, if_neg (by decide)]; exact h8, xr_EV_fr h9 (by rw [xa_w, if_neg (by decide)]) (fun q k a b => by rw [xa_p (by omega)])⟩, xa_fr_w (xa_fr_r _ _) rfl⟩
theorem xr_w44 {I : pI} {b p dp mk ib : Nat} {W : List (Nat × Nat × Nat)} {G : List xp_I} {sd : Int32} {ev : List (Nat × Nat × Nat × Int32)} (mk' : Nat) (st : xr_ST I b p W G dp mk ib sd ev) : xr_ST (pw_wI I 121 44 (nI mk')) b p W G dp mk' ib sd ev ∧ xa_fr (xr_S b) I (pw_wI I 121 44 (nI mk')) := by
  obtain ⟨h0, h1, h2, h3, h4, h5, h6, h7, h8, h9⟩ := st
  exact ⟨⟨by rw [xa_w, if_neg (by decide)]; exact h0, by rw [xa_w, if_neg (by decide)]; exact h1, xr_WS_fr h2 (fun q k a b _ => by rw [xa_p (by omega)]), by rw [xa_w, if_neg (by decide)]; exact h3, xr_CD_fr h4 (fun q k a b _ _ => by rw [xa_p (by omega)]), by rw [xa_w, if_neg (by decide)]; exact h5, by rw [xa_w, if_pos ⟨rfl, rfl⟩], by rw [xa_w, if_neg (by decide)]; exact h7, by rw [xa_w, if_neg (by decide)]; exact h8, xr_EV_fr h9 (by rw [xa_w, if_neg (by decide)]) (fun q k a b => by rw [xa_p (by omega)])⟩, xa_fr_w (xa_fr_r _ _) rfl⟩
theorem xr_w45 {I : pI} {b p dp mk ib : Nat} {W : List (Nat × Nat × Nat)} {G : List xp_I} {sd : Int32} {ev : List (Nat × Nat × Nat × Int32)} (ib' : Nat) (st : xr_ST I b p W G dp mk ib sd ev) : xr_ST (pw_wI I 121 45 (nI ib')) b p W G dp mk ib' sd ev ∧ xa_fr (xr_S b) I (pw_wI I 121 45 (nI ib')) := by
  obtain ⟨h0, h1, h2, h3, h4, h5, h6, h7, h8, h9⟩ := st
  exact ⟨⟨by rw [xa_w, if_neg (by decide)]; exact h0, by rw [xa_w, if_neg (by decide)]; exact h1, xr_WS_fr h2 (fun q k a b _ => by rw [xa_p (by omega)]), by rw [xa_w, if_neg (by decide)]; exact h3, xr_CD_fr h4 (fun q k a b _ _ => by rw [xa_p (by omega)]), by rw [xa_w, if_neg (by decide)]; exact h5, by rw [xa_w, if_neg (by decide)]; exact h6, by rw [xa_w, if_pos ⟨rfl, rfl⟩], by rw [xa_w, if_neg (by decide)]; exact h8, xr_EV_fr h9 (by rw [xa_w, if_neg (by decide)]) (fun q k a b => by rw [xa_p (by omega)])⟩, xa_fr_w (xa_fr_r _ _) rfl⟩
theorem xr_w46 {I : pI} {b p dp mk ib : Nat} {W : List (Nat × Nat × Nat)} {G : List xp_I} {sd : Int32} {ev : List (Nat × Nat × Nat × Int32)} (sd' : Int32) (st : xr_ST I b p W G dp mk ib sd ev) : xr_ST (pw_wI I 121 46 (sd')) b p W G dp mk ib sd' ev ∧ xa_fr (xr_S b) I (pw_wI I 121 46 (sd')) := by
  obtain ⟨h0, h1, h2, h3, h4, h5, h6, h7, h8, h9⟩ := st
  exact ⟨⟨by rw [xa_w, if_neg (by decide)]; exact h0, by rw [xa_w, if_neg (by decide)]; exact h1, xr_WS_fr h2 (fun q k a b _ => by rw [xa_p (by omega)]), by rw [xa_w, if_neg (by decide)]; exact h3, xr_CD_fr h4 (fun q k a b _ _ => by rw [xa_p (by omega)]), by rw [xa_w, if_neg (by decide)]; exact h5, by rw [xa_w, if_neg (by decide)]; exact h6, by rw [xa_w, if_neg (by decide)]; exact h7, by rw [xa_w, if_pos ⟨rfl, rfl⟩], xr_EV_fr h9 (by rw [xa_w, if_neg (by decide)]) (fun q k a b => by rw [xa_p (by omega)])⟩, xa_fr_w (xa_fr_r _ _) rfl⟩
theorem xr_fail {I : pI} {R : pR} {L p : Nat} {ts : List (Nat × Nat × Nat × Nat)} {Q : Int32 → pI → pR → Prop} (tk : xr_TK I ts L) (hp : I 121 7 = nI p) (h6 : p < ts.length + 6) (h : Q 0 (pw_wI I 121 8 (nI (xt_pl ts L p))) R) : w_md_fail I R Q := by
  have := tk.1.1; have := tk.1.2.1
  unfold w_md_fail
  rw [hp, nI_clamp (by omega), (tk.2 p h6).2.2.1]
  exact ⟨vp_in_nI (by omega) (by omega), xa_a h⟩
theorem xr_emit {I : pI} {R : pR} {b p dp mk ib o a sp : Nat} {W : List (Nat × Nat × Nat)} {G : List xp_I} {sd : Int32} {ev : List (Nat × Nat × Nat × Int32)} {Q : pI → pR → Prop} (hb4 : b ≤ 400) (st : xr_ST I b p W G dp mk ib sd ev) (hb : b + G.length < b + 400)
    (h : ∀ I', xr_ST I' b p W (G ++ [(o, a, 0, sp)]) dp mk ib sd ev → xa_fr (xr_S b) I I' → Q I' R) : w_md_emit (nI o) (nI a) (nI sp) I R Q := by
  obtain ⟨h0, h1, h2, h3, h4, h5, h6, h7, h8, h9⟩ := st
  have hv : vp_in (nI (b + G.length)) 800 := vp_in_nI (by omega) (by decide)
  have hc : (nI (b + G.length)).toNatClampNeg = b + G.length := nI_clamp (by omega)
  unfold w_md_emit
  rw [h3, hc]
  refine ⟨hv, fun I1 e1 => ?_⟩
  have s1 : I1 121 15 = nI (b + G.length) := by rw [e1, xa_w]; simp [h3]
  rw [s1, hc]
  refine ⟨hv, fun I2 e2 => ?_⟩
  have s2 : I2 121 15 = nI (b + G.length) := by rw [e2, xa_w]; simp [s1]
  rw [s2, hc]
  refine ⟨hv, fun I3 e3 => ?_⟩
  have s3 : I3 121 15 = nI (b + G.length) := by rw [e3, xa_w]; simp [s2]
  rw [s3, nI_1]
  intro I4 e4
  have hI : ∀ p' i, I4 p' i = (if p' = 121 ∧ i = 15 then nI (b + G.length + 1) else if p' = 130 ∧ i = b + G.length then nI sp else if p' = 129 ∧ i = b + G.length then nI a else if p' = 128 ∧ i = b + G.length then nI o else I p' i) := by
    intro p' i; rw [e4, xa_w, e3, xa_w, e2, xa_w, e1, xa_w]
  refine h I4 ⟨by rw [hI]; simpa using h0, by rw [hI]; simpa using h1, xr_WS_fr h2 (fun q k a b c => by rw [hI, if_neg (by omega), if_neg (by omega), if_neg (by omega), if_neg (by omega)]), ?_, ?_, by rw [hI]; simpa using h5, by rw [hI]; simpa using h6, by rw [hI]; simpa using h7, by rw [hI]; simpa using h8, xr_EV_fr h9 (by rw [hI]; simp) (fun q k a b => by rw [hI, if_neg (by omega), if_neg (by omega), if_neg (by omega), if_neg (by omega)])⟩ ?_
  · rw [hI]; simp; congr 1
  · intro i e hi
    rcases xa_app hi with ⟨hi', hl⟩ | ⟨hi', he⟩
    · have := h4 i e hi'
      simp only [hI]
      simp only [show ¬ (b + i = b + G.length) by omega, and_false, if_false]
      simpa using this
    · subst hi'; rw [he]; simp [hI]
  · rw [e4, e3, e2, e1]
    refine xa_fr_w (xa_fr_w (xa_fr_w (xa_fr_w (xa_fr_r _ _) ?_) ?_) ?_) rfl <;> (simp [xr_S]; omega)
theorem xr_push {I : pI} {R : pR} {b p dp mk ib o a f : Nat} {W : List (Nat × Nat × Nat)} {G : List xp_I} {sd : Int32} {ev : List (Nat × Nat × Nat × Int32)} {Q : pI → pR → Prop} (st : xr_ST I b p W G dp mk ib sd ev) (hb : W.length < 64)
    (h : ∀ I', xr_ST I' b p ((o, a, f) :: W) G dp mk ib sd ev → xa_fr (xr_S b) I I' → Q I' R) : w_md_push (nI o) (nI a) (nI f) I R Q := by
  obtain ⟨h0, h1, h2, h3, h4, h5, h6, h7, h8, h9⟩ := st
  have hv : vp_in (nI W.length) 64 := vp_in_nI hb (by decide)
  have hc : (nI W.length).toNatClampNeg = W.length := nI_clamp (by omega)
  unfold w_md_push
  rw [h1, hc]
  refine ⟨hv, fun I1 e1 => ?_⟩
  have s1 : I1 121 39 = nI W.length := by rw [e1, xa_w]; simp [h1]
  rw [s1, hc]
  refine ⟨hv, fun I2 e2 => ?_⟩
  have s2 : I2 121 39 = nI W.length := by rw [e2, xa_w]; simp [s1]
  rw [s2, hc]
  refine ⟨hv, fun I3 e3 => ?_⟩
  have s3 : I3 121 39 = nI W.length := by rw [e3, xa_w]; simp [s2]
  rw [s3, nI_1]
  intro I4 e4
  have hI : ∀ p' i, I4 p' i = (if p' = 121 ∧ i = 39 then nI (W.length + 1) else if p' = 152 ∧ i = W.length then nI f else if p' = 151 ∧ i = W.length then nI a else if p' = 150 ∧ i = W.length then nI o else I p' i) := by
    intro p' i; rw [e4, xa_w, e3, xa_w, e2, xa_w, e1, xa_w]
  refine h I4 ⟨by rw [hI]; simpa using h0, by rw [hI]; simp, ⟨by rw [hI]; simp, by rw [hI]; simp, by rw [hI]; simp, xr_WS_fr h2 (fun q k a b c => by rw [hI, if_neg (by omega), if_neg (by omega), if_neg (by omega), if_neg (by omega)])⟩, by rw [hI]; simpa using h3, xr_CD_fr h4 (fun q k a b _ _ => by rw [hI, if_neg (by omega), if_neg (by omega), if_neg (by omega), if_neg (by omega)]), by rw [hI]; simpa using h5, by rw [hI]; simpa using h6, by rw [hI]; simpa using h7, by rw [hI]; simpa using h8, xr_EV_fr h9 (by rw [hI]; simp) (fun q k a b => by rw [hI, if_neg (by omega), if_neg (by omega), if_neg (by omega), if_neg (by omega)])⟩ ?_
  rw [e4, e3, e2, e1]
  refine xa_fr_w (xa_fr_w (xa_fr_w (xa_fr_w (xa_fr_r _ _) ?_) ?_) ?_) rfl <;> simp [xr_S]
theorem xr_pop {I : pI} {b p dp mk ib : Nat} {e : Nat × Nat × Nat} {W : List (Nat × Nat × Nat)} {G : List xp_I} {sd : Int32} {ev : List (Nat × Nat × Nat × Int32)} (st : xr_ST I b p (e :: W) G dp mk ib sd ev) :
    xr_ST (pw_wI I 121 39 (nI W.length)) b p W G dp mk ib sd ev ∧ xa_fr (xr_S b) I (pw_wI I 121 39 (nI W.length)) := by
  obtain ⟨h0, h1, h2, h3, h4, h5, h6, h7, h8, h9⟩ := st
  exact ⟨⟨by rw [xa_w, if_neg (by decide)]; exact h0, by rw [xa_w, if_pos ⟨rfl, rfl⟩], xr_WS_fr h2.2.2.2 (fun q k a b _ => by rw [xa_p (by omega)]), by rw [xa_w, if_neg (by decide)]; exact h3, xr_CD_fr h4 (fun q k a b _ _ => by rw [xa_p (by omega)]), by rw [xa_w, if_neg (by decide)]; exact h5, by rw [xa_w, if_neg (by decide)]; exact h6, by rw [xa_w, if_neg (by decide)]; exact h7, by rw [xa_w, if_neg (by decide)]; exact h8, xr_EV_fr h9 (by rw [xa_w, if_neg (by decide)]) (fun q k a b => by rw [xa_p (by omega)])⟩, xa_fr_w (xa_fr_r _ _) rfl⟩
def xr_rk (o : Nat) : Nat := if o = 133 then 1 else if o = 132 then 2 else if (128 ≤ o ∧ o ≤ 131) ∨ o = 60 ∨ o = 62 then 3 else if o = 43 ∨ o = 45 then 4 else if o = 42 ∨ o = 47 ∨ o = 37 then 5 else 0
theorem xr_rk_le (o : Nat) : xr_rk o ≤ 5 := by
  unfold xr_rk
  repeat' split
  all_goals decide
theorem xr_rank {o : Nat} (ho : o < 2 ^ 31) {I : pI} {R : pR} {Q : Int32 → pI → pR → Prop} : w_md_rank (nI o) I R Q ↔ Q (nI (xr_rk o)) I R := by
  unfold w_md_rank j_md_rank_32
  simp (disch := omega) only [xa_l37, xa_l42, xa_l43, xa_l45, xa_l47, xa_l60, xa_l62, xa_l128, xa_l131, xa_l132, xa_l133, nI_eq, nI_ltI, nI_leI]
  by_cases h : o = 133 ∨ o = 132 ∨ o = 60 ∨ o = 62 ∨ o = 43 ∨ o = 45 ∨ o = 42 ∨ o = 47 ∨ o = 37
  · rcases h with rfl | rfl | rfl | rfl | rfl | rfl | rfl | rfl | rfl <;> simp [xr_rk] <;> rfl
  · by_cases h2 : 128 ≤ o ∧ o ≤ 131
    · have e : xr_rk o = 3 := by
        unfold xr_rk
        rw [if_neg (by omega), if_neg (by omega), if_pos (by omega)]
      rw [e]
      simp [show ¬ o = 133 by omega, show ¬ o = 132 by omega, show ¬ o < 128 by omega, show o ≤ 131 by omega]; rfl
    · have e : xr_rk o = 0 := by
        unfold xr_rk
        rw [if_neg (by omega), if_neg (by omega), if_neg (by omega), if_neg (by omega), if_neg (by omega)]
      rw [e]
      by_cases h3 : o < 128
      · simp [show ¬ o = 133 by omega, show ¬ o = 132 by omega, h3, show ¬ o = 60 by omega, show ¬ o = 62 by omega, show ¬ o = 43 by omega, show ¬ o = 45 by omega, show ¬ o = 42 by omega, show ¬ o = 47 by omega, show ¬ o = 37 by omega]; rfl
      · simp [show ¬ o = 133 by omega, show ¬ o = 132 by omega, h3, show ¬ o ≤ 131 by omega, show ¬ o = 60 by omega, show ¬ o = 62 by omega, show ¬ o = 43 by omega, show ¬ o = 45 by omega, show ¬ o = 42 by omega, show ¬ o = 47 by omega, show ¬ o = 37 by omega]; rfl
theorem xr_rk_ka {ts : List (Nat × Nat × Nat × Nat)} {L i : Nat} (w : xt_WF ts L) : xr_rk (xt_ka (xt_kd ts L i)) = (if xp_lev (xt_kd ts L i) = 9 then 0 else xp_lev (xt_kd ts L i) + 1) := by
  have h : xt_kd ts L i = 256 ∨ xt_kd ts L i < 127 ∨ (257 ≤ xt_kd ts L i ∧ xt_kd ts L i ≤ 266) := by
    by_cases hi : i < ts.length
    · have := (w.2.2 i hi).1
      unfold xt_kd; unfold xt_gd at this; omega
    · left; unfold xt_kd; rw [xt_at_ge (by omega)]
  generalize xt_kd ts L i = k at h ⊢
  by_cases h2 : 257 ≤ k
  · have h3 : k = 257 ∨ k = 258 ∨ k = 259 ∨ k = 260 ∨ k = 261 ∨ k = 262 ∨ k = 263 ∨ k = 264 ∨ k = 265 ∨ k = 266 := by omega
    rcases h3 with rfl | rfl | rfl | rfl | rfl | rfl | rfl | rfl | rfl | rfl <;> decide
  · by_cases h3 : k = 256
    · subst h3; decide
    · rw [xt_ka_lt (by omega)]
      by_cases h4 : k = 60 ∨ k = 62 ∨ k = 43 ∨ k = 45 ∨ k = 42 ∨ k = 47 ∨ k = 37
      · rcases h4 with rfl | rfl | rfl | rfl | rfl | rfl | rfl <;> decide
      · have e1 : xr_rk k = 0 := by
          unfold xr_rk
          rw [if_neg (by omega), if_neg (by omega), if_neg (by omega), if_neg (by omega), if_neg (by omega)]
        have e2 : xp_lev k = 9 := by
          unfold xp_lev
          rw [if_neg (by omega), if_neg (by omega), if_neg (by omega), if_neg (by omega), if_neg (by omega)]
        rw [e1, e2]; rfl
