/-- between expressions: where the reference stands -/
def xr_IT (I : pI) (b p : Nat) (G : List xp_I) (ev : List (Nat × Nat × Nat × Int32)) : Prop := I 121 7 = nI p ∧ I 121 15 = nI (b + G.length) ∧ xr_CD I b G ∧ xr_EV I ev
theorem xr_IT_of {I : pI} {b p dp mk ib : Nat} {W : List (Nat × Nat × Nat)} {G : List xp_I} {sd : Int32} {ev : List (Nat × Nat × Nat × Int32)} (st : xr_ST I b p W G dp mk ib sd ev) : xr_IT I b p G ev := ⟨st.1, st.2.2.2.1, st.2.2.2.2.1, st.2.2.2.2.2.2.2.2.2⟩
theorem xr_expr {I : pI} {R : pR} {ts : List (Nat × Nat × Nat × Nat)} {L b lv p : Nat} {ok : Bool} {f2 rc : Int32} {G : List xp_I} {ev : List (Nat × Nat × Nat × Int32)} {Q : Int32 → pI → pR → Prop} (hb4 : b ≤ 400) (hlv : lv ≤ 4) (tk : xr_TK I ts L) (hrc : I 121 52 = rc) (it : xr_IT I b p G ev) (hp : p ≤ ts.length) (hg : G.length ≤ xt_pl ts L p) (hev : ev.length ≤ xt_pl ts L p) (hok : ok = true ↔ ¬ f2 = 0)
    (h1 : ∀ p' x, xp_P (xt_kd ts L) (xt_nm ts L) (xt_pl ts L) 64 0 lv 0 ok p = .inr (p', x) → ∀ I', xr_IT I' b p' (G ++ x.2.1) (ev ++ xr_uv rc x.2.2.2.1) → xa_fr (xr_S b) I I' → Q 1 I' R)
    (h2 : ∀ g, xp_P (xt_kd ts L) (xt_nm ts L) (xt_pl ts L) 64 0 lv 0 ok p = .inl g → ∀ I', I' 121 8 = nI (xt_pl ts L g) → xa_fr (xr_S b) I I' → Q 0 I' R) : w_md_expression (nI (lv + 1)) f2 I R Q := by
  have w := tk.1
  have hT := w.2.1
  have hL := w.1
  obtain ⟨i0, i1, i2, i3⟩ := it
  unfold w_md_expression
  refine xa_a (xa_a (xa_a (xa_a (xa_a ?_))))
  have hI : ∀ p' i, (pw_wI (pw_wI (pw_wI (pw_wI (pw_wI I 121 39 0) 121 43 0) 121 44 0) 121 45 0) 121 46 1) p' i = (if p' = 121 ∧ i = 46 then 1 else if p' = 121 ∧ i = 45 then 0 else if p' = 121 ∧ i = 44 then 0 else if p' = 121 ∧ i = 43 then 0 else if p' = 121 ∧ i = 39 then 0 else I p' i) := by
    intro p' i; rw [xa_w, xa_w, xa_w, xa_w, xa_w]
  have fr0 : xa_fr (xr_S b) I (pw_wI (pw_wI (pw_wI (pw_wI (pw_wI I 121 39 0) 121 43 0) 121 44 0) 121 45 0) 121 46 1) :=
    xa_fr_w (xa_fr_w (xa_fr_w (xa_fr_w (xa_fr_w (xa_fr_r _ _) rfl) rfl) rfl) rfl) rfl
  generalize pw_wI (pw_wI (pw_wI (pw_wI (pw_wI I 121 39 0) 121 43 0) 121 44 0) 121 45 0) 121 46 1 = I5 at hI fr0 ⊢
  have st : xr_ST I5 b p ([] ++ []) G 0 0 0 1 ev := by
    refine ⟨by rw [hI]; simpa using i0, by rw [hI]; simp; rfl, trivial, by rw [hI]; simpa using i1, xr_CD_fr i2 (fun q k a b _ _ => by rw [hI, if_neg (by omega), if_neg (by omega), if_neg (by omega), if_neg (by omega), if_neg (by omega)]), by rw [hI]; simp; rfl, by rw [hI]; simp; rfl, by rw [hI]; simp; rfl, by rw [hI]; simp, xr_EV_fr i3 (by rw [hI]; simp) (fun q k a b => by rw [hI, if_neg (by omega), if_neg (by omega), if_neg (by omega), if_neg (by omega), if_neg (by omega)])⟩
  have tk5 := xr_TK_fr tk fr0 xr_S_tk
  have hrc5 : I5 121 52 = rc := by rw [fr0 121 52 xr_S_52]; exact hrc
  refine ⟨ts.length + 2, xr_pg (R := R) (rc := rc) hb4 (by omega : lv + 1 ≤ 10) 64 64 0 lv 0 ok p [] [] G 0 0 ev I5 (by omega) (by omega) (fun h => by omega) (fun _ => rfl) (by omega) (by omega) (by unfold xc_mu; simp; omega) tk5 hrc5 st hp (by simpa using hg) hev (by simp) (by simp) (by simp) (fun e W' he => by cases he) (fun _ => Or.inr (Nat.le_refl _)) (by simp [hok]) (by omega) (by omega) (fun _ p' x hx I' E G' st' eo hr hE hG fr => ?_) (fun h => absurd rfl h) (fun g hg I' f' fr' => h2 g hg I' f' (xa_fr_t fr0 fr')) (ts.length + 2) (by omega)⟩
  have hlx := xp_len w (by omega) (by omega) hx
  have hpb := xt_pl_b w (i := p')
  have hnx := xp_nx w _ _ _ _ _ _ _ (by omega) hx
  have hrl := xr_red_len b E G'
  rw [hr, List.length_append] at hrl
  intro m hm
  obtain ⟨m, rfl⟩ : ∃ m1, m = m1 + 2 := ⟨m - 2, by omega⟩
  refine xr_fin (xr_TK_fr tk5 fr xr_S_tk) st' hlx.2.1 (by omega) (by omega) ?_
  refine xr_reduce hb4 (k := 1) st' (by omega) (fun e W' he => by cases he) (fun e he => by have := eo e he; exact ⟨by omega, this.2⟩) (by simp; omega) (by omega) (fun I2 st2 fr2 => ?_)
  rw [hr] at st2
  exact h1 p' x hx I2 (xr_IT_of st2) (xa_fr_t fr0 (xa_fr_t fr fr2))
