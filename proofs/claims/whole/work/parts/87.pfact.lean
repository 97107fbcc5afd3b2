/-! WHAT IS KNOWN OF AN EXPRESSION -/
theorem xt_var_b {ts : List (Nat × Nat × Nat × Nat)} {L i : Nat} (w : xt_WF ts L) (h : xt_kd ts L i = 259) : xt_nm ts L i < 26 := by
  have hi := xt_kd_lt w (i := i) (by omega)
  have := (w.2.2 i hi).1
  unfold xt_kd at h; unfold xt_nm; unfold xt_gd at this; omega
theorem xt_pl_lt {ts : List (Nat × Nat × Nat × Nat)} {L i : Nat} (w : xt_WF ts L) (h : i < ts.length) : xt_pl ts L i < 120 := by
  have := w.2.2 i h
  have := w.1
  omega
theorem xt_pl_sm {ts : List (Nat × Nat × Nat × Nat)} {L i j : Nat} (w : xt_WF ts L) (hj : j ≤ ts.length) (h : i < j) : xt_pl ts L i < xt_pl ts L j := by
  have h1 := w.2.2 i (by omega)
  have h2 := xt_pl_mono w (i + 1) j (by omega)
  omega
def xf_CE (e : xp_I) : Prop := e.1 < 8 ∧ e.2.1 < 20000 ∧ (e.1 = 1 → e.2.1 < 26) ∧ (e.1 = 4 → e.2.1 ≤ 1)
def xf_GE (e : xp_I) : Prop := e.1 < 300 ∧ e.2.1 < 20000 ∧ (e.1 = 2 → e.2.1 < 26) ∧ (e.1 = 201 → e.2.1 ≤ 1)
section
variable (P : xp_X → Prop)
/-- the O's of code: class -/
def xo_C : List xp_I → List (Nat × xp_D) → Prop
  | [], os => os = []
  | e :: c, os => (e.1 = 5 → ∃ (y : xp_X) (os' : List (Nat × xp_D)) (c' : List xp_I), P y ∧ os = (e.2.2.2, y.2.2.1) :: os' ∧ c = y.1 ++ c' ∧ e.2.2.1 = y.1.length + 1 ∧ xo_C c os') ∧ (e.1 ≠ 5 → xo_C c os)
def xo_G : List xp_I → List (Nat × xp_D) → Prop
  | [], os => os = []
  | e :: c, os => (e.1 = 202 → ∃ (y : xp_X) (os' : List (Nat × xp_D)) (c' : List xp_I), P y ∧ os = (e.2.2.2, y.2.2.1) :: os' ∧ c = y.2.1 ++ c' ∧ e.2.2.1 = y.2.1.length + 1 ∧ xo_G c os') ∧ (e.1 ≠ 202 → xo_G c os)
end
theorem xo_C_app {P : xp_X → Prop} : ∀ (c : List xp_I) (os : List (Nat × xp_D)) (c2 : List xp_I) (os2 : List (Nat × xp_D)), xo_C P c os → xo_C P c2 os2 → xo_C P (c ++ c2) (os ++ os2) := by
  intro c; induction c with
  | nil => intro os c2 os2 h h2; cases h; exact h2
  | cons e c ih =>
    intro os c2 os2 h h2
    refine ⟨fun he => ?_, fun he => ih _ _ _ (h.2 he) h2⟩
    obtain ⟨y, os', c', hP, h3, h4, h5, h6⟩ := h.1 he
    refine ⟨y, os' ++ os2, c' ++ c2, hP, by rw [h3]; rfl, by rw [h4]; exact List.append_assoc _ _ _, h5, ih _ _ _ h6 h2⟩
theorem xo_G_app {P : xp_X → Prop} : ∀ (c : List xp_I) (os : List (Nat × xp_D)) (c2 : List xp_I) (os2 : List (Nat × xp_D)), xo_G P c os → xo_G P c2 os2 → xo_G P (c ++ c2) (os ++ os2) := by
  intro c; induction c with
  | nil => intro os c2 os2 h h2; cases h; exact h2
  | cons e c ih =>
    intro os c2 os2 h h2
    refine ⟨fun he => ?_, fun he => ih _ _ _ (h.2 he) h2⟩
    obtain ⟨y, os', c', hP, h3, h4, h5, h6⟩ := h.1 he
    refine ⟨y, os' ++ os2, c' ++ c2, hP, by rw [h3]; rfl, by rw [h4]; exact List.append_assoc _ _ _, h5, ih _ _ _ h6 h2⟩
theorem xo_C_n {P : xp_X → Prop} : ∀ (c : List xp_I), (∀ e, e ∈ c → e.1 ≠ 5) → xo_C P c [] := by
  intro c; induction c with
  | nil => intro _; rfl
  | cons e c ih => intro h; exact ⟨fun he => absurd he (h e (by simp)), fun _ => ih (fun e he => h e (by simp [he]))⟩
theorem xo_G_n {P : xp_X → Prop} : ∀ (c : List xp_I), (∀ e, e ∈ c → e.1 ≠ 202) → xo_G P c [] := by
  intro c; induction c with
  | nil => intro _; rfl
  | cons e c ih => intro h; exact ⟨fun he => absurd he (h e (by simp)), fun _ => ih (fun e he => h e (by simp [he]))⟩
/-- in a range of tokens -/
def xf_in (pl : Nat → Nat) (p p' n : Nat) : Prop := ∃ i, p ≤ i ∧ i < p' ∧ n = pl i
theorem xf_in_m {pl : Nat → Nat} {p p' q q' n : Nat} (h : xf_in pl p p' n) (h1 : q ≤ p) (h2 : p' ≤ q') : xf_in pl q q' n := by obtain ⟨i, a, b, c⟩ := h; exact ⟨i, by omega, by omega, c⟩
def xf_dis (D : List (Nat × Int32)) : Prop := D.Pairwise (fun a b => a.1 ≠ b.1)
/-- what is known of an expression: P holds of what stands in an O -/
def xf_X (kd pl : Nat → Nat) (P : xp_X → Prop) (n : Nat) (ok : Bool) (p p' : Nat) (x : xp_X) : Prop :=
  (p < p' ∧ p' ≤ n) ∧ (∀ e, e ∈ x.1 → xf_CE e ∧ xf_in pl p p' e.2.2.2) ∧ (∀ e, e ∈ x.2.1 → xf_GE e ∧ xf_in pl p p' e.2.2.2) ∧ xq_ld x.1 = x.2.2.2.1 ∧ (ok = false → (∀ e, e ∈ x.1 → e.1 ≠ 5) ∧ (∀ e, e ∈ x.2.1 → e.1 ≠ 202) ∧ x.2.2.2.2 = []) ∧ (xo_C P x.1 x.2.2.2.2 ∧ xo_G P x.2.1 x.2.2.2.2) ∧ ((∀ e, e ∈ x.2.2.2.2 → xf_in pl p p' e.1) ∧ x.2.2.2.2.Pairwise (fun a b => a.1 < b.1)) ∧ (∀ A V O s, (∀ e, e ∈ (x.2.2.1 A V O s).2.1 → xf_in pl p p' e.1) ∧ xf_dis (x.2.2.1 A V O s).2.1)
theorem xf_dis_app {pl : Nat → Nat} {D E : List (Nat × Int32)} {p q p2 q2 n : Nat} (hm : ∀ i j, i < j → j ≤ n → pl i < pl j) (h1 : xf_dis D) (h2 : xf_dis E) (a : ∀ e, e ∈ D → xf_in pl p q e.1) (b : ∀ e, e ∈ E → xf_in pl p2 q2 e.1) (h : q ≤ p2 ∨ q2 ≤ p) (hn : q ≤ n ∧ q2 ≤ n) : xf_dis (D ++ E) := by
  unfold xf_dis at *
  rw [List.pairwise_append]
  refine ⟨h1, h2, fun x hx y hy => ?_⟩
  obtain ⟨i, i1, i2, i3⟩ := a x hx
  obtain ⟨j, j1, j2, j3⟩ := b y hy
  rw [i3, j3]
  rcases h with h | h
  · have := hm i j (by omega) (by omega); omega
  · have := hm j i (by omega) (by omega); omega
theorem xf_ka_b {o lv : Nat} (h : xp_lev o = lv) (h4 : lv ≤ 4) : xt_ka o < 300 ∧ xt_ka o ≠ 2 ∧ xt_ka o ≠ 201 ∧ xt_ka o ≠ 202 ∧ o < 300 := by
  unfold xp_lev at h
  repeat' split at h
  all_goals (first | omega | skip)
  all_goals (rename_i hh; first | (subst hh; exact ⟨by decide, by decide, by decide, by decide, by decide⟩) | (rcases hh with rfl | rfl | rfl | rfl | rfl | rfl <;> exact ⟨by decide, by decide, by decide, by decide, by decide⟩) | (rcases hh with rfl | rfl | rfl <;> exact ⟨by decide, by decide, by decide, by decide, by decide⟩) | (rcases hh with rfl | rfl <;> exact ⟨by decide, by decide, by decide, by decide, by decide⟩))
theorem xq_ld_app (a b : List xp_I) : xq_ld (a ++ b) = xq_ld a ++ xq_ld b := by simp [xq_ld]
section
variable (kd nm pl : Nat → Nat)
def xf_cl (S : Nat → Nat → Bool → Nat → Nat → xp_X → Prop) : Prop :=
    (∀ dp ok p, kd p = 258 → S 5 dp ok p (p + 1) (xp_num (nm p) (pl p))) ∧
    (∀ dp ok p, kd p = 259 → S 5 dp ok p (p + 1) (xp_var (nm p) (pl p))) ∧
    (∀ dp ok p q x, dp < 4 → kd p = 45 → S 5 (dp + 1) ok (p + 1) q x → S 5 dp ok p q (xp_neg x (pl p))) ∧
    (∀ dp ok p q x, dp < 4 → kd p = 33 → S 5 (dp + 1) ok (p + 1) q x → S 5 dp ok p q (xp_not x (pl p))) ∧
    (∀ dp ok p q x, dp < 4 → kd p = 40 → kd q = 41 → S 0 (dp + 1) ok (p + 1) q x → S 5 dp ok p (q + 1) x) ∧
    (∀ dp ok p q x, dp < 4 → (kd p = 77 ∨ kd p = 78) → kd (p + 1) = 40 → kd q = 41 → S 0 (dp + 1) ok (p + 2) q x → S 5 dp ok p (q + 1) (xp_call (if kd p = 78 then 1 else 0) x (pl p))) ∧
    (∀ dp p q x, dp < 4 → kd p = 79 → kd (p + 1) = 40 → kd q = 41 → S 0 (dp + 1) false (p + 2) q x → S 5 dp true p (q + 1) (xp_old x (pl p))) ∧
    (∀ lv dp ok p q x, lv ≤ 4 → S (lv + 1) dp ok p q x → S lv dp ok p q x) ∧
    (∀ lv dp ok p q q' x y, 2 ≤ lv → lv ≤ 4 → xp_lev (kd q) = lv → S lv dp ok p q x → S (lv + 1) dp ok (q + 1) q' y → S lv dp ok p q' (xp_bin (kd q) x y (pl q))) ∧
    (∀ lv dp ok p q q' x y, lv < 2 → xp_lev (kd q) = lv → S lv dp ok p q x → S (lv + 1) dp ok (q + 1) q' y → S lv dp ok p q' (xp_lg (kd q) x y (pl q)))
/-- what the grammar derives -/
def xf_D (lv dp : Nat) (ok : Bool) (p p' : Nat) (x : xp_X) : Prop := ∀ S, xf_cl kd nm pl S → S lv dp ok p p' x
theorem xf_D_cl : xf_cl kd nm pl (xf_D kd nm pl) := by
  refine ⟨fun dp ok p h S c => c.1 dp ok p h, fun dp ok p h S c => c.2.1 dp ok p h, fun dp ok p q x h1 h2 h3 S c => c.2.2.1 dp ok p q x h1 h2 (h3 S c), fun dp ok p q x h1 h2 h3 S c => c.2.2.2.1 dp ok p q x h1 h2 (h3 S c), fun dp ok p q x h1 h2 h3 h4 S c => c.2.2.2.2.1 dp ok p q x h1 h2 h3 (h4 S c), fun dp ok p q x h1 h2 h3 h4 h5 S c => c.2.2.2.2.2.1 dp ok p q x h1 h2 h3 h4 (h5 S c), fun dp p q x h1 h2 h3 h4 h5 S c => c.2.2.2.2.2.2.1 dp p q x h1 h2 h3 h4 (h5 S c), fun lv dp ok p q x h1 h2 S c => c.2.2.2.2.2.2.2.1 lv dp ok p q x h1 (h2 S c), fun lv dp ok p q q' x y h1 h2 h3 h4 h5 S c => c.2.2.2.2.2.2.2.2.1 lv dp ok p q q' x y h1 h2 h3 (h4 S c) (h5 S c), fun lv dp ok p q q' x y h1 h3 h4 h5 S c => c.2.2.2.2.2.2.2.2.2 lv dp ok p q q' x y h1 h3 (h4 S c) (h5 S c)⟩
theorem xf_D_P {n lv dp p p' : Nat} {ok : Bool} {x : xp_X} (hlv : lv ≤ 5) (h : xp_P kd nm pl n 0 lv dp ok p = .inr (p', x)) : xf_D kd nm pl lv dp ok p p' x := by
  intro S c
  exact (xp_ind S c.1 c.2.1 c.2.2.1 c.2.2.2.1 c.2.2.2.2.1 c.2.2.2.2.2.1 c.2.2.2.2.2.2.1 c.2.2.2.2.2.2.2.1 c.2.2.2.2.2.2.2.2.1 c.2.2.2.2.2.2.2.2.2 n 0 lv dp ok p p' x hlv h).1 rfl
/-- what stands in an O -/
def xf_P (y : xp_X) : Prop := ∃ dp p p', dp ≤ 4 ∧ xf_D kd nm pl 0 dp false p p' y ∧ (∀ e, e ∈ y.1 → e.1 ≠ 5 ∧ xf_CE e ∧ e.2.2.2 < 120) ∧ (∀ e, e ∈ y.2.1 → e.1 ≠ 202 ∧ xf_GE e ∧ e.2.2.2 < 120)
end
theorem xf_un1 {f : Int32 → Int32} {d : xp_D} {p : Nat} {A : xp_A} {V O : Nat → Int32} {s : xp_S} : (xp_un1 f d p A V O s).2.1 = (d A V O s).2.1 ∨ ∃ w, (xp_un1 f d p A V O s).2.1 = (d A V O s).2.1 ++ [(p, w)] := by
  unfold xp_un1
  rcases h : d A V O s with ⟨s', D, e | v⟩
  · exact Or.inl rfl
  · exact Or.inr ⟨_, rfl⟩
theorem xf_call1 {m : Nat} {d : xp_D} {p : Nat} {A : xp_A} {V O : Nat → Int32} {s : xp_S} : (xp_call1 m d p A V O s).2.1 = (d A V O s).2.1 ∨ ∃ w, (xp_call1 m d p A V O s).2.1 = (d A V O s).2.1 ++ [(p, w)] := by
  unfold xp_call1
  rcases h : d A V O s with ⟨s', D, e | v⟩
  · exact Or.inl rfl
  · simp only
    rcases h2 : A s' m v with ⟨s2, _ | w⟩
    · exact Or.inl rfl
    · exact Or.inr ⟨_, rfl⟩
/-- a list of drawn values that grows at a token -/
theorem xf_grow {pl : Nat → Nat} {D : List (Nat × Int32)} {a b p p' i n : Nat} {w : Int32} (hm : ∀ i j, i < j → j ≤ n → pl i < pl j) (hD : (∀ e, e ∈ D → xf_in pl a b e.1) ∧ xf_dis D) (h1 : p ≤ a) (h2 : b ≤ p') (hi : p ≤ i ∧ i < p') (hn : p' ≤ n) (hd : i < a ∨ b ≤ i) : (∀ e, e ∈ D ++ [(pl i, w)] → xf_in pl p p' e.1) ∧ xf_dis (D ++ [(pl i, w)]) := by
  refine ⟨fun e he => ?_, xf_dis_app (pl := pl) (p2 := i) (q2 := i + 1) hm hD.2 (by simp [xf_dis]) hD.1 (fun e he => ?_) (by omega) (by omega)⟩
  · rcases List.mem_append.mp he with h | h
    · exact xf_in_m (hD.1 e h) h1 h2
    · simp at h; rw [h]; exact ⟨i, hi.1, hi.2, rfl⟩
  · simp at he; rw [he]; exact ⟨i, by omega, by omega, rfl⟩
theorem xf_wide {pl : Nat → Nat} {D : List (Nat × Int32)} {a b p p' : Nat} (hD : (∀ e, e ∈ D → xf_in pl a b e.1) ∧ xf_dis D) (h1 : p ≤ a) (h2 : b ≤ p') : (∀ e, e ∈ D → xf_in pl p p' e.1) ∧ xf_dis D := ⟨fun e he => xf_in_m (hD.1 e he) h1 h2, hD.2⟩
theorem xf_two {pl : Nat → Nat} {D E : List (Nat × Int32)} {p q q' n : Nat} (hm : ∀ i j, i < j → j ≤ n → pl i < pl j) (hD : (∀ e, e ∈ D → xf_in pl p q e.1) ∧ xf_dis D) (hE : (∀ e, e ∈ E → xf_in pl (q + 1) q' e.1) ∧ xf_dis E) (hp : p < q) (h : q + 1 < q') (hn : q' ≤ n) : (∀ e, e ∈ D ++ E → xf_in pl p q' e.1) ∧ xf_dis (D ++ E) ∧ ∀ w, (∀ e, e ∈ D ++ E ++ [(pl q, w)] → xf_in pl p q' e.1) ∧ xf_dis (D ++ E ++ [(pl q, w)]) := by
  have hDE := xf_dis_app (n := n) hm hD.2 hE.2 hD.1 hE.1 (by omega) (by omega)
  have hin : ∀ e, e ∈ D ++ E → xf_in pl p q' e.1 := fun e he => by
    rcases List.mem_append.mp he with h | h
    · exact xf_in_m (hD.1 e h) (by omega) (by omega)
    · exact xf_in_m (hE.1 e h) (by omega) (by omega)
  refine ⟨hin, hDE, fun w => ⟨fun e he => ?_, ?_⟩⟩
  · rcases List.mem_append.mp he with h | h
    · exact hin e h
    · simp at h; rw [h]; exact ⟨q, by omega, by omega, rfl⟩
  · unfold xf_dis at hDE ⊢
    rw [List.pairwise_append]
    refine ⟨hDE, by simp, fun x hx y hy => ?_⟩
    simp at hy; rw [hy]
    rcases List.mem_append.mp hx with h | h
    · obtain ⟨i, a, b, c⟩ := hD.1 x h
      have := hm i q b (by omega)
      show x.1 ≠ pl q; omega
    · obtain ⟨i, a, b, c⟩ := hE.1 x h
      have := hm q i (by omega) (by omega)
      show x.1 ≠ pl q; omega
theorem xf_pw {pl : Nat → Nat} {D E : List (Nat × xp_D)} {p q q' n : Nat} (hm : ∀ i j, i < j → j ≤ n → pl i < pl j) (hD : (∀ e, e ∈ D → xf_in pl p q e.1) ∧ D.Pairwise (fun a b => a.1 < b.1)) (hE : (∀ e, e ∈ E → xf_in pl (q + 1) q' e.1) ∧ E.Pairwise (fun a b => a.1 < b.1)) (hp : p < q) (h : q + 1 < q') (hn : q' ≤ n) : (∀ e, e ∈ D ++ E → xf_in pl p q' e.1) ∧ (D ++ E).Pairwise (fun a b => a.1 < b.1) := by
  refine ⟨fun e he => ?_, ?_⟩
  · rcases List.mem_append.mp he with h | h
    · exact xf_in_m (hD.1 e h) (by omega) (by omega)
    · exact xf_in_m (hE.1 e h) (by omega) (by omega)
  · rw [List.pairwise_append]
    refine ⟨hD.2, hE.2, fun x hx y hy => ?_⟩
    obtain ⟨i, a, b, c⟩ := hD.1 x hx
    obtain ⟨j, a', b', c'⟩ := hE.1 y hy
    have := hm i j (by omega) (by omega)
    omega
