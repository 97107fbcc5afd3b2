/-! THE REFERENCE KEEPS A DRAWING -/
def yd_cn (D : List (Nat × Int32)) (lo hi : Nat) : Nat := (D.filter (fun e => decide (lo ≤ e.1) && decide (e.1 < hi))).length
theorem yd_cn_c (e : Nat × Int32) (D : List (Nat × Int32)) (lo hi : Nat) : yd_cn (e :: D) lo hi = (if lo ≤ e.1 ∧ e.1 < hi then 1 else 0) + yd_cn D lo hi := by
  unfold yd_cn
  by_cases h : lo ≤ e.1 ∧ e.1 < hi
  · rw [List.filter_cons_of_pos (by simp [h.1, h.2]), if_pos h, List.length_cons]; omega
  · rw [List.filter_cons_of_neg (by simp; omega), if_neg h]; omega
theorem yd_cn_a (D : List (Nat × Int32)) {lo mi hi : Nat} (h1 : lo ≤ mi) (h2 : mi ≤ hi) : yd_cn D lo hi = yd_cn D lo mi + yd_cn D mi hi := by
  induction D with
  | nil => rfl
  | cons e D ih =>
    rw [yd_cn_c, yd_cn_c, yd_cn_c, ih]
    by_cases a : lo ≤ e.1 ∧ e.1 < hi
    · by_cases b : e.1 < mi
      · rw [if_pos a, if_pos (by omega), if_neg (by omega)]; omega
      · rw [if_pos a, if_neg (by omega), if_pos (by omega)]; omega
    · rw [if_neg a, if_neg (by omega), if_neg (by omega)]; omega
theorem yd_cn_0 (D : List (Nat × Int32)) (lo : Nat) : yd_cn D lo lo = 0 := by
  induction D with
  | nil => rfl
  | cons e D ih => rw [yd_cn_c, ih, if_neg (by omega)]
theorem yd_cn_n {D : List (Nat × Int32)} {lo hi : Nat} (h : ∀ e, e ∈ D → ¬ (lo ≤ e.1 ∧ e.1 < hi)) : yd_cn D lo hi = 0 := by
  induction D with
  | nil => rfl
  | cons e D ih => rw [yd_cn_c, ih (fun e he => h e (by simp [he])), if_neg (h e (by simp))]
theorem yd_cn_all {D : List (Nat × Int32)} {lo hi : Nat} (h : ∀ e, e ∈ D → lo ≤ e.1 ∧ e.1 < hi) : yd_cn D lo hi = D.length := by
  induction D with
  | nil => rfl
  | cons e D ih => rw [yd_cn_c, ih (fun e he => h e (by simp [he])), if_pos (h e (by simp)), List.length_cons]; omega
theorem yd_find_n {D : List (Nat × Int32)} {p : Nat} (h : ∀ e, e ∈ D → e.1 ≠ p) : xd_find D p = none := by
  induction D with
  | nil => rfl
  | cons e D ih => rw [xd_find_c, if_neg (h e (by simp)), ih (fun e he => h e (by simp [he]))]
theorem yd_find_m {D : List (Nat × Int32)} {p : Nat} {v : Int32} (h : xd_find D p = some v) : (p, v) ∈ D := by
  induction D with
  | nil => cases h
  | cons e D ih =>
    rw [xd_find_c] at h
    by_cases he : e.1 = p
    · rw [if_pos he] at h; cases h; rw [← he]; simp
    · rw [if_neg he] at h; simp [ih h]
theorem yd_cn_1 {D : List (Nat × Int32)} (hd : xf_dis D) (p : Nat) : yd_cn D p (p + 1) = if (xd_find D p).isSome then 1 else 0 := by
  induction D with
  | nil => rfl
  | cons e D ih =>
    obtain ⟨h1, h2⟩ := List.pairwise_cons.mp hd
    rw [yd_cn_c, xd_find_c]
    by_cases he : e.1 = p
    · rw [if_pos (by omega), if_pos he, yd_cn_n (fun u hu => by have := h1 u hu; omega)]; rfl
    · rw [if_neg (by omega), if_neg he, ih h2]; omega
theorem yd_lf_len {D : List (Nat × Int32)} (hd : xf_dis D) (fi : Nat) : ∀ m c, (xd_lf fi D m c).length = yd_cn D (fi + c) (fi + c + m) := by
  intro m; induction m with
  | zero => intro c; rw [Nat.add_zero, yd_cn_0]; rfl
  | succ m ih =>
    intro c
    rw [yd_cn_a D (lo := fi + c) (mi := fi + c + 1) (hi := fi + c + (m + 1)) (by omega) (by omega), yd_cn_1 hd]
    have e : xd_lf fi D (m + 1) c = (match xd_find D (fi + c) with
      | some v => [(c, v)]
      | none => []) ++ xd_lf fi D m (c + 1) := rfl
    rw [e, List.length_append, ih (c + 1), show fi + (c + 1) = fi + c + 1 by omega, show fi + c + 1 + m = fi + c + (m + 1) by omega]
    cases xd_find D (fi + c) <;> rfl
theorem yd_lf_ix {D : List (Nat × Int32)} (hd : xf_dis D) (fi : Nat) : ∀ m c i e, (xd_lf fi D m c)[i]? = some e → xd_find D (fi + e.1) = some e.2 ∧ c ≤ e.1 ∧ i = yd_cn D (fi + c) (fi + e.1) := by
  intro m; induction m with
  | zero => intro c i e h; simp [xd_lf] at h
  | succ m ih =>
    intro c i e h
    have e0 : xd_lf fi D (m + 1) c = (match xd_find D (fi + c) with
      | some v => [(c, v)]
      | none => []) ++ xd_lf fi D m (c + 1) := rfl
    rw [e0] at h
    have c1 := yd_cn_1 hd (fi + c)
    cases hf : xd_find D (fi + c) with
    | none =>
      rw [hf] at h c1
      rw [List.nil_append] at h
      obtain ⟨a, b, k⟩ := ih (c + 1) i e h
      refine ⟨a, by omega, ?_⟩
      rw [yd_cn_a D (lo := fi + c) (mi := fi + c + 1) (by omega) (by omega), c1, k]
      show _ = 0 + _
      rw [Nat.zero_add]; rfl
    | some v =>
      rw [hf] at h c1
      cases i with
      | zero =>
        have : (c, v) = e := by simpa using h
        subst this
        exact ⟨hf, Nat.le_refl _, by rw [yd_cn_0]⟩
      | succ i =>
        have h' : (xd_lf fi D m (c + 1))[i]? = some e := by simpa using h
        obtain ⟨a, b, k⟩ := ih (c + 1) i e h'
        refine ⟨a, by omega, ?_⟩
        rw [yd_cn_a D (lo := fi + c) (mi := fi + c + 1) (by omega) (by omega), c1, k]
        show _ = 1 + _
        rw [Nat.add_comm]; rfl
theorem yd_cn_b {D : List (Nat × Int32)} (hd : xf_dis D) (fi p : Nat) : yd_cn D fi p ≤ p - fi := by
  by_cases h : fi ≤ p
  · have a := yd_lf_len hd fi (p - fi) 0
    have b := (xd_lf_b fi D (p - fi) 0).1
    rw [a, Nat.add_zero, show fi + (p - fi) = p by omega] at b; exact b
  · rw [yd_cn_n (fun e _ => by omega)]; omega
theorem yd_cn_lt {D : List (Nat × Int32)} {lo p q : Nat} {e : Nat × Int32} (he : e ∈ D) (hp : e.1 = p) (hlo : lo ≤ p) (hpq : p < q) : yd_cn D lo p < yd_cn D lo q := by
  rw [yd_cn_a D (lo := lo) (mi := p) (hi := q) hlo (by omega)]
  have : 0 < yd_cn D p q := by
    unfold yd_cn
    exact List.length_pos_of_mem (List.mem_filter.mpr ⟨he, by simp; omega⟩)
  omega
section
variable {R : pR}
theorem yd_rkL {I : pI} {D : List (Nat × Int32)} {f1 : Int32} {i : Nat} {e : Nat × Int32} {K : Int32 → pI → pR → Prop} {Q : pI → pR → Prop} (dl : yv_DL I D) (hl : D.length ≤ 200) (hb : ∀ e, e ∈ D → e.1 < 120) (hi : D[i]? = some e) :
    ∀ m j c, j + m = D.length → c ≤ j → K (nI (c + yd_cn (D.drop j) 0 e.1)) I R → l_md_keep_58 f1 (nI i) K Q (m + 1) (nI c) (nI j) I R := by
  have hil := xa_some_lt hi
  have ei := dl.2 i e hi
  have eb := hb e (List.mem_of_getElem? hi)
  intro m; induction m with
  | zero =>
    intro j c hj hc hK
    unfold l_md_keep_58
    rw [dl.1]
    refine xa_t ((nI_leI (by omega) (by omega)).mpr (by omega)) ?_
    rw [List.drop_of_length_le (by omega)] at hK; exact hK
  | succ m ih =>
    intro j c hj hc hK
    have hg : D[j]? = some D[j] := List.getElem?_eq_getElem (by omega)
    have ed : D.drop j = D[j] :: D.drop (j + 1) := List.drop_eq_getElem_cons (by omega)
    rw [ed, yd_cn_c] at hK
    generalize D[j] = u at *
    have ej := dl.2 j u hg
    have ub := hb u (List.mem_of_getElem? hg)
    unfold l_md_keep_58
    rw [dl.1]
    refine xa_f (fun hh => by have := (nI_leI (by omega) (by omega)).mp hh; omega) ⟨vp_in_nI (by omega) (by omega), vp_in_nI (by omega) (by omega), ?_⟩
    rw [nI_clamp (by omega), nI_clamp (by omega), ei.1, ej.1, nI_1, nI_1]
    by_cases hu : u.1 < e.1
    · rw [if_pos (by omega)] at hK
      refine xa_f (fun hh => by have := (nI_leI (by omega) (by omega)).mp hh; omega) (ih (j + 1) (c + 1) (by omega) (by omega) ?_)
      rw [show c + 1 + yd_cn (D.drop (j + 1)) 0 e.1 = c + (1 + yd_cn (D.drop (j + 1)) 0 e.1) by omega]; exact hK
    · rw [if_neg (by omega), Nat.zero_add] at hK
      exact xa_t ((nI_leI (by omega) (by omega)).mpr (by omega)) (ih (j + 1) c (by omega) (by omega) hK)
theorem yd_keepL {now o j fi : Nat} {D : List (Nat × Int32)} {K Q : pI → pR → Prop} (hnow : now < 6) (hj : 100 * o + j < 200) (hl : D.length ≤ 200) (hdis : xf_dis D) (hb : ∀ e, e ∈ D → fi ≤ e.1 ∧ e.1 < 120) :
    ∀ m i I, i + m = D.length → yv_DL I D → I 121 68 = nI now → I 136 (100 * o + j) = nI fi → (∀ (i' : Nat) (e : Nat × Int32), i' < i → D[i']? = some e → I 169 (120 * now + yd_cn D 0 e.1) = nI (e.1 - fi) ∧ I 170 (120 * now + yd_cn D 0 e.1) = e.2) →
    (∀ I', (∀ p k, ¬ ((p = 169 ∨ p = 170) ∧ 120 * now ≤ k ∧ k < 120 * now + 120) → I' p k = I p k) → (∀ (i' : Nat) (e : Nat × Int32), D[i']? = some e → I' 169 (120 * now + yd_cn D 0 e.1) = nI (e.1 - fi) ∧ I' 170 (120 * now + yd_cn D 0 e.1) = e.2) → K I' R) →
    l_md_keep_45 (nI (100 * o + j)) K Q (m + 1) (nI i) I R := by
  intro m; induction m with
  | zero =>
    intro i I hi dl h68 h136 inv hK
    unfold l_md_keep_45
    rw [dl.1]
    refine xa_t ((nI_leI (by omega) (by omega)).mpr (by omega)) (hK I (fun _ _ _ => rfl) (fun i' e he => inv i' e ?_ he))
    have := xa_some_lt he; omega
  | succ m ih =>
    intro i I hi dl h68 h136 inv hK
    have hg : D[i]? = some D[i] := List.getElem?_eq_getElem (by omega)
    generalize D[i] = e at *
    have em := List.mem_of_getElem? hg
    have eb := hb e em
    have er : yd_cn D 0 e.1 < 120 := by have := yd_cn_b hdis 0 e.1; omega
    have ei := dl.2 i e hg
    unfold l_md_keep_45
    rw [dl.1]
    refine xa_f (fun hh => by have := (nI_leI (by omega) (by omega)).mp hh; omega) ⟨D.length + 1, yd_rkL dl hl (fun e he => (hb e he).2) hg D.length 0 0 (by omega) (by omega) ?_⟩
    rw [List.drop_zero, Nat.zero_add]
    generalize hrk : yd_cn D 0 e.1 = rk at *
    have hin : vp_in (nI i) 200 := vp_in_nI (by omega) (by omega)
    have hin7 : vp_in (nI (120 * now + rk)) 720 := vp_in_nI (by omega) (by omega)
    rw [h68, show (120 : Int32) * nI now = nI (120 * now) from pk_mul _ _, nI_add, nI_clamp (by omega), nI_clamp (by omega), nI_clamp (by omega), ei.1, h136, pk_sub eb.1]
    refine ⟨hin, vp_in_nI hj (by omega), hin7, xa_a ?_⟩
    rw [show pw_wI I 169 (120 * now + rk) (nI (e.1 - fi)) 121 68 = nI now by rw [xa_p (by decide)]; exact h68, show (120 : Int32) * nI now = nI (120 * now) from pk_mul _ _, nI_add, nI_clamp (by omega), show pw_wI I 169 (120 * now + rk) (nI (e.1 - fi)) 161 i = e.2 by rw [xa_p (by decide)]; exact ei.2]
    refine ⟨hin, hin7, xa_a ?_⟩
    have gg : ∀ p k, p ≠ 169 → p ≠ 170 → pw_wI (pw_wI I 169 (120 * now + rk) (nI (e.1 - fi))) 170 (120 * now + rk) e.2 p k = I p k := fun p k h1 h2 => by rw [xa_p h2, xa_p h1]
    rw [nI_1]
    refine ih (i + 1) _ (by omega) ⟨by rw [gg _ _ (by omega) (by omega)]; exact dl.1, fun j e hj => by rw [gg _ _ (by omega) (by omega), gg _ _ (by omega) (by omega)]; exact dl.2 j e hj⟩ (by rw [gg _ _ (by omega) (by omega)]; exact h68) (by rw [gg _ _ (by omega) (by omega)]; exact h136) (fun i' u hi' hu => ?_) (fun I' f' h' => hK I' (fun p k hp => ?_) h')
    · by_cases hii : i' = i
      · subst hii
        rw [hg] at hu; cases hu
        rw [hrk]
        exact ⟨by rw [xa_p (by decide), xa_w, if_pos ⟨rfl, rfl⟩], by rw [xa_w, if_pos ⟨rfl, rfl⟩]⟩
      · have um := List.mem_of_getElem? hu
        have hne : u.1 ≠ e.1 := by
          rcases Nat.lt_or_gt_of_ne hii with h | h
          · exact List.pairwise_iff_getElem.mp hdis i' i (by omega) (by omega) h |> (fun x => by
              rw [List.getElem?_eq_getElem (by omega)] at hu hg
              rw [Option.some.inj hu, Option.some.inj hg] at x; exact x)
          · omega
        have hrk' : yd_cn D 0 u.1 ≠ rk := by
          rw [← hrk]
          rcases Nat.lt_or_gt_of_ne hne with h | h
          · have := yd_cn_lt um rfl (Nat.zero_le _) h; omega
          · have := yd_cn_lt em rfl (Nat.zero_le _) h; omega
        have := inv i' u (by omega) hu
        exact ⟨by rw [xa_p (by decide), xa_w, if_neg (by omega)]; exact this.1, by rw [xa_w, if_neg (by omega), xa_p (by decide)]; exact this.2⟩
    · rw [f' p k hp, xa_w, if_neg (by omega), xa_w, if_neg (by omega)]
theorem yd_keep {o now j fi la : Nat} {I : pI} {D : List (Nat × Int32)} {Q : pI → pR → Prop} (hnow : now < 6) (hj : 100 * o + j < 200) (hfl : fi ≤ la) (hla : la ≤ 120) (hl : D.length ≤ 200) (hdis : xf_dis D) (hb : ∀ e, e ∈ D → fi ≤ e.1 ∧ e.1 < la) (dl : yv_DL I D) (h68 : I 121 68 = nI now) (h136 : I 136 (100 * o + j) = nI fi) (h137 : I 137 (100 * o + j) = nI la)
    (hQ : ∀ I', xa_fr (yv_SH now) I I' → (∀ p k, ¬ (168 ≤ p ∧ p ≤ 172) → I' p k = I p k) → yd_DR I' now (some (fi, la, D)) → Q I' R) : w_md_keep (nI (100 * o + j)) I R Q := by
  have hin : vp_in (nI now) 6 := vp_in_nI hnow (by omega)
  have hinj : vp_in (nI (100 * o + j)) 200 := vp_in_nI hj (by omega)
  unfold w_md_keep
  rw [h68, nI_clamp (by omega), nI_clamp (by omega), dl.1]
  refine ⟨hin, xa_a ⟨hinj, ?_⟩⟩
  have e1 : pw_wI I 168 now (nI D.length) 121 68 = nI now := by rw [xa_p (by decide)]; exact h68
  have e2 : pw_wI I 168 now (nI D.length) 136 (100 * o + j) = nI fi := by rw [xa_p (by decide)]; exact h136
  rw [e1, e2, nI_clamp (by omega)]
  refine ⟨hin, xa_a ⟨hinj, ?_⟩⟩
  have e3 : pw_wI (pw_wI I 168 now (nI D.length)) 171 now (nI fi) 121 68 = nI now := by rw [xa_p (by decide)]; exact e1
  have e4 : pw_wI (pw_wI I 168 now (nI D.length)) 171 now (nI fi) 137 (100 * o + j) = nI la := by rw [xa_p (by decide), xa_p (by decide)]; exact h137
  rw [e3, e4, nI_clamp (by omega)]
  refine ⟨hin, xa_a ⟨D.length + 1, ?_⟩⟩
  have gg : ∀ p k, p ≠ 168 → p ≠ 171 → p ≠ 172 → pw_wI (pw_wI (pw_wI I 168 now (nI D.length)) 171 now (nI fi)) 172 now (nI la) p k = I p k := fun p k h1 h2 h3 => by rw [xa_p h3, xa_p h2, xa_p h1]
  have k168 : pw_wI (pw_wI (pw_wI I 168 now (nI D.length)) 171 now (nI fi)) 172 now (nI la) 168 now = nI D.length := by rw [xa_p (by decide), xa_p (by decide), xa_w, if_pos ⟨rfl, rfl⟩]
  have k171 : pw_wI (pw_wI (pw_wI I 168 now (nI D.length)) 171 now (nI fi)) 172 now (nI la) 171 now = nI fi := by rw [xa_p (by decide), xa_w, if_pos ⟨rfl, rfl⟩]
  have k172 : pw_wI (pw_wI (pw_wI I 168 now (nI D.length)) 171 now (nI fi)) 172 now (nI la) 172 now = nI la := by rw [xa_w, if_pos ⟨rfl, rfl⟩]
  have f3 : xa_fr (yv_SH now) I (pw_wI (pw_wI (pw_wI I 168 now (nI D.length)) 171 now (nI fi)) 172 now (nI la)) := xa_fr_w (xa_fr_w (xa_fr_w (xa_fr_r _ _) (by simp [yv_SH])) (by simp [yv_SH])) (by simp [yv_SH])
  generalize pw_wI (pw_wI (pw_wI I 168 now (nI D.length)) 171 now (nI fi)) 172 now (nI la) = I3 at *
  refine yd_keepL (fi := fi) hnow hj hl hdis (fun e he => by have := hb e he; omega) D.length 0 I3 (by omega) ⟨by rw [gg _ _ (by omega) (by omega) (by omega)]; exact dl.1, fun j e hj => by rw [gg _ _ (by omega) (by omega) (by omega), gg _ _ (by omega) (by omega) (by omega)]; exact dl.2 j e hj⟩ (by rw [gg _ _ (by omega) (by omega) (by omega)]; exact h68) (by rw [gg _ _ (by omega) (by omega) (by omega)]; exact h136) (fun i' e hi' => by omega) (fun I' f' h' => hQ I' ?_ (fun p k hp => by rw [f' p k (by omega), gg _ _ (by omega) (by omega) (by omega)]) ?_)
  · refine xa_fr_t f3 (fun p k hp => f' p k (fun h => ?_))
    simp only [yv_SH, Bool.or_eq_false_iff, Bool.and_eq_false_iff, beq_eq_false_iff_ne, decide_eq_false_iff_not] at hp
    omega
  · have hlen : (xd_lf fi D (la - fi) 0).length = D.length := by
      rw [yd_lf_len hdis, Nat.add_zero, show fi + (la - fi) = la by omega]; exact yd_cn_all hb
    refine ⟨?_, ?_, ?_, fun i e hi => ?_⟩
    · rw [f' _ _ (by omega), k168]; exact congrArg nI hlen.symm
    · rw [f' _ _ (by omega)]; exact k171
    · rw [f' _ _ (by omega)]; exact k172
    · obtain ⟨a, b, c⟩ := yd_lf_ix hdis fi _ _ _ _ hi
      have hm := yd_find_m a
      obtain ⟨i', hi', hg'⟩ := List.getElem_of_mem hm
      have g := h' i' (fi + e.1, e.2) (by rw [List.getElem?_eq_getElem hi', hg'])
      have hc : yd_cn D 0 (fi + e.1) = i := by
        rw [c, Nat.add_zero, yd_cn_a D (lo := 0) (mi := fi) (hi := fi + e.1) (by omega) (by omega), yd_cn_n (fun u hu => by have := hb u hu; omega), Nat.zero_add]
      simp only at g
      rw [hc, show fi + e.1 - fi = e.1 by omega] at g
      exact g
end
section
variable {g : Bool} {o now : Nat} {F : xi_F} {R : pR} {ts : List (Nat × Nat × Nat × Nat)} {L : Nat}
theorem yv_truly {V O : Nat → Int32} {b j : Nat} {it : xi_I} {I : pI} {s : xp_S} {Q : pI → pR → Prop} (hnow : now < 6) (ho : o ≤ 1) (w : xg_W ts L F.1) (hj : F.1[j]? = some it) (hk : xi_k it = 3 ∨ xi_k it = 4) (oC : xi_k it = 4 → yv_OG I (400 * o + (xi_G (F.1.take j)).length) (xi_x it).2.1 O) (hE : yv_E o F 0 0 I) (st : yv_St g I o now F.1 V s) (hB : xv_B b s) (hb : b + 200 ≤ 1000000000) (fh : yv_FH I now none)
    (hQ : ∀ s' r, xg_hold V O s it = (s', r) → ∀ I', xa_fr (yv_SH now) I I' → yv_St g I' o now F.1 V s' → xv_B (b + 200) s' → yv_FH I' now r → Q I' R) : w_md_truly (nI (100 * o + j)) I R Q := by
  have hjl := xa_some_lt hj
  have w1 := w.2.1
  have iw := w.2.2.2.2.2.2 it (List.mem_of_getElem? hj)
  have hin : vp_in (nI (100 * o + j)) 200 := vp_in_nI (by omega) (by omega)
  obtain ⟨la1, la2, la3⟩ := xg_IX_la w.1 (iw.2.2.1 (by omega))
  have eH : ∀ r, (xi_x it).2.2.1 (xg_A []) V O s = r → xg_hold V O s it = (match r with
      | (s', D, .inr v) => if v = 0 then (s', some ((1, xi_fi it), some (xi_fi it, xi_la it, D))) else (s', none)
      | (s', _, .inl e) => (s', some (e, none))) := by
    intro r hr
    unfold xg_hold
    rw [hr]
    rcases r with ⟨s', D, f | v⟩ <;> rfl
  have ie := (hE.1.1 j it hj).1
  unfold w_md_truly
  rw [nI_clamp (by omega)]
  refine ⟨hin, hin, yv_item (fa := 0) (fm := 0) (O := O) (b := b) hnow ho w (by omega) (Or.inl rfl) hj (by omega) oC hE st hB hb (fun s' D v hd I1 f1 st1 hB1 hv dl1 => xa_f' (by decide) ⟨vp_in_nI (n := 0) (by omega) (by omega), ?_⟩) (fun s' D e hd I1 f1 st1 hB1 ha hb' h23 => xa_t' rfl ?_)⟩
  · have fh1 : yv_FH I1 now none := yv_FH_fr fh (fun p k hp => yv_S_o f1 p k (by omega))
    rw [show (0 : Int32).toNatClampNeg = 0 from rfl, hv]
    have hd' : (xi_x it).2.2.1 (xg_A []) V O s = (s', D, .inr v) := hd
    by_cases hv0 : v = 0
    · refine xa_t' hv0 ⟨hin, ?_⟩
      rw [yv_S_o f1 _ _ (by omega), ie.2.2.2.2.2.1]
      refine yv_fail1 (c := 1) hnow fh1 st1 (by omega) (fun I2 f2 g2 st2 fh2 => ?_)
      have hDl : D.length ≤ 200 := by
        have a := la3 (xg_A []) V O s
        rw [hd'] at a
        have := yd_cn_all (D := D) (lo := xi_fi it) (hi := xi_la it) a.2
        have := yd_cn_b (D := D) a.1 (xi_fi it) (xi_la it)
        have := w.1.1
        omega
      have a := la3 (xg_A []) V O s
      rw [hd'] at a
      have dl2 : yv_DL I2 D := ⟨by rw [g2 _ _ (by omega) (by omega)]; exact dl1.1, fun j e hj => by rw [g2 _ _ (by omega) (by omega), g2 _ _ (by omega) (by omega)]; exact dl1.2 j e hj⟩
      refine yd_keep (fi := xi_fi it) (la := xi_la it) hnow (by omega) (by omega) (by have := w.1.1; omega) hDl a.1 a.2 dl2 st2.1 ?_ ?_ (fun I3 f3 g3 dr3 => ?_)
      · rw [g2 _ _ (by omega) (by omega), yv_S_o f1 _ _ (by omega)]; exact ie.2.2.2.2.2.1
      · rw [g2 _ _ (by omega) (by omega), yv_S_o f1 _ _ (by omega)]; exact ie.2.2.2.2.2.2
      · refine hQ s' (some ((1, xi_fi it), some (xi_fi it, xi_la it, D))) ((eH _ hd').trans (if_pos hv0)) I3 (xa_fr_t (yv_SH_S f1) (xa_fr_t f2 f3)) ?_ hB1 ?_
        · exact ⟨by rw [g3 _ _ (by omega)]; exact st2.1, fun v hv => by rw [g3 _ _ (by omega)]; exact st2.2.1 v hv, by rw [g3 _ _ (by omega)]; exact st2.2.2.1, by rw [g3 _ _ (by omega)]; exact st2.2.2.2.1, fun hg j it hj h7 => by rw [g3 _ _ (by omega)]; exact st2.2.2.2.2 hg j it hj h7⟩
        · refine ⟨⟨?_, ?_, (by show 0 < 1; omega), (by show 1 < 10; omega)⟩, ?_, dr3⟩
          · rw [g3 _ _ (by omega)]; exact fh2.1.1
          · rw [g3 _ _ (by omega)]; exact fh2.1.2.1
          · rw [g3 _ _ (by omega)]; exact fh2.2.1
    · exact xa_f' hv0 (hQ s' none ((eH _ hd').trans (if_neg hv0)) I1 (yv_SH_S f1) st1 hB1 fh1)
  · have fh1 : yv_FH I1 now none := yv_FH_fr fh (fun p k hp => yv_S_o f1 p k (by omega))
    have hd' : (xi_x it).2.2.1 (xg_A []) V O s = (s', D, .inl e) := hd
    rw [ha, hb']
    exact yv_fail1 hnow fh1 st1 (by omega) (fun I2 f2 g2 st2 fh2 => hQ s' _ (eH _ hd') I2 (xa_fr_t (yv_SH_S f1) f2) st2 hB1 fh2)
end
