/-! BOTH SIDES FIND THE SAME -/
theorem yq_fs_app (h : List (Nat × Nat)) : ∀ (A pr B : List (Nat × Nat × Nat × Int32)), xl_fs h pr (A ++ B) = xl_fs h pr A ++ xl_fs h (pr ++ A) B := by
  intro A; induction A with
  | nil => intro pr B; rw [List.append_nil]; rfl
  | cons e A ih =>
    intro pr B
    show xl_f1 h pr e ++ xl_f2 h e ++ xl_f3 e ++ xl_fs h (pr ++ [e]) (A ++ B) = (xl_f1 h pr e ++ xl_f2 h e ++ xl_f3 e ++ xl_fs h (pr ++ [e]) A) ++ _
    rw [ih, List.append_assoc _ _ (xl_fs h (pr ++ e :: A) B)]
    simp
theorem yq_hl_m (h : List (Nat × Nat)) (u : Nat × Nat) : ∀ m c, u ∈ xq_hl h c m ↔ ∃ i, c ≤ i ∧ i < c + m ∧ u ∈ xq_h1 h i := by
  intro m; induction m with
  | zero => intro c; exact ⟨fun h => (by cases h), fun ⟨i, a, b, _⟩ => by omega⟩
  | succ m ih =>
    intro c
    show u ∈ xq_h1 h c ++ xq_hl h (c + 1) m ↔ _
    rw [List.mem_append, ih]
    constructor
    · rintro (a | ⟨i, a, b, d⟩)
      · exact ⟨c, by omega, by omega, a⟩
      · exact ⟨i, by omega, by omega, d⟩
    · rintro ⟨i, a, b, d⟩
      by_cases hi : i = c
      · subst hi; exact Or.inl d
      · exact Or.inr ⟨i, by omega, by omega, d⟩
theorem yq_rl_m (F : xi_F) (u : Nat × Nat) : ∀ m c, u ∈ xq_rl F c m ↔ ∃ i, c ≤ i ∧ i < c + m ∧ u ∈ xq_r1 F i := by
  intro m; induction m with
  | zero => intro c; exact ⟨fun h => (by cases h), fun ⟨i, a, b, _⟩ => by omega⟩
  | succ m ih =>
    intro c
    show u ∈ xq_r1 F c ++ xq_rl F (c + 1) m ↔ _
    rw [List.mem_append, ih]
    constructor
    · rintro (a | ⟨i, a, b, d⟩)
      · exact ⟨c, by omega, by omega, a⟩
      · exact ⟨i, by omega, by omega, d⟩
    · rintro ⟨i, a, b, d⟩
      by_cases hi : i = c
      · subst hi; exact Or.inl d
      · exact Or.inr ⟨i, by omega, by omega, d⟩
theorem yq_d_col (h : List (Nat × Nat)) (v c : Nat) : xl_d h v c = (match xq_col h v with
    | some k => decide (k < c)
    | none => false) := by
  unfold xl_d xq_col
  induction h generalizing c with
  | nil => simp
  | cons e h ih =>
    rw [List.findIdx?_cons]
    by_cases he : (e.1 == v) = true
    · rw [if_pos he]
      cases c with
      | zero => simp
      | succ c => simp [List.take_succ_cons, he]
    · rw [if_neg he]
      cases c with
      | zero =>
        simp only [List.take_zero, List.any_nil]
        cases h.findIdx? (fun e => e.1 == v) <;> simp
      | succ c =>
        rw [List.take_succ_cons, List.any_cons, ih c]
        simp only [Bool.not_eq_true] at he
        rw [he, Bool.false_or]
        cases h.findIdx? (fun e => e.1 == v) <;> simp
theorem yq_d_all (h : List (Nat × Nat)) (v : Nat) : xl_d h v h.length = (xq_col h v).isSome := by
  rw [yq_d_col]
  cases hc : xq_col h v with
  | none => rfl
  | some k => have := xq_col_lt hc; simp [this]
/-- uses, and assignments before them -/
theorem yq_fs0 (h : List (Nat × Nat)) (kn : Nat → Bool) : ∀ (us : List (Nat × Nat)) (pr : List (Nat × Nat × Nat × Int32)), (∀ v, (xl_as pr v || xl_d h v h.length) = kn v) → xl_fs h pr (xr_uv (-1) us) = us.flatMap (fun e => if kn e.2 then [] else [(2, e.1)]) ∧ ∀ v, xl_as (pr ++ xr_uv (-1) us) v = xl_as pr v := by
  intro us; induction us with
  | nil => intro pr hk; exact ⟨rfl, fun v => by rw [show xr_uv (-1) [] = [] from rfl, List.append_nil]⟩
  | cons e us ih =>
    intro pr hk
    have e1 : xr_uv (-1) (e :: us) = (0, e.1, e.2, -1) :: xr_uv (-1) us := by
      show (if (-1 : Int32) < 0 then 0 else 1, e.1, e.2, (-1 : Int32)) :: _ = _
      rw [if_pos (by decide)]; rfl
    have as1 : ∀ v, xl_as (pr ++ [(0, e.1, e.2, -1)]) v = xl_as pr v := fun v => by rw [xl_as_1]; simp
    obtain ⟨i1, i2⟩ := ih (pr ++ [(0, e.1, e.2, -1)]) (fun v => by rw [as1]; exact hk v)
    rw [e1]
    refine ⟨?_, fun v => ?_⟩
    · show xl_f1 h pr (0, e.1, e.2, -1) ++ xl_f2 h (0, e.1, e.2, -1) ++ xl_f3 (0, e.1, e.2, -1) ++ xl_fs h (pr ++ [(0, e.1, e.2, -1)]) (xr_uv (-1) us) = _
      rw [i1, List.flatMap_cons]
      have f1 : xl_f1 h pr (0, e.1, e.2, -1) = if kn e.2 then [] else [(2, e.1)] := by
        unfold xl_f1
        simp only [hk]
        cases kn e.2 <;> simp
      have f2 : xl_f2 h (0, e.1, e.2, -1) = [] := by unfold xl_f2; simp
      have f3 : xl_f3 (0, e.1, e.2, -1) = [] := by unfold xl_f3; simp
      rw [f1, f2, f3, List.append_nil, List.append_nil]
    · rw [show pr ++ (0, e.1, e.2, -1) :: xr_uv (-1) us = (pr ++ [(0, e.1, e.2, -1)]) ++ xr_uv (-1) us by simp, i2, as1]
theorem yq_fs1 (h : List (Nat × Nat)) {c : Nat} (hc : c < 1000) : ∀ (us : List (Nat × Nat)) (pr : List (Nat × Nat × Nat × Int32)), xl_fs h pr (xr_uv (nI c) us) = us.flatMap (fun e => if xl_d h e.2 c then [] else [(2, e.1)]) := by
  intro us; induction us with
  | nil => intro pr; rfl
  | cons e us ih =>
    intro pr
    have e1 : xr_uv (nI c) (e :: us) = (1, e.1, e.2, nI c) :: xr_uv (nI c) us := by
      have hz : (if nI c < 0 then (0 : Nat) else 1) = 1 := if_neg (nI_pos (by omega))
      show ((if nI c < 0 then (0 : Nat) else 1), e.1, e.2, nI c) :: xr_uv (nI c) us = _
      rw [hz]
    rw [e1]
    show xl_f1 h pr (1, e.1, e.2, nI c) ++ xl_f2 h (1, e.1, e.2, nI c) ++ xl_f3 (1, e.1, e.2, nI c) ++ xl_fs h (pr ++ [(1, e.1, e.2, nI c)]) (xr_uv (nI c) us) = _
    rw [ih, List.flatMap_cons]
    have f1 : xl_f1 h pr (1, e.1, e.2, nI c) = if xl_d h e.2 c then [] else [(2, e.1)] := by
      unfold xl_f1
      simp only [nI_clamp (show c < 2 ^ 31 by omega)]
      cases xl_d h e.2 c <;> simp
    have f2 : xl_f2 h (1, e.1, e.2, nI c) = [] := by unfold xl_f2; simp
    have f3 : xl_f3 (1, e.1, e.2, nI c) = [] := by unfold xl_f3; simp
    rw [f1, f2, f3, List.append_nil, List.append_nil]
section
variable {ts : List (Nat × Nat × Nat × Nat)} {L : Nat}
theorem yq_ld (w : xt_WF ts L) {it : xi_I} (iw : xg_IW ts L it) : xq_ld (xi_x it).1 = (xi_x it).2.2.2.1 := by
  by_cases hk : xi_k it ≤ 4 ∨ xi_k it = 8
  · obtain ⟨lv, p, p', hlv, hD, _, _⟩ := iw.2.2.1 hk
    exact (xf_all w (by omega) hD).2.2.2.1
  · have := iw.1
    rw [(iw.2.2.2.1 (by omega)).1]; rfl
theorem yq_item (w : xt_WF ts L) {h : List (Nat × Nat)} {its : List xi_I} {j : Nat} {it : xi_I} {pr : List (Nat × Nat × Nat × Int32)} (iw : xg_IW ts L it) (h8 : xi_k it ≠ 8) (hpr : ∀ v, xl_as pr v = xq_asg its j v) : (∀ u, u ∈ xq_s1 h its j it ↔ u ∈ yq_r1 it ∨ u ∈ xl_fs h pr (xk_evi it)) ∧ ∀ v, xl_as (pr ++ xk_evi it) v = (xq_asg its j v || (decide (xi_k it ≤ 2) && decide (xi_tg it = some v))) := by
  have hk9 := iw.1
  have hld := yq_ld w iw
  rw [xk_evi_n h8]
  obtain ⟨f1, f2⟩ := yq_fs0 h (fun v => (xq_col h v).isSome || xq_asg its j v) (xi_x it).2.2.2.1 pr (fun v => by rw [hpr, yq_d_all, Bool.or_comm])
  have hkn : ∀ v, xq_kn h its j it v = ((xq_col h v).isSome || xq_asg its j v) := fun v => by unfold xq_kn; rw [if_neg h8]
  have hus : xq_us h its j it (xi_x it).2.2.2.1 = (xi_x it).2.2.2.1.flatMap (fun e => if (xq_col h e.2).isSome || xq_asg its j e.2 then [] else [(2, e.1)]) := by
    unfold xq_us; simp only [hkn]
  rw [yq_fs_app, f1]
  cases ht : xi_tg it with
  | none =>
    refine ⟨fun u => ?_, fun v => ?_⟩
    · show _ ↔ _ ∨ u ∈ _ ++ xl_fs h _ []
      rw [show xl_fs h (pr ++ xr_uv (-1) (xi_x it).2.2.2.1) [] = [] from rfl, List.append_nil]
      unfold xq_s1 yq_r1
      by_cases h7 : xi_k it = 7
      · rw [if_pos h7, if_pos h7]
        have : (xi_x it).2.2.2.1 = [] := by rw [(iw.2.2.2.1 (by omega)).1]; rfl
        rw [this]
        cases xi_mo (xi_ru it) <;> simp
      · rw [if_neg h7, if_neg h7, hld, hus, ht]
        simp
    · rw [List.append_nil, f2, hpr]; simp
  | some v0 =>
    have hk2 : xi_k it ≤ 2 := by
      by_cases hk : xi_k it ≤ 2
      · exact hk
      · exfalso
        by_cases h34 : xi_k it = 3 ∨ xi_k it = 4
        · rw [iw.2.2.2.2.2.1 h34] at ht; cases ht
        · rw [(iw.2.2.2.1 (by omega)).2] at ht; cases ht
    refine ⟨fun u => ?_, fun v => ?_⟩
    · have f3 : xl_fs h (pr ++ xr_uv (-1) (xi_x it).2.2.2.1) [(2, xi_fi it, v0, 0)] = if (xq_col h v0).isSome then [(3, xi_fi it)] else [] := by
        show xl_f1 h _ (2, xi_fi it, v0, 0) ++ xl_f2 h (2, xi_fi it, v0, 0) ++ xl_f3 (2, xi_fi it, v0, 0) ++ [] = _
        unfold xl_f1 xl_f2 xl_f3
        simp only [yq_d_all]
        cases (xq_col h v0).isSome <;> simp
      show _ ↔ _ ∨ u ∈ _ ++ xl_fs h _ [(2, xi_fi it, v0, 0)]
      rw [f3]
      unfold xq_s1 yq_r1
      rw [if_neg (show ¬ xi_k it = 7 by omega), if_neg (show ¬ xi_k it = 7 by omega), hld, hus, ht, if_pos hk2]
      simp
    · show xl_as (pr ++ (xr_uv (-1) (xi_x it).2.2.2.1 ++ [(2, xi_fi it, v0, 0)])) v = _
      rw [← List.append_assoc, xl_as_1, f2, hpr]
      simp [hk2]
theorem yq_stmts (w : xt_WF ts L) {h : List (Nat × Nat)} {its Y : List xi_I} : ∀ (X2 X1 : List xi_I), its = X1 ++ X2 ++ Y → (∀ it, it ∈ X2 → xg_IW ts L it ∧ xi_k it ≠ 8) → (∀ v, xl_as (xk_evs X1) v = xq_asg its X1.length v) → ∀ u, u ∈ xq_sl h its X1.length X2.length ↔ u ∈ yq_ru X2 ∨ u ∈ xl_fs h (xk_evs X1) (xk_evs X2) := by
  intro X2; induction X2 with
  | nil => intro X1 _ _ _ u; exact ⟨fun h => (by cases h), fun h => by rcases h with h | h <;> cases h⟩
  | cons it X2 ih =>
    intro X1 hi hw hpr u
    have hg : its[X1.length]? = some it := by rw [hi]; simp
    obtain ⟨iw, h8⟩ := hw it (by simp)
    obtain ⟨y1, y2⟩ := yq_item w (h := h) iw h8 hpr
    have hpr' : ∀ v, xl_as (xk_evs (X1 ++ [it])) v = xq_asg its (X1 ++ [it]).length v := fun v => by
      rw [xk_evs_1, y2 v]
      unfold xq_asg
      rw [List.length_append, List.length_singleton, List.take_add_one, hg, List.any_append]
      simp
    have i := ih (X1 ++ [it]) (by rw [hi]; simp) (fun u hu => hw u (by simp [hu])) hpr' u
    rw [List.length_append, List.length_singleton, xk_evs_1] at i
    show u ∈ (match its[X1.length]? with
      | some it => xq_s1 h its X1.length it
      | none => []) ++ xq_sl h its (X1.length + 1) X2.length ↔ _
    rw [hg]
    show u ∈ xq_s1 h its X1.length it ++ xq_sl h its (X1.length + 1) X2.length ↔ _
    rw [List.mem_append, i, y1 u, show yq_ru (it :: X2) = yq_r1 it ++ yq_ru X2 by simp [yq_ru], show xk_evs (it :: X2) = xk_evi it ++ xk_evs X2 by simp [xk_evs], yq_fs_app, List.mem_append, List.mem_append]
    constructor
    · rintro ((a | a) | (a | a))
      · exact Or.inl (Or.inl a)
      · exact Or.inr (Or.inl a)
      · exact Or.inl (Or.inr a)
      · exact Or.inr (Or.inr a)
    · rintro ((a | a) | (a | a))
      · exact Or.inl (Or.inl a)
      · exact Or.inr (Or.inl a)
      · exact Or.inl (Or.inr a)
      · exact Or.inr (Or.inr a)
/-- cells -/
theorem yq_cells (w : xt_WF ts L) {h : List (Nat × Nat)} {its : List xi_I} : ∀ (Y2 X1 : List xi_I) (pr : List (Nat × Nat × Nat × Int32)), its = X1 ++ Y2 → (∀ it, it ∈ Y2 → xg_IW ts L it ∧ xi_k it = 8 ∧ ∃ c, c < 1000 ∧ xi_tg it = some c) → ∀ u, u ∈ xq_sl h its X1.length Y2.length ↔ u ∈ xl_fs h pr (xk_evs Y2) := by
  intro Y2; induction Y2 with
  | nil => intro X1 pr _ _ u; exact ⟨fun h => (by cases h), fun h => by cases h⟩
  | cons it Y2 ih =>
    intro X1 pr hi hw u
    have hg : its[X1.length]? = some it := by rw [hi]; simp
    obtain ⟨iw, h8, c, hc, htg⟩ := hw it (by simp)
    have i := ih (X1 ++ [it]) (pr ++ xk_evi it) (by rw [hi]; simp) (fun u hu => hw u (by simp [hu])) u
    rw [List.length_append, List.length_singleton] at i
    show u ∈ (match its[X1.length]? with
      | some it => xq_s1 h its X1.length it
      | none => []) ++ xq_sl h its (X1.length + 1) Y2.length ↔ _
    rw [hg]
    show u ∈ xq_s1 h its X1.length it ++ xq_sl h its (X1.length + 1) Y2.length ↔ _
    have e1 : xk_evi it = xr_uv (nI c) (xi_x it).2.2.2.1 := by unfold xk_evi; rw [if_pos h8, htg]
    have e2 : xq_s1 h its X1.length it = xl_fs h pr (xk_evi it) := by
      rw [e1, yq_fs1 h hc]
      unfold xq_s1
      rw [if_neg (by omega), if_neg (by omega), List.append_nil, yq_ld w iw]
      unfold xq_us
      congr 1
      funext e
      have : xq_kn h its X1.length it e.2 = xl_d h e.2 c := by
        unfold xq_kn; rw [if_pos h8, yq_d_col, htg]; rfl
      rw [this]
    rw [List.mem_append, i, e2, show xk_evs (it :: Y2) = xk_evi it ++ xk_evs Y2 by simp [xk_evs], yq_fs_app, List.mem_append]
end
theorem yq_hdr (h : List (Nat × Nat)) (hl : h.length ≤ 60) (pr : List (Nat × Nat × Nat × Int32)) (u : Nat × Nat) : u ∈ xq_hl h 0 h.length ↔ u ∈ xl_fs h pr (xk_hev h) := by
  have key : ∀ (es : List (Nat × Nat × Nat × Int32)) pr, (∀ e, e ∈ es → e.1 = 3) → xl_fs h pr es = es.flatMap (fun e => xl_f2 h e ++ xl_f3 e) := by
    intro es; induction es with
    | nil => intro pr _; rfl
    | cons e es ih =>
      intro pr he
      show xl_f1 h pr e ++ xl_f2 h e ++ xl_f3 e ++ xl_fs h (pr ++ [e]) es = _
      have h3 := he e (by simp)
      have f1 : xl_f1 h pr e = [] := by unfold xl_f1; simp [h3]
      rw [f1, ih _ (fun u hu => he u (by simp [hu])), List.flatMap_cons, List.nil_append]
  have hone : ∀ i e, h[i]? = some e → xq_h1 h i = xl_f2 h (3, e.2, e.1, nI i) ++ xl_f3 (3, e.2, e.1, nI i) := by
    intro i e hi
    have hlt := xa_some_lt hi
    unfold xq_h1 xl_f2 xl_f3
    rw [hi]
    simp only [nI_clamp (show i < 2 ^ 31 by omega)]
    have d1 : xl_d h e.1 i = (xq_col (h.take i) e.1).isSome := by
      have := yq_d_all (h.take i) e.1
      unfold xl_d at this ⊢
      rw [← this, List.take_length]
    have d2 : (nI i = (4 : Int32)) ↔ i = 4 := xa_eql 4 (by omega) (by omega)
    rw [d1]
    cases (xq_col (h.take i) e.1).isSome with
    | true =>
      by_cases h4 : i = 4
      · simp [d2, eq_true h4]
      · simp [d2, eq_false h4]
    | false =>
      by_cases h4 : i = 4
      · simp [d2, eq_true h4]
      · simp [d2, eq_false h4]
  rw [key _ _ (fun e he => by
    unfold xk_hev at he
    obtain ⟨a, _, rfl⟩ := List.mem_map.mp he
    rfl), yq_hl_m, List.mem_flatMap]
  constructor
  · rintro ⟨i, a, b, c⟩
    have hi : h[i]? = some h[i] := List.getElem?_eq_getElem (by omega)
    rw [hone i _ hi] at c
    exact ⟨_, List.mem_map.mpr ⟨(h[i], i), List.mem_zipIdx_iff_getElem?.mpr hi, rfl⟩, c⟩
  · rintro ⟨e, he, c⟩
    unfold xk_hev at he
    obtain ⟨⟨a, i⟩, ha, rfl⟩ := List.mem_map.mp he
    have hi := List.mem_zipIdx_iff_getElem?.mp ha
    exact ⟨i, by omega, by have := xa_some_lt hi; omega, by rw [hone i a hi]; exact c⟩
section
variable {ts : List (Nat × Nat × Nat × Nat)} {L : Nat} {F : xi_F} {G C : List xi_I} {Ps Rs : List (List xi_I)}
theorem yg_flat_ix {Rs : List (List xi_I)} {r : Nat} {W : List xi_I} (h : Rs[r]? = some W) : Rs.flatten = (Rs.take r).flatten ++ (W ++ (Rs.drop (r + 1)).flatten) ∧ (Rs.take (r + 1)).flatten = (Rs.take r).flatten ++ W := by
  have hlt := xa_some_lt h
  have e1 : Rs.take (r + 1) = Rs.take r ++ [W] := by rw [List.take_add_one, h]; rfl
  have e2 : Rs = Rs.take (r + 1) ++ Rs.drop (r + 1) := (List.take_append_drop (r + 1) Rs).symm
  refine ⟨?_, by rw [e1]; simp⟩
  conv => lhs; rw [e2, e1]
  simp
theorem yg_row (d : yg_DC ts L F G Ps C Rs) {r : Nat} {W : List xi_I} (h : Rs[r]? = some W) : F.2.2.2.2[r]? = some ((G ++ Ps.flatten ++ C).length + (Rs.take r).flatten.length) ∧ (F.2.2.2.2[r + 1]?.getD F.1.length) - ((G ++ Ps.flatten ++ C).length + (Rs.take r).flatten.length) = W.length ∧ F.1[(G ++ Ps.flatten ++ C).length + (Rs.take r).flatten.length]? = W.head? := by
  have hlt := xa_some_lt h
  obtain ⟨f1, f2⟩ := yg_flat_ix h
  have hW := (d.r r W h).1
  refine ⟨by rw [d.rs]; exact yg_sta_ix Rs _ r hlt, ?_, ?_⟩
  · by_cases hr : r + 1 < Rs.length
    · rw [d.rs, yg_sta_ix Rs _ (r + 1) hr, f2]
      simp only [Option.getD_some, List.length_append]; omega
    · rw [d.rs, List.getElem?_eq_none (by rw [yg_sta_len]; omega), d.its, f1, List.drop_of_length_le (by omega)]
      simp only [Option.getD_none, List.length_append, List.flatten_nil, List.length_nil]
      omega
  · rw [d.its, List.getElem?_append_right (by omega), Nat.add_sub_cancel_left, f1, List.getElem?_append_right (by omega), Nat.sub_self]
    cases W with
    | nil => exact absurd rfl hW
    | cons a W => rfl
theorem yq_rw_m {n : Nat} (u : Nat × Nat) : ∀ (Ws : List (List xi_I)) r, u ∈ yq_rw n r Ws ↔ ∃ i W, Ws[i]? = some W ∧ (W.length ≠ n ∨ 6 ≤ r + i) ∧ u = (4, (W.head?.map xi_fi).getD 0) := by
  intro Ws; induction Ws with
  | nil => intro r; exact ⟨fun h => (by cases h), fun ⟨i, W, a, _⟩ => by simp at a⟩
  | cons W Ws ih =>
    intro r
    show u ∈ (if W.length ≠ n ∨ 6 ≤ r then [(4, (W.head?.map xi_fi).getD 0)] else []) ++ yq_rw n (r + 1) Ws ↔ _
    rw [List.mem_append, ih]
    constructor
    · rintro (a | ⟨i, V, a, b, c⟩)
      · split at a
        · rename_i hc
          exact ⟨0, W, rfl, hc, List.mem_singleton.mp a⟩
        · cases a
      · exact ⟨i + 1, V, a, by omega, c⟩
    · rintro ⟨i, V, a, b, c⟩
      cases i with
      | zero => cases a; rw [if_pos (show W.length ≠ n ∨ 6 ≤ r from b)]; exact Or.inl (by rw [c]; simp)
      | succ i => exact Or.inr ⟨i, V, a, by omega, c⟩
theorem yq_same (w : xt_WF ts L) (d : yg_DC ts L F G Ps C Rs) : xq_fo none (xq_all F) = xq_fo none (yq_ru (G ++ Ps.flatten ++ C) ++ yq_rw F.2.2.2.1.length 0 Rs ++ xl_fs F.2.2.2.1 [] (xk_evs (G ++ Ps.flatten ++ C) ++ xk_hev F.2.2.2.1 ++ xk_evs Rs.flatten)) := by
  obtain ⟨p, hP⟩ := d.P
  have hw : ∀ it, it ∈ F.1 → xg_IW ts L it := fun it hi => (hP.2.1 it hi).1
  have hX : ∀ it, it ∈ G ++ Ps.flatten ++ C → xi_k it ≠ 8 := by
    intro it hi
    rcases List.mem_append.mp hi with hi | hi
    · rcases List.mem_append.mp hi with hi | hi
      · rw [d.g it hi]; decide
      · obtain ⟨P, hP', hi'⟩ := List.mem_flatten.mp hi
        obtain ⟨i, hlt, e⟩ := List.getElem_of_mem hP'
        obtain ⟨_, a | a⟩ := d.p i P (by rw [List.getElem?_eq_getElem hlt, e])
        · obtain ⟨A, B, rfl, _, _, h1, h2⟩ := a
          rcases List.mem_append.mp hi' with hi' | hi'
          · rw [h1 it hi']; decide
          · have := h2 it hi'; omega
        · rw [a.2 it hi']; decide
    · rw [d.c it hi]; decide
  have hYc : ∀ it, it ∈ Rs.flatten → xi_k it = 8 ∧ ∃ c, c < 1000 ∧ xi_tg it = some c := by
    intro it hi
    obtain ⟨W, hW, hi'⟩ := List.mem_flatten.mp hi
    obtain ⟨r, hlt, e⟩ := List.getElem_of_mem hW
    obtain ⟨j, hj, e2⟩ := List.getElem_of_mem hi'
    obtain ⟨a, b, c⟩ := (d.r r W (by rw [List.getElem?_eq_getElem hlt, e])).2 j it (by rw [List.getElem?_eq_getElem hj, e2])
    refine ⟨a, j, ?_, by rw [c, Nat.zero_add]⟩
    have h60 : F.1.length ≤ 60 := (yg_Wf w d).2.1
    have : W.length ≤ F.1.length := by
      rw [d.its, List.length_append]
      have := (yg_flat_ix (Rs := Rs) (r := r) (W := W) (by rw [List.getElem?_eq_getElem hlt, e])).1
      rw [this]; simp only [List.length_append]; omega
    omega
  have hlen : F.1.length = (G ++ Ps.flatten ++ C).length + Rs.flatten.length := by rw [d.its, List.length_append]
  have sl_app : ∀ (h : List (Nat × Nat)) (its : List xi_I) (u : Nat × Nat) m1 m2 c, u ∈ xq_sl h its c (m1 + m2) ↔ u ∈ xq_sl h its c m1 ∨ u ∈ xq_sl h its (c + m1) m2 := by
    intro h its u m1; induction m1 with
    | zero => intro m2 c; rw [Nat.zero_add, Nat.add_zero]; exact ⟨fun h => Or.inr h, fun h => by rcases h with h | h; cases h; exact h⟩
    | succ m1 ih =>
      intro m2 c
      rw [show m1 + 1 + m2 = (m1 + m2) + 1 by omega]
      show u ∈ (match its[c]? with
        | some it => xq_s1 h its c it
        | none => []) ++ xq_sl h its (c + 1) (m1 + m2) ↔ u ∈ (match its[c]? with
        | some it => xq_s1 h its c it
        | none => []) ++ xq_sl h its (c + 1) m1 ∨ _
      rw [List.mem_append, List.mem_append, ih, show c + 1 + m1 = c + (m1 + 1) by omega, or_assoc]
  have e1 := fun u => yq_stmts w (h := F.2.2.2.1) (its := F.1) (Y := Rs.flatten) (G ++ Ps.flatten ++ C) [] (by rw [d.its]; simp) (fun it hi => ⟨hw it (by rw [d.its]; exact List.mem_append_left _ hi), hX it hi⟩) (fun v => by simp [xl_as, xk_evs, xq_asg]) u
  have e2 := fun u pr => yq_cells w (h := F.2.2.2.1) (its := F.1) Rs.flatten (G ++ Ps.flatten ++ C) pr d.its (fun it hi => ⟨hw it (by rw [d.its]; exact List.mem_append_right _ hi), hYc it hi⟩) u
  have e3 := fun u pr => yq_hdr F.2.2.2.1 d.hl pr u
  have hfi : ∀ r W, Rs[r]? = some W → (F.1[(G ++ Ps.flatten ++ C).length + (Rs.take r).flatten.length]?.map xi_fi).getD 0 = (W.head?.map xi_fi).getD 0 := fun r W hW => by rw [(yg_row d hW).2.2]
  have row : ∀ r W u, Rs[r]? = some W → (u ∈ xq_r1 F r ↔ ((W.length ≠ F.2.2.2.1.length ∨ r = 6) ∧ u = (4, (W.head?.map xi_fi).getD 0))) := by
    intro r W u hW
    obtain ⟨g1, g2, g3⟩ := yg_row d hW
    unfold xq_r1
    rw [g1]
    simp only
    rw [g2, g3]
    split
    · rename_i hc; exact ⟨fun h => ⟨hc, List.mem_singleton.mp h⟩, fun h => by rw [h.2]; simp⟩
    · rename_i hc; exact ⟨fun h => (by cases h), fun h => absurd h.1 hc⟩
  have hrl : F.2.2.2.2.length = Rs.length := by rw [d.rs, yg_sta_len]
  refine yq_min (fun u hu => ?_) (fun u hu => ?_)
  · unfold xq_all at hu
    rcases List.mem_append.mp hu with hu | hu
    · rcases List.mem_append.mp hu with hu | hu
      · refine ⟨u, ?_, Or.inr ⟨rfl, Nat.le_refl _⟩⟩
        rw [List.mem_append, List.mem_append, yq_fs_app, yq_fs_app, List.mem_append, List.mem_append]
        exact Or.inr (Or.inl (Or.inr ((e3 u _).mp hu)))
      · refine ⟨u, ?_, Or.inr ⟨rfl, Nat.le_refl _⟩⟩
        rw [hlen, sl_app] at hu
        rw [List.mem_append, List.mem_append, yq_fs_app, yq_fs_app, List.mem_append, List.mem_append]
        rcases hu with hu | hu
        · rcases (e1 u).mp hu with hu | hu
          · exact Or.inl (Or.inl hu)
          · exact Or.inr (Or.inl (Or.inl hu))
        · rw [Nat.zero_add] at hu
          exact Or.inr (Or.inr ((e2 u _).mp hu))
    · refine ⟨u, ?_, Or.inr ⟨rfl, Nat.le_refl _⟩⟩
      obtain ⟨r, r1, r2, r3⟩ := (yq_rl_m F u _ _).mp hu
      have hW : Rs[r]? = some Rs[r] := List.getElem?_eq_getElem (by omega)
      obtain ⟨c1, c2⟩ := (row r _ u hW).mp r3
      rw [List.mem_append, List.mem_append]
      exact Or.inl (Or.inr ((yq_rw_m u Rs 0).mpr ⟨r, _, hW, by omega, c2⟩))
  · rw [List.mem_append, List.mem_append, yq_fs_app, yq_fs_app, List.mem_append, List.mem_append] at hu
    have mk : ∀ v, v ∈ xq_hl F.2.2.2.1 0 F.2.2.2.1.length ∨ v ∈ xq_sl F.2.2.2.1 F.1 0 F.1.length ∨ v ∈ xq_rl F 0 F.2.2.2.2.length → v ∈ xq_all F := by
      intro v hv
      unfold xq_all
      rw [List.mem_append, List.mem_append, or_assoc]; exact hv
    rcases hu with (hu | hu) | ((hu | hu) | hu)
    · refine ⟨u, mk u (Or.inr (Or.inl ?_)), Or.inr ⟨rfl, Nat.le_refl _⟩⟩
      rw [hlen, sl_app]; exact Or.inl ((e1 u).mpr (Or.inl hu))
    · obtain ⟨r, W, hW, hc, he⟩ := (yq_rw_m u Rs 0).mp hu
      have hlt := xa_some_lt hW
      by_cases hc2 : W.length ≠ F.2.2.2.1.length ∨ r = 6
      · exact ⟨u, mk u (Or.inr (Or.inr ((yq_rl_m F u _ _).mpr ⟨r, by omega, by omega, (row r W u hW).mpr ⟨hc2, he⟩⟩))), Or.inr ⟨rfl, Nat.le_refl _⟩⟩
      · have h6 : 6 < r := by omega
        have hW6 : Rs[6]? = some Rs[6] := List.getElem?_eq_getElem (by omega)
        refine ⟨(4, (Rs[6].head?.map xi_fi).getD 0), mk _ (Or.inr (Or.inr ((yq_rl_m F _ _ _).mpr ⟨6, by omega, by omega, (row 6 _ _ hW6).mpr ⟨Or.inr rfl, rfl⟩⟩))), ?_⟩
        rw [he]
        have hne6 := (d.r 6 _ hW6).1
        have hne := (d.r r W hW).1
        cases hd6 : Rs[6] with
        | nil => exact absurd hd6 hne6
        | cons a6 t6 =>
          cases W with
          | nil => exact absurd rfl hne
          | cons a t =>
            rw [hd6] at hW6
            have hpw : (Rs.flatten).Pairwise (fun u v => xi_la u ≤ xi_fi v) := by
              have := hP.2.2.1
              rw [d.its] at this
              exact (List.pairwise_append.mp this).2.1
            have hlt2 : xi_la a6 ≤ xi_fi a := by
              rw [(yg_flat_ix hW6).1] at hpw
              have p2 := (List.pairwise_append.mp hpw).2.1
              rw [List.cons_append] at p2
              refine (List.pairwise_cons.mp p2).1 a (List.mem_append_right _ (List.mem_flatten.mpr ⟨a :: t, ?_, by simp⟩))
              refine List.mem_of_getElem? (i := r - 7) ?_
              rw [List.getElem?_drop, show 6 + 1 + (r - 7) = r by omega]; exact hW
            have hw6 := hw a6 (by
              rw [d.its]
              exact List.mem_append_right _ (List.mem_flatten.mpr ⟨a6 :: t6, List.mem_of_getElem? hW6, by simp⟩))
            have hk6 := (hYc a6 (List.mem_flatten.mpr ⟨a6 :: t6, List.mem_of_getElem? hW6, by simp⟩)).1
            have hla := (xg_IX_la w (hw6.2.2.1 (Or.inr hk6))).1
            show yq_le (4, xi_fi a6) (4, xi_fi a)
            exact Or.inl (by show xi_fi a6 < xi_fi a; omega)
    · refine ⟨u, mk u (Or.inr (Or.inl ?_)), Or.inr ⟨rfl, Nat.le_refl _⟩⟩
      rw [hlen, sl_app]; exact Or.inl ((e1 u).mpr (Or.inr hu))
    · exact ⟨u, mk u (Or.inl ((e3 u _).mpr hu)), Or.inr ⟨rfl, Nat.le_refl _⟩⟩
    · refine ⟨u, mk u (Or.inr (Or.inl ?_)), Or.inr ⟨rfl, Nat.le_refl _⟩⟩
      rw [hlen, sl_app, Nat.zero_add]; exact Or.inr ((e2 u _).mpr hu)
end
