/-! WHAT THE GRAMMAR MAKES -/
section
variable {ts : List (Nat × Nat × Nat × Nat)} {L : Nat}
theorem yg_nm (w : xt_WF ts L) {i : Nat} (h : xt_kd ts L i = 258) : xt_nm ts L i < 20000 := by have := xt_nm_b w (i := i) (by omega); omega
theorem yg_rul3 {le wh ft fg p q : Nat} {mo : Option Nat} {ru : xi_R} (h : xi_rul3 (xt_kd ts L) (xt_nm ts L) le mo wh ft fg p = .inr (q, ru)) : xi_le ru = le ∧ xi_mo ru = mo ∧ xi_wh ru = wh ∧ xi_ft ru = ft ∧ xi_fg ru = fg := by
  unfold xi_rul3 at h
  split at h
  · cases h
  · split at h
    · split at h
      · cases h
      · cases h; exact ⟨rfl, rfl, rfl, rfl, rfl⟩
    · cases h; exact ⟨rfl, rfl, rfl, rfl, rfl⟩
theorem yg_rul2 (w : xt_WF ts L) {le p q : Nat} {mo : Option Nat} {ru : xi_R} (h : xi_rul2 (xt_kd ts L) (xt_nm ts L) le mo p = .inr (q, ru)) : xi_le ru = le ∧ xi_mo ru = mo ∧ xi_wh ru ≤ 1 ∧ xi_ft ru ≤ 2 ∧ xi_fg ru < 20000 := by
  have hw : (if xt_kd ts L (p + 1) = 78 then 1 else 0) ≤ 1 := by split <;> omega
  unfold xi_rul2 at h
  split at h
  · cases h
  · split at h
    · cases h
    · split at h
      · cases h
      · split at h
        · obtain ⟨a, b, c, d, e⟩ := yg_rul3 h
          exact ⟨a, b, by omega, by omega, by omega⟩
        · split at h
          · split at h
            · cases h
            · rename_i h5
              obtain ⟨a, b, c, d, e⟩ := yg_rul3 h
              have := yg_nm w (i := p + 4) (by omega)
              exact ⟨a, b, by omega, by omega, by omega⟩
          · split at h
            · cases h
            · rename_i h5
              obtain ⟨a, b, c, d, e⟩ := yg_rul3 h
              have := yg_nm w (i := p + 3) (by omega)
              exact ⟨a, b, by omega, by omega, by omega⟩
theorem yg_rul (w : xt_WF ts L) {p q : Nat} {ru : xi_R} (hr : xi_isR (xt_kd ts L) p = true) (h : xi_rul (xt_kd ts L) (xt_nm ts L) p = .inr (q, ru)) : xg_RW ru := by
  have hp : xt_kd ts L p = 258 := by
    unfold xi_isR at hr
    rw [Bool.and_eq_true] at hr
    exact of_decide_eq_true hr.1
  have hn := yg_nm w hp
  unfold xi_rul at h
  split at h
  · obtain ⟨a, b, c, d, e⟩ := yg_rul2 w h
    refine ⟨by omega, fun k hk => ?_, c, d, e⟩
    rw [b] at hk
    split at hk
    · rename_i h2; cases hk; exact yg_nm w h2
    · cases hk
  · obtain ⟨a, b, c, d, e⟩ := yg_rul2 w h
    refine ⟨by omega, fun k hk => ?_, c, d, e⟩
    rw [b] at hk; cases hk; exact hn
/-- what stands in an expression's place -/
theorem yg_ix (w : xt_WF ts L) {n lv k part p0 p q : Nat} {tg : Option Nat} {ok : Bool} {x : xp_X} {ru : xi_R} (hlv : lv ≤ 5) (hok : ok = decide (k = 4)) (h0 : p0 ≤ p) (h : xp_P (xt_kd ts L) (xt_nm ts L) (xt_pl ts L) n 0 lv 0 ok p = .inr (q, x)) : xg_IX ts L (k, part, xt_pl ts L p0, xt_en ts L (q - 1), tg, x, ru) ∧ p < q ∧ q ≤ ts.length ∧ xt_pl ts L p0 < 120 ∧ xt_en ts L (q - 1) ≤ 120 ∧ xt_en ts L (q - 1) ≤ xt_pl ts L q := by
  have hD := xf_D_P _ _ _ hlv h
  have hl := xp_len w hlv (by omega) h
  have hq := w.2.2 (q - 1) (by omega)
  have hL := w.1
  refine ⟨⟨lv, p, q, hlv, by rw [hok] at hD; exact hD, xt_pl_mono w _ _ h0, rfl⟩, hl.1, hl.2.1, xt_pl_lt w (by omega), by omega, ?_⟩
  rw [show q = q - 1 + 1 by omega]; exact hq.2.2.1
theorem yg_st (w : xt_WF ts L) {part k p q : Nat} {it : xi_I} (hk : k ≤ 4) (h : xi_st (xt_kd ts L) (xt_nm ts L) (xt_pl ts L) (xt_en ts L) part k p = .inr (q, it)) : xg_IW ts L it ∧ xi_pt it = part ∧ xi_fi it = xt_pl ts L p ∧ xi_la it ≤ xt_pl ts L q ∧ (k ≤ 3 → xi_k it = k) ∧ (k = 4 → 4 ≤ xi_k it ∧ xi_k it ≤ 7) ∧ (xi_k it ≠ 7 → xi_ru it = xi_r0) := by
  have hL := w.1
  have en1 : ∀ i, i < ts.length → xt_en ts L i ≤ xt_pl ts L (i + 1) ∧ xt_en ts L i ≤ 120 := fun i hi => by have := w.2.2 i hi; omega
  unfold xi_st at h
  by_cases c1 : k = 4 ∧ xt_kd ts L p = 88
  · rw [if_pos c1] at h; cases h
    have h1 := xt_kd_lt w (i := p) (by omega)
    have h2 := xt_pl_lt w h1
    have h3 := en1 p h1
    exact ⟨⟨by show 5 < 9; omega, fun h => by have h' : 5 = 7 := h; omega, fun h => by have h' : 5 ≤ 4 ∨ 5 = 8 := h; omega, fun _ => ⟨rfl, rfl⟩, fun h => by have h' : 5 ≤ 2 := h; omega, fun _ => rfl, h2, h3.2⟩, rfl, rfl, h3.1, fun h => by omega, fun _ => ⟨by show 4 ≤ 5; omega, by show 5 ≤ 7; omega⟩, fun _ => rfl⟩
  rw [if_neg c1] at h
  by_cases c2 : k = 4 ∧ xt_kd ts L p = 33 ∧ xt_kd ts L (p + 1) = 88
  · rw [if_pos c2] at h; cases h
    have h1 := xt_kd_lt w (i := p) (by omega)
    have h1' := xt_kd_lt w (i := p + 1) (by omega)
    have h2 := xt_pl_lt w h1
    have h3 := en1 (p + 1) h1'
    exact ⟨⟨by show 6 < 9; omega, fun h => by have h' : 6 = 7 := h; omega, fun h => by have h' : 6 ≤ 4 ∨ 6 = 8 := h; omega, fun _ => ⟨rfl, rfl⟩, fun h => by have h' : 6 ≤ 2 := h; omega, fun _ => rfl, h2, h3.2⟩, rfl, rfl, h3.1, fun h => by omega, fun _ => ⟨by show 4 ≤ 6; omega, by show 6 ≤ 7; omega⟩, fun _ => rfl⟩
  rw [if_neg c2] at h
  by_cases c3 : k = 4 ∧ xi_isR (xt_kd ts L) p = true
  · rw [if_pos c3] at h
    cases hr : xi_rul (xt_kd ts L) (xt_nm ts L) p with
    | inl g => rw [hr] at h; cases h
    | inr z =>
      obtain ⟨q', ru⟩ := z
      rw [hr] at h; cases h
      have hp : xt_kd ts L p = 258 := by
        have := c3.2
        unfold xi_isR at this
        rw [Bool.and_eq_true] at this
        exact of_decide_eq_true this.1
      have h1 := xt_kd_lt w (i := p) (by omega)
      have h2 := xt_pl_lt w h1
      have hl := xi_rul_len w (by omega) hr
      have h3 := en1 (q - 1) (by omega)
      rw [show q - 1 + 1 = q by omega] at h3
      exact ⟨⟨by show 7 < 9; omega, fun _ => yg_rul w c3.2 hr, fun h => by have h' : 7 ≤ 4 ∨ 7 = 8 := h; omega, fun _ => ⟨rfl, rfl⟩, fun h => by have h' : 7 ≤ 2 := h; omega, fun _ => rfl, h2, h3.2⟩, rfl, rfl, h3.1, fun h => by omega, fun _ => ⟨by show 4 ≤ 7; omega, by show 7 ≤ 7; omega⟩, fun h => absurd rfl h⟩
  rw [if_neg c3] at h
  by_cases c4 : k ≤ 2 ∧ xt_kd ts L p = 259 ∧ xt_kd ts L (p + 1) = 61
  · rw [if_pos c4] at h
    cases hx : xp_P (xt_kd ts L) (xt_nm ts L) (xt_pl ts L) 64 0 0 0 false (p + 2) with
    | inl g => rw [hx] at h; cases h
    | inr z =>
      obtain ⟨q', x⟩ := z
      rw [hx] at h; cases h
      obtain ⟨i1, i2, i3, i4, i5, i6⟩ := yg_ix (k := k) (part := part) (p0 := p) (tg := some (xt_nm ts L p)) (ru := xi_r0) w (by omega) (by simp; omega) (by omega) hx
      exact ⟨⟨by show k < 9; omega, fun h => absurd (show k = 7 from h) (by omega), fun _ => i1, fun h => absurd (show k = 5 ∨ k = 6 ∨ k = 7 from h) (by omega), fun _ v hv => by cases hv; exact xt_var_b w c4.2.1, fun h => absurd (show k = 3 ∨ k = 4 from h) (by omega), i4, i5⟩, rfl, rfl, i6, fun _ => rfl, fun h => by omega, fun _ => rfl⟩
  · rw [if_neg c4] at h
    cases hx : xp_P (xt_kd ts L) (xt_nm ts L) (xt_pl ts L) 64 0 0 0 (decide (k = 4)) p with
    | inl g => rw [hx] at h; cases h
    | inr z =>
      obtain ⟨q', x⟩ := z
      rw [hx] at h; cases h
      obtain ⟨i1, i2, i3, i4, i5, i6⟩ := yg_ix (k := k) (part := part) (p0 := p) (tg := none) (ru := xi_r0) w (by omega) rfl (by omega) hx
      exact ⟨⟨by show k < 9; omega, fun h => absurd (show k = 7 from h) (by omega), fun _ => i1, fun h => absurd (show k = 5 ∨ k = 6 ∨ k = 7 from h) (by omega), fun _ v hv => (by cases hv), fun _ => rfl, i4, i5⟩, rfl, rfl, i6, fun _ => rfl, fun h => ⟨by show 4 ≤ k; omega, by show k ≤ 7; omega⟩, fun _ => rfl⟩
/-- what holds of the items read, n columns counted -/
def yg_P (ts : List (Nat × Nat × Nat × Nat)) (L n p : Nat) (a : List xi_I) : Prop := p ≤ ts.length ∧ (∀ it, it ∈ a → xg_IW ts L it ∧ xi_la it ≤ xt_pl ts L p ∧ (xi_k it ≠ 7 → xi_ru it = xi_r0)) ∧ a.Pairwise (fun u v => xi_la u ≤ xi_fi v) ∧ xi_BD ts L a p ∧ (xi_G a).length ≤ xt_pl ts L p ∧ (xk_evs a).length + n ≤ xt_pl ts L p
theorem yg_P_m (w : xt_WF ts L) {n p q : Nat} {a : List xi_I} (h : yg_P ts L n p a) (hpq : p ≤ q) (hq : q ≤ ts.length) : yg_P ts L n q a := by
  obtain ⟨h1, h2, h3, h4, h5, h6⟩ := h
  have := xt_pl_mono w p q hpq
  exact ⟨hq, fun it hi => ⟨(h2 it hi).1, by have := (h2 it hi).2.1; omega, (h2 it hi).2.2⟩, h3, xi_BD_m w h4 hpq, by omega, by omega⟩
theorem yg_P_add {n p q : Nat} {a : List xi_I} {it : xi_I} (h : yg_P ts L n p a) (h1 : 2 * a.length + 1 ≤ p) (hpq : p < q) (hq : q ≤ ts.length) (iw : xg_IW ts L it) (hfi : xi_fi it = xt_pl ts L p) (hla : xi_la it ≤ xt_pl ts L q) (hc : (xi_x it).1.length + xt_pl ts L p ≤ xt_pl ts L q) (hg : (xi_x it).2.1.length + xt_pl ts L p ≤ xt_pl ts L q) (he : (xk_evi it).length + xt_pl ts L p ≤ xt_pl ts L q) (h7 : xi_k it = 7 → p + 6 + 2 * (xi_an (xi_ru it)).length ≤ q) (hru : xi_k it ≠ 7 → xi_ru it = xi_r0) : yg_P ts L n q (a ++ [it]) := by
  obtain ⟨b1, b2, b3, b4, b5, b6⟩ := h
  refine ⟨hq, fun u hu => ?_, ?_, xi_BD_add b4 h1 hpq hc h7, ?_, ?_⟩
  · rcases List.mem_append.mp hu with hu | hu
    · exact ⟨(b2 u hu).1, by have := (b2 u hu).2.1; omega, (b2 u hu).2.2⟩
    · rw [List.mem_singleton.mp hu]; exact ⟨iw, hla, hru⟩
  · refine List.pairwise_append.mpr ⟨b3, List.pairwise_singleton _ _, fun u hu v hv => ?_⟩
    rw [List.mem_singleton.mp hv, hfi]; exact (b2 u hu).2.1
  · rw [xi_G_app, xi_G_one, List.length_append]; omega
  · rw [xk_evs_1, List.length_append]; omega
/-- a block's items -/
def yg_kk (k : Nat) (it : xi_I) : Prop := (k ≤ 3 → xi_k it = k) ∧ (k = 4 → 4 ≤ xi_k it ∧ xi_k it ≤ 7)
theorem yg_sts (w : xt_WF ts L) {part k n : Nat} (hk : k ≤ 4) : ∀ m p a q a', ts.length < p + m → yg_P ts L n p a → 2 * a.length + 1 ≤ p → xi_sts (xt_kd ts L) (xt_nm ts L) (xt_pl ts L) (xt_en ts L) part k m p a = .inr (q, a') → ∃ add, a' = a ++ add ∧ add ≠ [] ∧ yg_P ts L n q a' ∧ p < q ∧ ∀ it, it ∈ add → xi_pt it = part ∧ yg_kk k it := by
  intro m; induction m with
  | zero => intro p a q a' hm hP; have := hP.1; omega
  | succ m ih =>
    intro p a q a' hm hP h1 h
    cases hst : xi_st (xt_kd ts L) (xt_nm ts L) (xt_pl ts L) (xt_en ts L) part k p with
    | inl g => rw [xi_sts_l hst] at h; cases h
    | inr z =>
      obtain ⟨q1, it⟩ := z
      rw [xi_sts_r hst] at h
      have hl := xi_st_len w hP.1 hk hst
      have he := xk_evi_len w hP.1 hk hst
      obtain ⟨s1, s2, s3, s4, s5, s6, s7⟩ := yg_st w hk hst
      have hP1 := yg_P_add hP h1 hl.1 hl.2.1 s1 s3 s4 hl.2.2.1 hl.2.2.2.1 he hl.2.2.2.2 s7
      by_cases h59 : xt_kd ts L q1 = 59
      · rw [if_pos h59] at h
        have hlt := xt_kd_lt w (i := q1) (by omega)
        obtain ⟨add, e1, e2, e3, e4, e5⟩ := ih (q1 + 1) (a ++ [it]) q a' (by omega) (yg_P_m w hP1 (by omega) (by omega)) (by rw [List.length_append, List.length_singleton]; omega) h
        refine ⟨it :: add, by rw [e1]; simp, by simp, e3, by omega, fun u hu => ?_⟩
        rcases List.mem_cons.mp hu with rfl | hu
        · exact ⟨s2, s5, s6⟩
        · exact e5 u hu
      · rw [if_neg h59] at h; cases h
        exact ⟨[it], rfl, by simp, hP1, by omega, fun u hu => by rw [List.mem_singleton.mp hu]; exact ⟨s2, s5, s6⟩⟩
theorem yg_blk (w : xt_WF ts L) {part k n p q : Nat} {a a' : List xi_I} (hk : k ≤ 4) (hP : yg_P ts L n p a) (h : xi_blk (xt_kd ts L) (xt_nm ts L) (xt_pl ts L) (xt_en ts L) part k p a = .inr (q, a')) : ∃ add, a' = a ++ add ∧ add ≠ [] ∧ yg_P ts L n q a' ∧ p + 1 < q ∧ ∀ it, it ∈ add → xi_pt it = part ∧ yg_kk k it := by
  unfold xi_blk at h
  split at h
  · cases h
  · rename_i h58
    have hlt := xt_kd_lt w (i := p) (by omega)
    have hts := w.1; have hts2 := w.2.1
    have hb := hP.2.2.2.1.2.1
    obtain ⟨add, e1, e2, e3, e4, e5⟩ := yg_sts w hk 121 (p + 1) a q a' (by omega) (yg_P_m w hP (by omega) (by omega)) (by omega) h
    exact ⟨add, e1, e2, e3, by omega, e5⟩
/-- a part's items -/
def yg_PK (i : Nat) (P : List xi_I) : Prop := (∀ it, it ∈ P → xi_pt it = i) ∧ ((∃ A B, P = A ++ B ∧ A ≠ [] ∧ B ≠ [] ∧ (∀ it, it ∈ A → xi_k it = 1) ∧ (∀ it, it ∈ B → 4 ≤ xi_k it ∧ xi_k it ≤ 7)) ∨ (P ≠ [] ∧ ∀ it, it ∈ P → xi_k it = 3))
theorem yg_prt (w : xt_WF ts L) {part n p q : Nat} {a a' : List xi_I} (hP : yg_P ts L n p a) (h : xi_prt (xt_kd ts L) (xt_nm ts L) (xt_pl ts L) (xt_en ts L) part p a = .inr (q, a')) : ∃ P, a' = a ++ P ∧ yg_PK part P ∧ yg_P ts L n q a' ∧ p + 2 < q := by
  unfold xi_prt at h
  split at h
  · rename_i h69
    have hlt := xt_kd_lt w (i := p) (by omega)
    obtain ⟨add, e1, e2, e3, e4, e5⟩ := yg_blk w (k := 3) (by omega) (yg_P_m w hP (by omega : p ≤ p + 1) (by omega)) h
    exact ⟨add, e1, ⟨fun it hi => (e5 it hi).1, Or.inr ⟨e2, fun it hi => (e5 it hi).2.1 (by omega)⟩⟩, e3, by omega⟩
  · split at h
    · cases h
    · rename_i h69 h87
      have hlt := xt_kd_lt w (i := p) (by omega)
      cases hb : xi_blk (xt_kd ts L) (xt_nm ts L) (xt_pl ts L) (xt_en ts L) part 1 (p + 1) a with
      | inl g => rw [hb] at h; cases h
      | inr z =>
        obtain ⟨q1, a1⟩ := z
        rw [hb] at h
        simp only at h
        split at h
        · cases h
        · rename_i h84
          have hlt1 := xt_kd_lt w (i := q1) (by omega)
          obtain ⟨A, e1, e2, e3, e4, e5⟩ := yg_blk w (k := 1) (by omega) (yg_P_m w hP (by omega : p ≤ p + 1) (by omega)) hb
          obtain ⟨B, g1, g2, g3, g4, g5⟩ := yg_blk w (k := 4) (by omega) (yg_P_m w e3 (by omega : q1 ≤ q1 + 1) (by omega)) h
          refine ⟨A ++ B, by rw [g1, e1, List.append_assoc], ⟨fun it hi => ?_, Or.inl ⟨A, B, rfl, e2, g2, fun it hi => (e5 it hi).2.1 (by omega), fun it hi => (g5 it hi).2.2 rfl⟩⟩, g3, by omega⟩
          rcases List.mem_append.mp hi with hi | hi
          · exact (e5 it hi).1
          · exact (g5 it hi).1
/-- where lists begin in their concatenation -/
def yg_sta : Nat → List (List xi_I) → List Nat
  | _, [] => []
  | g, P :: Ps => g :: yg_sta (g + P.length) Ps
theorem yg_sta_len : ∀ (Ps : List (List xi_I)) g, (yg_sta g Ps).length = Ps.length := by
  intro Ps; induction Ps with
  | nil => intro g; rfl
  | cons P Ps ih => intro g; show _ + 1 = _ + 1; rw [ih]
theorem yg_sta_app : ∀ (Ps : List (List xi_I)) g P, yg_sta g (Ps ++ [P]) = yg_sta g Ps ++ [g + Ps.flatten.length] := by
  intro Ps; induction Ps with
  | nil => intro g P; simp [yg_sta]
  | cons R Ps ih =>
    intro g P
    rw [List.cons_append]
    show g :: yg_sta (g + R.length) (Ps ++ [P]) = (g :: yg_sta (g + R.length) Ps) ++ _
    rw [ih, List.flatten_cons, List.length_append, List.cons_append, Nat.add_assoc]
theorem yg_sta_ix : ∀ (Ps : List (List xi_I)) g i, i < Ps.length → (yg_sta g Ps)[i]? = some (g + (Ps.take i).flatten.length) := by
  intro Ps; induction Ps with
  | nil => intro g i h; simp at h
  | cons P Ps ih =>
    intro g i h
    cases i with
    | zero => simp [yg_sta]
    | succ i =>
      show (yg_sta (g + P.length) Ps)[i]? = _
      rw [ih _ i (by simpa using h), List.take_succ_cons, List.flatten_cons, List.length_append, Nat.add_assoc]
def yg_PKs (Ps : List (List xi_I)) : Prop := ∀ i P, Ps[i]? = some P → yg_PK i P
theorem yg_PKs_1 {Ps : List (List xi_I)} {P : List xi_I} (h : yg_PKs Ps) (hP : yg_PK Ps.length P) : yg_PKs (Ps ++ [P]) := by
  intro i Q hQ
  rcases xa_app hQ with ⟨h1, _⟩ | ⟨h1, h2⟩
  · exact h i Q h1
  · rw [h1, h2]; exact hP
theorem yg_prs (w : xt_WF ts L) {n : Nat} {G : List xi_I} : ∀ m p a st Ps q a' st', ts.length < p + m → yg_P ts L n p a → 3 * Ps.length ≤ p → a = G ++ Ps.flatten → st = yg_sta G.length Ps → yg_PKs Ps → xi_prs (xt_kd ts L) (xt_nm ts L) (xt_pl ts L) (xt_en ts L) m p a st = .inr (q, a', st') → ∃ Ps', a' = G ++ Ps'.flatten ∧ st' = yg_sta G.length Ps' ∧ yg_PKs Ps' ∧ yg_P ts L n q a' ∧ 3 * Ps'.length ≤ q ∧ p < q := by
  intro m; induction m with
  | zero => intro p a st Ps q a' st' hm hP; have := hP.1; omega
  | succ m ih =>
    intro p a st Ps q a' st' hm hP h3 ha hst hK h
    have hstl : st.length = Ps.length := by rw [hst, yg_sta_len]
    cases hpr : xi_prt (xt_kd ts L) (xt_nm ts L) (xt_pl ts L) (xt_en ts L) st.length p a with
    | inl g => rw [xi_prs_l hpr] at h; cases h
    | inr z =>
      obtain ⟨q1, a1⟩ := z
      rw [xi_prs_r hpr] at h
      obtain ⟨P, e1, e2, e3, e4⟩ := yg_prt w hP hpr
      rw [hstl] at e2
      have ha1 : a1 = G ++ (Ps ++ [P]).flatten := by rw [e1, ha]; simp
      have hst1 : st ++ [a.length] = yg_sta G.length (Ps ++ [P]) := by rw [yg_sta_app, hst, ha, List.length_append]
      have hK1 := yg_PKs_1 hK e2
      by_cases hq : xt_kd ts L q1 = 69 ∨ xt_kd ts L q1 = 87
      · rw [if_pos hq] at h
        obtain ⟨Ps', g1, g2, g3, g4, g5, g6⟩ := ih q1 a1 _ (Ps ++ [P]) q a' st' (by omega) e3 (by rw [List.length_append, List.length_singleton]; omega) ha1 hst1 hK1 h
        exact ⟨Ps', g1, g2, g3, g4, g5, by omega⟩
      · rw [if_neg hq] at h; cases h
        exact ⟨Ps ++ [P], ha1, hst1, hK1, e3, by rw [List.length_append, List.length_singleton]; omega, by omega⟩
theorem yg_hd (w : xt_WF ts L) : ∀ m p h q h', p ≤ ts.length → ts.length < p + m → (∀ e, e ∈ h → e.1 < 26 ∧ e.2 < 120) → xi_hd (xt_kd ts L) (xt_nm ts L) (xt_pl ts L) m p h = .inr (q, h') → (∀ e, e ∈ h' → e.1 < 26 ∧ e.2 < 120) ∧ p < q ∧ q ≤ ts.length ∧ h'.length + xt_pl ts L p ≤ xt_pl ts L q + h.length ∧ 2 * h'.length + p ≤ q + 2 * h.length + 1 := by
  intro m; induction m with
  | zero => intro p h q h' hp hm; omega
  | succ m ih =>
    intro p h q h' hp hm hh e
    unfold xi_hd at e
    split at e
    · cases e
    · rename_i h259
      have hk : xt_kd ts L p = 259 := by omega
      have hlt := xt_kd_lt w (i := p) (by omega)
      have hv := xt_var_b w hk
      have hpl := xt_pl_lt w hlt
      have hs := xt_pl_s w (i := p) (by omega)
      have hh1 : ∀ e, e ∈ h ++ [(xt_nm ts L p, xt_pl ts L p)] → e.1 < 26 ∧ e.2 < 120 := fun e he => by
        rcases List.mem_append.mp he with he | he
        · exact hh e he
        · rw [List.mem_singleton.mp he]; exact ⟨hv, hpl⟩
      split at e
      · rename_i h124
        have hlt1 := xt_kd_lt w (i := p + 1) (by omega)
        obtain ⟨g1, g2, g3, g4, g5⟩ := ih (p + 2) _ q h' (by omega) (by omega) hh1 e
        rw [List.length_append, List.length_singleton] at g4 g5
        have := xt_pl_mono w (p + 1) (p + 2) (by omega)
        exact ⟨g1, by omega, g3, by omega, by omega⟩
      · cases e
        refine ⟨hh1, by omega, by omega, ?_, ?_⟩ <;> (rw [List.length_append, List.length_singleton]; omega)
/-- a row's cells -/
def yg_RK (r c0 : Nat) (W : List xi_I) : Prop := ∀ j it, W[j]? = some it → xi_k it = 8 ∧ xi_pt it = r ∧ xi_tg it = some (c0 + j)
theorem yg_cel (w : xt_WF ts L) {row n : Nat} : ∀ m c p a q a', ts.length < p + m → yg_P ts L n p a → 2 * a.length + 1 ≤ p → xi_cel (xt_kd ts L) (xt_nm ts L) (xt_pl ts L) (xt_en ts L) row m c p a = .inr (q, a') → ∃ W, a' = a ++ W ∧ W ≠ [] ∧ yg_RK row c W ∧ yg_P ts L n q a' ∧ p < q ∧ (W.head?.map xi_fi = some (xt_pl ts L p)) := by
  intro m; induction m with
  | zero => intro c p a q a' hm hP; have := hP.1; omega
  | succ m ih =>
    intro c p a q a' hm hP h1 h
    cases hx : xp_P (xt_kd ts L) (xt_nm ts L) (xt_pl ts L) 64 0 3 0 false p with
    | inl g => rw [xi_cel_l hx] at h; cases h
    | inr z =>
      obtain ⟨q1, x⟩ := z
      rw [xi_cel_r hx] at h
      obtain ⟨i1, i2, i3, i4, i5, i6⟩ := yg_ix (k := 8) (part := row) (p0 := p) (tg := some c) (ru := xi_r0) w (by omega) rfl (by omega) hx
      have hl := xp_len w (by omega) (by omega) hx
      have hu := xp_lenu w (by omega) (by omega) hx
      have iw : xg_IW ts L (8, row, xt_pl ts L p, xt_en ts L (q1 - 1), some c, x, xi_r0) := ⟨by show 8 < 9; omega, fun h => by have h' : 8 = 7 := h; omega, fun _ => i1, fun h => by have h' : 8 = 5 ∨ 8 = 6 ∨ 8 = 7 := h; omega, fun h => by have h' : 8 ≤ 2 := h; omega, fun h => by have h' : 8 = 3 ∨ 8 = 4 := h; omega, i4, i5⟩
      have hP1 : yg_P ts L n q1 (a ++ [(8, row, xt_pl ts L p, xt_en ts L (q1 - 1), some c, x, xi_r0)]) := yg_P_add hP h1 i2 i3 iw rfl i6 hl.2.2.1 hl.2.2.2 (by
        show (xr_uv _ _).length + _ ≤ _
        rw [xr_uv_len]; exact hu) (fun h => by have h' : 8 = 7 := h; omega) (fun _ => rfl)
      by_cases hb : xt_kd ts L q1 = 124 ∨ xt_kd ts L q1 = 265
      · rw [if_pos hb] at h
        have hlt := xt_kd_lt w (i := q1) (by omega)
        obtain ⟨W, e1, e2, e3, e4, e5, e6⟩ := ih (c + 1) (q1 + 1) _ q a' (by omega) (yg_P_m w hP1 (by omega) (by omega)) (by rw [List.length_append, List.length_singleton]; omega) h
        refine ⟨(8, row, xt_pl ts L p, xt_en ts L (q1 - 1), some c, x, xi_r0) :: W, by rw [e1]; simp, by simp, fun j it hj => ?_, e4, by omega, rfl⟩
        cases j with
        | zero => cases hj; exact ⟨rfl, rfl, rfl⟩
        | succ j =>
          obtain ⟨a1, a2, a3⟩ := e3 j it hj
          exact ⟨a1, a2, by rw [a3]; congr 1; omega⟩
      · rw [if_neg hb] at h; cases h
        refine ⟨[(8, row, xt_pl ts L p, xt_en ts L (q - 1), some c, x, xi_r0)], rfl, by simp, fun j it hj => ?_, hP1, i2, rfl⟩
        cases j with
        | zero => cases hj; exact ⟨rfl, rfl, rfl⟩
        | succ j => simp at hj
def yg_RKs (Rs : List (List xi_I)) : Prop := ∀ r W, Rs[r]? = some W → W ≠ [] ∧ yg_RK r 0 W
theorem yg_RKs_1 {Ps : List (List xi_I)} {P : List xi_I} (h : yg_RKs Ps) (hP : P ≠ [] ∧ yg_RK Ps.length 0 P) : yg_RKs (Ps ++ [P]) := by
  intro i Q hQ
  rcases xa_app hQ with ⟨h1, _⟩ | ⟨h1, h2⟩
  · exact h i Q h1
  · rw [h1, h2]; exact hP
/-- what the rows find -/
def yq_rw (n : Nat) : Nat → List (List xi_I) → List (Nat × Nat)
  | _, [] => []
  | r, W :: Ws => (if W.length ≠ n ∨ 6 ≤ r then [(4, (W.head?.map xi_fi).getD 0)] else []) ++ yq_rw n (r + 1) Ws
theorem yg_rws (w : xt_WF ts L) {n : Nat} {B : List xi_I} {h : List (Nat × Nat)} : ∀ m p a rs Rs q a' rs', ts.length < p + m → yg_P ts L n p a → 2 * a.length + 1 ≤ p → 2 * Rs.length ≤ p → a = B ++ Rs.flatten → rs = yg_sta B.length Rs → yg_RKs Rs → xi_rws (xt_kd ts L) (xt_nm ts L) (xt_pl ts L) (xt_en ts L) m p a rs = .inr (q, a', rs') → ∃ Rs2, a' = B ++ (Rs ++ Rs2).flatten ∧ rs' = yg_sta B.length (Rs ++ Rs2) ∧ yg_RKs (Rs ++ Rs2) ∧ yg_P ts L n q a' ∧ 2 * (Rs ++ Rs2).length ≤ q + 1 ∧ p < q ∧ ∀ er, xk_rwE (xt_kd ts L) (xt_nm ts L) (xt_pl ts L) (xt_en ts L) h m p a rs er = xq_fo er (yq_rw h.length Rs.length Rs2) := by
  intro m; induction m with
  | zero => intro p a rs Rs q a' rs' hm hP; have := hP.1; omega
  | succ m ih =>
    intro p a rs Rs q a' rs' hm hP h1 h3 ha hrs hK e
    have hrl : rs.length = Rs.length := by rw [hrs, yg_sta_len]
    have hts := w.1; have hts2 := w.2.1
    cases hc : xi_cel (xt_kd ts L) (xt_nm ts L) (xt_pl ts L) (xt_en ts L) rs.length 121 0 p a with
    | inl g => rw [xi_rws_l hc] at e; cases e
    | inr z =>
      obtain ⟨q1, a1⟩ := z
      rw [xi_rws_r hc] at e
      obtain ⟨W, e1, e2, e3, e4, e5, e6⟩ := yg_cel w 121 0 p a q1 a1 (by omega) hP h1 hc
      rw [hrl] at e3
      have ha1 : a1 = B ++ (Rs ++ [W]).flatten := by rw [e1, ha]; simp
      have hr1 : rs ++ [a.length] = yg_sta B.length (Rs ++ [W]) := by rw [yg_sta_app, hrs, ha, List.length_append]
      have hK1 := yg_RKs_1 hK ⟨e2, e3⟩
      have hrf : ∀ er, xk_rf h rs.length a.length a1.length (xt_pl ts L p) er = xq_fo er (if W.length ≠ h.length ∨ 6 ≤ Rs.length then [(4, (W.head?.map xi_fi).getD 0)] else []) := by
        intro er
        unfold xk_rf
        rw [hrl, e6, e1, List.length_append, Nat.add_sub_cancel_left]
        split
        · rfl
        · rfl
      by_cases hq : xt_kd ts L q1 = 59
      · rw [if_pos hq] at e
        have hlt := xt_kd_lt w (i := q1) (by omega)
        have hb := e4.2.2.2.1.2.1
        obtain ⟨Rs2, g1, g2, g3, g4, g5, g6, g7⟩ := ih (q1 + 1) a1 _ (Rs ++ [W]) q a' rs' (by omega) (yg_P_m w e4 (by omega) (by omega)) (by omega) (by rw [List.length_append, List.length_singleton]; omega) ha1 hr1 hK1 e
        refine ⟨W :: Rs2, by rw [g1]; simp, by rw [g2]; simp, by rw [show Rs ++ W :: Rs2 = Rs ++ [W] ++ Rs2 by simp]; exact g3, g4, by rw [show Rs ++ W :: Rs2 = Rs ++ [W] ++ Rs2 by simp]; exact g5, by omega, fun er => ?_⟩
        rw [xk_rwE_r hc, if_pos hq, g7, hrf, ← xq_fo_app, List.length_append, List.length_singleton]; rfl
      · rw [if_neg hq] at e; cases e
        refine ⟨[W], ha1, hr1, hK1, e4, by rw [List.length_append, List.length_singleton]; omega, e5, fun er => ?_⟩
        rw [xk_rwE_r hc, if_neg hq, hrf]
        show _ = xq_fo er (_ ++ [])
        rw [List.append_nil]
end
