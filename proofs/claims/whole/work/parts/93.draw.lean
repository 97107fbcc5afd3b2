/-! WIDTHS AND DIGITS -/
theorem xd_div (x : Int32) : (x / 10).toInt.natAbs = x.toInt.natAbs / 10 := by
  have h := Int32.toInt_div x 10
  have e : (10 : Int32).toInt = 10 := rfl
  have hl := Int32.le_toInt x
  have hh := Int32.toInt_lt x
  rw [e] at h
  have hb : (x.toInt.tdiv 10).bmod (2 ^ 32) = x.toInt.tdiv 10 := by
    apply Int.bmod_eq_of_le
    · have : x.toInt.tdiv 10 = if 0 ≤ x.toInt then x.toInt / 10 else -((-x.toInt) / 10) := by
        split
        · exact Int.tdiv_eq_ediv_of_nonneg (by assumption)
        · rename_i hn
          rw [← Int.tdiv_eq_ediv_of_nonneg (by omega), Int.neg_tdiv, Int.neg_neg]
      rw [this]; split <;> omega
    · have : x.toInt.tdiv 10 = if 0 ≤ x.toInt then x.toInt / 10 else -((-x.toInt) / 10) := by
        split
        · exact Int.tdiv_eq_ediv_of_nonneg (by assumption)
        · rename_i hn
          rw [← Int.tdiv_eq_ediv_of_nonneg (by omega), Int.neg_tdiv, Int.neg_neg]
      rw [this]; split <;> omega
  rw [hb] at h
  rw [h, Int.natAbs_tdiv]; rfl
theorem xd_abs (x : Int32) : x.toInt.natAbs < 10 ^ 10 := by
  have hl := Int32.le_toInt x
  have hh := Int32.toInt_lt x
  omega
theorem xd_zero {x : Int32} (h : x.toInt.natAbs < 1) : x = 0 := by
  have : x.toInt = 0 := by omega
  exact Int32.toInt_inj.mp (by rw [this]; rfl)
def xd_wl : Nat → Int32 → Nat → Nat
  | 0, _, w => w
  | n + 1, x, w => if x = 0 then w else xd_wl n (x / 10) (w + 1)
def xd_wd (v : Int32) : Nat := xd_wl 10 (v / 10) (if v < 0 then 2 else 1)
theorem xd_wl_b : ∀ n x w, w ≤ xd_wl n x w ∧ xd_wl n x w ≤ w + n := by
  intro n; induction n with
  | zero => intro x w; exact ⟨Nat.le_refl _, Nat.le_refl _⟩
  | succ n ih =>
    intro x w
    show w ≤ (if x = 0 then w else xd_wl n (x / 10) (w + 1)) ∧ (if x = 0 then w else xd_wl n (x / 10) (w + 1)) ≤ w + (n + 1)
    split
    · omega
    · have := ih (x / 10) (w + 1); omega
theorem xd_wd_b (v : Int32) : 1 ≤ xd_wd v ∧ xd_wd v ≤ 12 := by
  unfold xd_wd
  by_cases h : v < 0
  · rw [if_pos h]; have := xd_wl_b 10 (v / 10) 2; omega
  · rw [if_neg h]; have := xd_wl_b 10 (v / 10) 1; omega
theorem xd_widthC {I : pI} {R : pR} {K Q : Int32 → pI → pR → Prop} : ∀ n x w t, t + n = 10 → K (nI (xd_wl n x w)) I R → l_dr_widthOf_17 K Q (n + 1) (nI w) x (nI t) I R := by
  intro n; induction n with
  | zero =>
    intro x w t ht h
    unfold l_dr_widthOf_17
    exact xa_t ((xa_lle 10 (by omega) (by omega)).mpr (by omega)) h
  | succ n ih =>
    intro x w t ht h
    unfold l_dr_widthOf_17
    refine xa_f (fun hh => by have := (xa_lle 10 (by omega) (by omega)).mp hh; omega) ?_
    unfold xd_wl at h
    by_cases hx : x = 0
    · rw [if_pos hx] at h; exact xa_t hx h
    · rw [if_neg hx] at h
      rw [nI_1, nI_1]
      exact xa_f hx (ih _ _ _ (by omega) h)
theorem xd_widthOf {I : pI} {R : pR} {v : Int32} {Q : Int32 → pI → pR → Prop} (h : Q (nI (xd_wd v)) I R) : w_dr_widthOf v I R Q := by
  unfold w_dr_widthOf
  unfold xd_wd at h
  by_cases hv : v < 0
  · rw [if_pos hv] at h
    exact xa_f (fun hh => absurd hv (Int32.not_lt.mpr hh)) ⟨11, xd_widthC 10 _ 2 0 rfl h⟩
  · rw [if_neg hv] at h
    exact xa_t (Int32.not_lt.mp hv) ⟨11, xd_widthC 10 _ 1 0 rfl h⟩
theorem xd_widthR {I : pI} {R : pR} {K Q : Int32 → pI → pR → Prop} : ∀ n (x : Int32) w, x.toInt.natAbs < 10 ^ n → K (nI (xd_wl n x w)) I R → l_md_width_15 K Q (n + 1) (nI w) x I R := by
  intro n; induction n with
  | zero =>
    intro x w hx h
    unfold l_md_width_15
    exact xa_t (xd_zero (by simpa using hx)) h
  | succ n ih =>
    intro x w hx h
    unfold l_md_width_15
    unfold xd_wl at h
    by_cases h0 : x = 0
    · rw [if_pos h0] at h; exact xa_t h0 h
    · rw [if_neg h0] at h
      rw [nI_1]
      refine xa_f h0 (ih _ _ ?_ h)
      rw [xd_div]
      rw [Nat.pow_succ] at hx
      omega
theorem xd_width {I : pI} {R : pR} {v : Int32} {Q : Int32 → pI → pR → Prop} (h : Q (nI (xd_wd v)) I R) : w_md_width v I R Q := by
  unfold w_md_width
  unfold xd_wd at h
  by_cases hv : v < 0
  · rw [if_pos hv] at h
    exact xa_f (fun hh => absurd hv (Int32.not_lt.mpr hh)) ⟨11, xd_widthR 10 _ 2 (xd_abs _) h⟩
  · rw [if_neg hv] at h
    exact xa_t (Int32.not_lt.mp hv) ⟨11, xd_widthR 10 _ 1 (xd_abs _) h⟩
def xd_dl : Nat → Int32 → Int32
  | 0, x => x
  | n + 1, x => xd_dl n (x / 10)
def xd_rm (y : Int32) : Int32 := 48 + (if 0 ≤ (y - y / 10 * 10) then (y - y / 10 * 10) else 0 - (y - y / 10 * 10))
def xd_dg (v : Int32) (i : Nat) : Int32 := if v < 0 ∧ i = 0 then 45 else xd_rm (xd_dl (xd_wd v - 1 - i) v)
theorem xd_m1 (n : Nat) : nI (n + 1) + (-1) = nI n := by
  have : (-1 : Int32) = - 1 := rfl
  rw [← Int32.sub_eq_add_neg, nI_pred]
theorem xd_digC {I : pI} {R : pR} {i : Nat} {K Q : Int32 → pI → pR → Prop} (hi : i < 1000) : ∀ n x, n < 1000 → K (xd_dl n x) I R → l_dr_digitOf_20 (nI i) K Q (n + 1) x (nI (i + n)) I R := by
  intro n; induction n with
  | zero =>
    intro x hn h
    unfold l_dr_digitOf_20
    exact xa_t (Int32.le_refl _) h
  | succ n ih =>
    intro x hn h
    unfold l_dr_digitOf_20
    refine xa_f (fun hh => by have := (nI_leI (by omega) (by omega)).mp hh; omega) ?_
    rw [show i + (n + 1) = (i + n) + 1 by omega, xd_m1]
    exact ih _ (by omega) h
theorem xd_digR {I : pI} {R : pR} {i : Nat} {K Q : Int32 → pI → pR → Prop} (hi : i < 1000) : ∀ n x, n < 1000 → K (xd_dl n x) I R → l_md_digitOf_20 (nI i) K Q (n + 1) x (nI (i + n)) I R := by
  intro n; induction n with
  | zero =>
    intro x hn h
    unfold l_md_digitOf_20
    exact xa_t (Int32.le_refl _) h
  | succ n ih =>
    intro x hn h
    unfold l_md_digitOf_20
    refine xa_f (fun hh => by have := (nI_leI (by omega) (by omega)).mp hh; omega) ?_
    rw [show i + (n + 1) = (i + n) + 1 by omega, xd_m1]
    exact ih _ (by omega) h
theorem xd_digitOf {I : pI} {R : pR} {v : Int32} {i : Nat} {Q : Int32 → pI → pR → Prop} (hi : i < xd_wd v) (h : Q (xd_dg v i) I R) : w_dr_digitOf v (nI i) I R Q := by
  have hb := xd_wd_b v
  have core : xd_dg v i = xd_rm (xd_dl (xd_wd v - 1 - i) v) → w_dr_widthOf v I R (fun v1 I1 R1 => (∃ n1, l_dr_digitOf_20 (nI i) (fun y1 I2 R2 => Q ((48 : Int32) + (if 0 ≤ (y1 - y1 / (10 : Int32) * (10 : Int32)) then (y1 - y1 / (10 : Int32) * (10 : Int32)) else 0 - (y1 - y1 / (10 : Int32) * (10 : Int32)))) I2 R2) Q n1 v (v1 - (1 : Int32)) I1 R1)) := by
    intro he
    refine xd_widthOf ⟨xd_wd v - 1 - i + 1, ?_⟩
    have hx : nI (xd_wd v) - 1 = nI (i + (xd_wd v - 1 - i)) := by rw [xa_m1 (by omega)]; congr 1; omega
    rw [hx]
    refine xd_digC (by omega) (xd_wd v - 1 - i) v (by omega) ?_
    rw [he] at h
    exact h
  unfold w_dr_digitOf
  by_cases hv : v < 0
  · refine xa_f (fun hh => absurd hv (Int32.not_lt.mpr hh)) ?_
    by_cases h0 : i = 0
    · refine xa_t' (xa_e 0 h0) ?_
      unfold xd_dg at h; rw [if_pos ⟨hv, h0⟩] at h; exact h
    · refine xa_f' (xa_ne 0 (by omega)) (core ?_)
      unfold xd_dg; rw [if_neg (fun e => h0 e.2)]
  · refine xa_t (Int32.not_lt.mp hv) (core ?_)
    unfold xd_dg; rw [if_neg (fun e => hv e.1)]
theorem xd_digit {I : pI} {R : pR} {v : Int32} {i : Nat} {Q : Int32 → pI → pR → Prop} (hi : i < xd_wd v) (h : Q (xd_dg v i) I R) : w_md_digitOf v (nI i) I R Q := by
  have hb := xd_wd_b v
  have core : xd_dg v i = xd_rm (xd_dl (xd_wd v - 1 - i) v) → w_md_width v I R (fun v1 I1 R1 => (∃ n1, l_md_digitOf_20 (nI i) (fun y1 I2 R2 => ((0 ≤ (y1 - y1 / (10 : Int32) * (10 : Int32)) → Q ((48 : Int32) + (y1 - y1 / (10 : Int32) * (10 : Int32))) I2 R2) ∧ (¬ 0 ≤ (y1 - y1 / (10 : Int32) * (10 : Int32)) → Q ((48 : Int32) + (-(y1 - y1 / (10 : Int32) * (10 : Int32)))) I2 R2))) Q n1 v (v1 - (1 : Int32)) I1 R1)) := by
    intro he
    refine xd_width ⟨xd_wd v - 1 - i + 1, ?_⟩
    have hx : nI (xd_wd v) - 1 = nI (i + (xd_wd v - 1 - i)) := by rw [xa_m1 (by omega)]; congr 1; omega
    rw [hx]
    refine xd_digR (by omega) (xd_wd v - 1 - i) v (by omega) ?_
    rw [he] at h
    generalize xd_dl (xd_wd v - 1 - i) v = y at h
    unfold xd_rm at h
    by_cases hy : 0 ≤ y - y / 10 * 10
    · rw [if_pos hy] at h; exact xa_t hy h
    · rw [if_neg hy, Int32.zero_sub] at h; exact xa_f hy h
  unfold w_md_digitOf
  by_cases hv : v < 0
  · refine xa_f (fun hh => absurd hv (Int32.not_lt.mpr hh)) ?_
    by_cases h0 : i = 0
    · refine xa_t' (xa_e 0 h0) ?_
      unfold xd_dg at h; rw [if_pos ⟨hv, h0⟩] at h; exact h
    · refine xa_f' (xa_ne 0 (by omega)) (core ?_)
      unfold xd_dg; rw [if_neg (fun e => h0 e.2)]
  · refine xa_t (Int32.not_lt.mp hv) (core ?_)
    unfold xd_dg; rw [if_neg (fun e => hv e.1)]
/-! THE LAYOUT -/
/-- where a line begins: (column, value, line) -/
def xd_bg (l : List (Nat × Int32 × Nat)) (line : Nat) : Option Nat := (l.find? (fun e => decide (line ≤ e.2.2))).map (fun e => e.1)
def xd_bl (l : List (Nat × Int32 × Nat)) (line e : Nat) : Bool := match xd_bg l line with
  | some c => decide (c ≤ e)
  | none => false
def xd_fit (l : List (Nat × Int32 × Nat)) (e : Nat) : Nat → Nat → Nat
  | 0, line => line
  | n + 1, line => if xd_bl l line e then xd_fit l e n (line + 1) else line
def xd_lay : List (Nat × Int32) → List (Nat × Int32 × Nat)
  | [] => []
  | e :: l => (e.1, e.2, xd_fit (xd_lay l) (e.1 + xd_wd e.2) (l.length + 1) 2) :: xd_lay l
theorem xd_lay_len : ∀ l, (xd_lay l).length = l.length := by
  intro l; induction l with
  | nil => rfl
  | cons e l ih => show _ + 1 = _ + 1; rw [ih]
theorem xd_fit_b (l : List (Nat × Int32 × Nat)) (e : Nat) : ∀ n line, line ≤ xd_fit l e n line ∧ xd_fit l e n line ≤ line + n := by
  intro n; induction n with
  | zero => intro line; exact ⟨Nat.le_refl _, Nat.le_refl _⟩
  | succ n ih =>
    intro line
    show line ≤ (if _ then _ else _) ∧ (if _ then _ else _) ≤ _
    split
    · have := ih (line + 1); omega
    · omega
theorem xd_bg_n {l : List (Nat × Int32 × Nat)} {line : Nat} (h : ∀ e, e ∈ l → e.2.2 < line) : xd_bg l line = none := by
  unfold xd_bg
  rw [List.find?_eq_none.mpr (fun e he => by have := h e he; simp; omega)]; rfl
/-- lines stand below 2 + what is behind -/
theorem xd_lay_b : ∀ l, ∀ e, e ∈ xd_lay l → 2 ≤ e.2.2 ∧ e.2.2 ≤ 1 + l.length := by
  intro l; induction l with
  | nil => intro e he; cases he
  | cons a l ih =>
    intro e he
    rcases List.mem_cons.mp he with h | h
    · rw [h]
      show 2 ≤ xd_fit _ _ (l.length + 1) 2 ∧ xd_fit _ _ (l.length + 1) 2 ≤ 1 + (l.length + 1)
      have hb := xd_fit_b (xd_lay l) (a.1 + xd_wd a.2) l.length 2
      have hb2 := xd_fit_b (xd_lay l) (a.1 + xd_wd a.2) (l.length + 1) 2
      refine ⟨hb2.1, ?_⟩
      have key : ∀ n line, line + n = 2 + l.length → xd_fit (xd_lay l) (a.1 + xd_wd a.2) (n + 1) line ≤ 2 + l.length := by
        intro n; induction n with
        | zero =>
          intro line hl
          show (if _ then _ else _) ≤ _
          have : xd_bl (xd_lay l) line (a.1 + xd_wd a.2) = false := by
            unfold xd_bl; rw [xd_bg_n (fun e he => by have := ih e he; omega)]
          rw [this]; simp; omega
        | succ n ihn =>
          intro line hl
          show (if _ then xd_fit _ _ (n + 1) (line + 1) else _) ≤ _
          split
          · exact ihn (line + 1) (by omega)
          · omega
      have := key l.length 2 (by omega)
      omega
    · have := ih e h; show 2 ≤ e.2.2 ∧ e.2.2 ≤ 1 + (l.length + 1); omega
def xd_h (l : List (Nat × Int32 × Nat)) : Nat := l.foldr (fun e h => if h < e.2.2 + 1 then e.2.2 + 1 else h) 1
theorem xd_h_b : ∀ (l : List (Nat × Int32 × Nat)), 1 ≤ xd_h l ∧ (∀ e, e ∈ l → e.2.2 < xd_h l) ∧ (∀ N, 1 ≤ N → (∀ e, e ∈ l → e.2.2 < N) → xd_h l ≤ N) := by
  intro l; induction l with
  | nil => exact ⟨Nat.le_refl _, (fun e he => by cases he), fun N hN _ => hN⟩
  | cons a l ih =>
    obtain ⟨i1, i2, i3⟩ := ih
    have e : xd_h (a :: l) = if xd_h l < a.2.2 + 1 then a.2.2 + 1 else xd_h l := rfl
    rw [e]
    refine ⟨by split <;> omega, fun b hb => ?_, fun N hN h => ?_⟩
    · rcases List.mem_cons.mp hb with h | h
      · rw [h]; split <;> omega
      · have := i2 b h; split <;> omega
    · have h1 := i3 N hN (fun e he => h e (by simp [he]))
      have h2 := h a (by simp)
      split <;> omega
