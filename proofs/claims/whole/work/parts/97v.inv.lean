/-! WHAT HOLDS BETWEEN TWO CALLS -/
def yI_F (I : pI) (q o : Nat) : Prop := (I 0 8 = 0 ∧ I 121 9 = 0) ∨ (I 0 8 = 1 ∧ I 121 9 = 1 ∧ ∃ (F : xi_F) (L : Nat) (tx : Nat → Nat) (ts : List (Nat × Nat × Nat × Nat)), (∀ i, i < L → tx i < 65536) ∧ xi_FM I q F ∧ xt_Tx I (q + 1) tx L ∧ yv_FM I o F ∧ (∀ i, i < L → I 127 (120 * o + i) = nI (tx i)) ∧ xg_FO ts L F ∧ yg_LY F ∧ F.2.2.2.2.length ≤ 6)
def yI_O (I : pI) : Prop := ∃ (n L : Nat) (tx : Nat → Nat), n ≤ 6 ∧ L ≤ 120 ∧ I 0 10 = nI n ∧ I 121 69 = nI n ∧ (∀ i, i < L → I 162 i = nI (tx i)) ∧ ∀ k, k < n → ∃ r, xv_OR I (6 + 8 * k) tx r ∧ yv_OR I k r ∧ yd_OK L r.2.2.2.2
def yI (I : pI) (R : pR) : Prop := ∃ (L : Nat) (x : Nat → Nat) (q q' o : Nat), xt_Ok x L ∧ I 0 5 = nI L ∧ xt_Tx I 1 x L ∧ I 121 0 = nI L ∧ xt_Tx I 122 x L ∧ I 0 9 = I 121 56 ∧ o ≤ 1 ∧ I 121 10 = nI o ∧ ((q = 54 ∧ q' = 81) ∨ (q = 81 ∧ q' = 54)) ∧ R 0 7 = some q ∧ R 0 6 = some q' ∧ (∀ k, k < 6 → R 5 k = some (6 + 8 * k)) ∧ yI_F I q o ∧ yI_O I
theorem yv_FM_h {I I' : pI} {o L : Nat} {F : xi_F} {ts : List (Nat × Nat × Nat × Nat)} (w : xg_W ts L F.1) (h : yv_FM I o F) (f : ∀ p k, (128 ≤ p ∧ p ≤ 130 ∧ 400 * o ≤ k ∧ k < 400 * o + 400) ∨ (131 ≤ p ∧ p ≤ 144 ∧ 100 * o ≤ k ∧ k < 100 * o + 100) ∨ (p = 146 ∧ 120 * o ≤ k ∧ k < 120 * o + 120) ∨ (147 ≤ p ∧ p ≤ 149 ∧ k = o) → I' p k = I p k) (f1 : I' 121 10 = I 121 10) : yv_FM I' o F := by
  obtain ⟨a, b, c, d, e, g, i⟩ := h
  obtain ⟨ww, w1, w2, w3, w4, w5, w6⟩ := w
  refine ⟨fun j it hj => ?_, fun i a hi => ?_, fun i e hi => ?_, f1.trans d, (f _ _ (by omega)).trans e, (f _ _ (by omega)).trans g, (f _ _ (by omega)).trans i⟩
  · have hlt := xa_some_lt hj
    have ff : ∀ p, 131 ≤ p → p ≤ 144 → I' p (100 * o + j) = I p (100 * o + j) := fun p h1 h2 => f _ _ (by omega)
    obtain ⟨⟨a1, a2, a3, a4, a5, a6, a7⟩, a8⟩ := a j it hj
    refine ⟨⟨(ff _ (by omega) (by omega)).trans a1, (ff _ (by omega) (by omega)).trans a2, (ff _ (by omega) (by omega)).trans a3, (ff _ (by omega) (by omega)).trans a4, (ff _ (by omega) (by omega)).trans a5, (ff _ (by omega) (by omega)).trans a6, (ff _ (by omega) (by omega)).trans a7⟩, fun h7 => ?_⟩
    obtain ⟨b1, b2, b3, b4, b5, b6, b7⟩ := a8 h7
    exact ⟨(ff _ (by omega) (by omega)).trans b1, (ff _ (by omega) (by omega)).trans b2, (ff _ (by omega) (by omega)).trans b3, (ff _ (by omega) (by omega)).trans b4, (ff _ (by omega) (by omega)).trans b5, (ff _ (by omega) (by omega)).trans b6, (ff _ (by omega) (by omega)).trans b7⟩
  · have hlt := xa_some_lt hi
    exact (f _ _ (by omega)).trans (b i a hi)
  · have hlt := xa_some_lt hi
    have := c i e hi
    exact ⟨(f _ _ (by omega)).trans this.1, (f _ _ (by omega)).trans this.2.1, (f _ _ (by omega)).trans this.2.2⟩
theorem yI_F_fr {I I' : pI} {q o : Nat} (hq : q = 54 ∨ q = 81) (h : yI_F I q o) (f8 : I' 0 8 = I 0 8) (f9 : I' 121 9 = I 121 9) (f10 : I' 121 10 = I 121 10) (fq : ∀ p k, q ≤ p → p ≤ q + 26 → I' p k = I p k) (fr : ∀ p k, (128 ≤ p ∧ p ≤ 130 ∧ 400 * o ≤ k ∧ k < 400 * o + 400) ∨ (131 ≤ p ∧ p ≤ 144 ∧ 100 * o ≤ k ∧ k < 100 * o + 100) ∨ (p = 146 ∧ 120 * o ≤ k ∧ k < 120 * o + 120) ∨ (147 ≤ p ∧ p ≤ 149 ∧ k = o) ∨ (p = 127 ∧ 120 * o ≤ k ∧ k < 120 * o + 120) → I' p k = I p k) : yI_F I' q o := by
  rcases h with ⟨a, b⟩ | ⟨a, b, F, L, tx, ts, c1, c2, c3, c4, c5, c6, c7, c8⟩
  · exact Or.inl ⟨f8.trans a, f9.trans b⟩
  · have hL := c6.1.1.1
    refine Or.inr ⟨f8.trans a, f9.trans b, F, L, tx, ts, c1, ?_, fun i hi => (fq _ _ (by omega) (by omega)).trans (c3 i hi), yv_FM_h c6.1 c4 (fun p k hp => fr p k (by omega)) f10, fun i hi => (fr _ _ (by omega)).trans (c5 i hi), c6, c7, c8⟩
    obtain ⟨a, b, c, d⟩ := c2
    refine ⟨xi_CM_p a (fun p a b => funext (fun k => fq p k (by omega) (by omega))), xi_PM_fr b ?_ ?_, xi_HM_fr c ?_ ?_ ?_, xi_WM_fr d ?_ ?_⟩
    · exact fq _ _ (by omega) (by omega)
    · exact funext (fun k => fq _ _ (by omega) (by omega))
    · exact fq _ _ (by omega) (by omega)
    · exact funext (fun k => fq _ _ (by omega) (by omega))
    · exact funext (fun k => fq _ _ (by omega) (by omega))
    · exact fq _ _ (by omega) (by omega)
    · exact funext (fun k => fq _ _ (by omega) (by omega))
theorem yI_O_fr {I I' : pI} (h : yI_O I) (f1 : I' 0 10 = I 0 10) (f2 : I' 121 69 = I 121 69) (f3 : ∀ p k, 6 ≤ p ∧ p ≤ 53 ∨ 162 ≤ p ∧ p ≤ 172 → I' p k = I p k) : yI_O I' := by
  obtain ⟨n, L, tx, a, b, c, d, e, g⟩ := h
  refine ⟨n, L, tx, a, b, f1.trans c, f2.trans d, fun i hi => (f3 _ _ (by omega)).trans (e i hi), fun k hk => ?_⟩
  obtain ⟨r, r1, r2, r3⟩ := g k hk
  exact ⟨r, xv_OR_fr r1 (fun p k h1 h2 => f3 p k (by omega)), yv_OR_fr r2 (fun p hp => f3 _ _ (by omega)) (fun j h1 h2 => f3 _ _ (by omega)) (fun j h1 h2 => f3 _ _ (by omega)) (fun p j hp h1 h2 => f3 _ _ (by omega)) r3 b, r3⟩
/-- type and clear -/
theorem yI_type {I : pI} {R : pR} {f : Int64} {a : Int32} {P : Int32 → Int32 → pI → pR → Prop} {W : Int32 → pI → pR → Prop} (h : yI I R) (hW : ∀ v I1 R1, w_md_type f a I1 R1 (fun v2 I2 R2 => P v v2 I2 R2) → W v I1 R1) (hP : ∀ v I' R', yI I' R' → P v v I' R') : w_sr_type f a I R (fun v1 I1 R1 => W v1 I1 R1) := by
  have h' := h
  obtain ⟨L, x, q, q', o, ok, a1, a2, a3, a4, a5, a6, a7, a8, a9, a10, a11, a12, a13⟩ := h'
  refine yt_type hW ok a1 a2 a3 a4 (hP 0 I R h) (fun L' x' I' ok' b1 b2 b3 b4 fo => hP 1 I' R ⟨L', x', q, q', o, ok', b1, b2, b3, b4, ?_, a6, ?_, a8, a9, a10, a11, yI_F_fr (by omega) a12 ?_ ?_ ?_ (fun p k h1 h2 => fo p k (by omega) (by omega) (by omega) (by omega)) (fun p k hp => fo p k (by omega) (by omega) (by omega) (by omega)), yI_O_fr a13 ?_ ?_ (fun p k hp => fo p k (by omega) (by omega) (by omega) (by omega))⟩)
  · rw [fo _ _ (by omega) (by omega) (by omega) (by omega), fo _ _ (by omega) (by omega) (by omega) (by omega)]; exact a5
  · rw [fo _ _ (by omega) (by omega) (by omega) (by omega)]; exact a7
  · exact fo _ _ (by omega) (by omega) (by omega) (by omega)
  · exact fo _ _ (by omega) (by omega) (by omega) (by omega)
  · exact fo _ _ (by omega) (by omega) (by omega) (by omega)
  · exact fo _ _ (by omega) (by omega) (by omega) (by omega)
  · exact fo _ _ (by omega) (by omega) (by omega) (by omega)
theorem yI_clear {I : pI} {R : pR} (h : yI I R) : yI (pw_wI (pw_wI I 0 5 0) 121 0 0) R := by
  obtain ⟨L, x, q, q', o, ok, a1, a2, a3, a4, a5, a6, a7, a8, a9, a10, a11, a12, a13⟩ := h
  have fo : ∀ p k, ¬ (p = 0 ∧ k = 5) → ¬ (p = 121 ∧ k = 0) → pw_wI (pw_wI I 0 5 0) 121 0 0 p k = I p k := fun p k h1 h2 => by rw [xa_w, if_neg h2, xa_w, if_neg h1]
  refine ⟨0, x, q, q', o, ⟨by omega, fun i hi => by omega⟩, ?_, fun i hi => by omega, ?_, fun i hi => by omega, ?_, a6, ?_, a8, a9, a10, a11, yI_F_fr (by omega) a12 ?_ ?_ ?_ (fun p k h1 h2 => fo p k (by omega) (by omega)) (fun p k hp => fo p k (by omega) (by omega)), yI_O_fr a13 ?_ ?_ (fun p k hp => fo p k (by omega) (by omega))⟩
  · rw [xa_w, if_neg (by decide), xa_w, if_pos ⟨rfl, rfl⟩]; rfl
  · rw [xa_w, if_pos ⟨rfl, rfl⟩]; rfl
  · rw [fo _ _ (by omega) (by omega), fo _ _ (by omega) (by omega)]; exact a5
  · rw [fo _ _ (by omega) (by omega)]; exact a7
  · exact fo _ _ (by omega) (by omega)
  · exact fo _ _ (by omega) (by omega)
  · exact fo _ _ (by omega) (by omega)
  · exact fo _ _ (by omega) (by omega)
  · exact fo _ _ (by omega) (by omega)
/-- judge -/
theorem yI_judge {I : pI} {R : pR} {P : Int32 → Int32 → pI → pR → Prop} (h : yI I R) (hP : ∀ v I' R', yI I' R' → P v v I' R') : w_sr_judge I R (fun v5 I5 R5 => w_md_judge I5 R5 (fun v6 I6 R6 => P v5 v6 I6 R6)) := by
  obtain ⟨L, x, q, q', o, ok, a1, a2, a3, a4, a5, a6, a7, a8, a9, a10, a11, a12, a13⟩ := h
  obtain ⟨o', ho'⟩ : ∃ o', (o = 0 ∧ o' = 1) ∨ (o = 1 ∧ o' = 0) := by
    rcases (show o = 0 ∨ o = 1 by omega) with rfl | rfl
    · exact ⟨1, Or.inl ⟨rfl, rfl⟩⟩
    · exact ⟨0, Or.inr ⟨rfl, rfl⟩⟩
  have hqq : q = 54 ∨ q = 81 := by omega
  -- the class leaves the reference
  have c0 : ∀ {I' : pI}, xa_fr (yx_SJ q') I I' → I' 121 0 = nI L ∧ xt_Tx I' 122 x L ∧ I' 121 10 = nI o ∧ (∀ p k, 114 ≤ p → I' p k = I p k) := fun f => ⟨by rw [yx_SJ_o f _ _ (by omega)]; exact a3, fun i hi => by rw [yx_SJ_o f _ _ (by omega)]; exact a4 i hi, by rw [yx_SJ_o f _ _ (by omega)]; exact a7, fun p k hp => yx_SJ_o f p k (by omega)⟩
  -- nothing kept anew
  have stay : ∀ {I1 I2 : pI} {R1 : pR}, xa_fr (yx_SJ q') I I1 → I1 0 8 = I 0 8 → xa_fr (yr_SJ o') I1 I2 → I2 121 9 = I1 121 9 → I2 121 10 = I1 121 10 → I2 0 9 = I2 121 56 → (∀ p k, p ≠ 108 → R1 p k = R p k) → yI I2 R1 := by
    intro I1 I2 R1 f1 k8 f2 k9 k10 hk hR
    have g2 : ∀ p k, p < 121 → I2 p k = I1 p k := fun p k hp => yr_SJ_o f2 p k (by omega)
    refine ⟨L, x, q, q', o, ok, ?_, fun i hi => ?_, ?_, fun i hi => ?_, hk, a6, ?_, a8, (hR _ _ (by omega)).trans a9, (hR _ _ (by omega)).trans a10, fun k hk => (hR _ _ (by omega)).trans (a11 k hk), yI_F_fr hqq a12 ?_ ?_ ?_ (fun p k h1 h2 => ?_) (fun p k hp => ?_), yI_O_fr a13 ?_ ?_ (fun p k hp => ?_)⟩
    · rw [g2 _ _ (by omega), yx_SJ_o f1 _ _ (by omega)]; exact a1
    · rw [g2 _ _ (by omega), yx_SJ_o f1 _ _ (by omega)]; exact a2 i hi
    · rw [yr_SJ_o f2 _ _ (by omega), yx_SJ_o f1 _ _ (by omega)]; exact a3
    · rw [yr_SJ_o f2 _ _ (by omega), yx_SJ_o f1 _ _ (by omega)]; exact a4 i hi
    · rw [k10, yx_SJ_o f1 _ _ (by omega)]; exact a7
    · rw [g2 _ _ (by omega)]; exact k8
    · rw [k9, yx_SJ_o f1 _ _ (by omega)]
    · rw [k10, yx_SJ_o f1 _ _ (by omega)]
    · rw [g2 _ _ (by omega), yx_SJ_o f1 _ _ (by omega)]
    · rw [← yx_SJ_o f1 p k (by omega)]
      refine f2 p k ?_
      simp only [yr_SJ, Bool.or_eq_false_iff, Bool.and_eq_false_iff, beq_eq_false_iff_ne, decide_eq_false_iff_not]; omega
    · rw [g2 _ _ (by omega), yx_SJ_o f1 _ _ (by omega)]
    · rw [yr_SJ_o f2 _ _ (by omega), yx_SJ_o f1 _ _ (by omega)]
    · rw [yr_SJ_o f2 _ _ (by omega), yx_SJ_o f1 _ _ (by omega)]
  refine yx_judge (q0 := q) (q := q') (by omega) ok a1 a2 a10 a9 (fun g hg I1 R1 f1 k8 k9 hR => ?_) (fun F e hF he I1 R1 f1 k8 k9 hR => ?_) (fun F hF he I1 R1 f1 k8 k9 fm1 tx1 hR hR7 hR6 => ?_)
  · obtain ⟨c1, c2, c3, c4⟩ := c0 f1
    refine yr_judge ho' ok c1 c2 c3 (fun g' hg' I2 f2 l9 l10 l56 => hP 1 I2 R1 (stay f1 k8 f2 l9 l10 ?_ hR)) (fun F e hF _ => by rw [hg] at hF; cases hF) (fun F hF _ => by rw [hg] at hF; cases hF)
    rw [hg] at hg'; cases hg'
    rw [yr_SJ_o f2 _ _ (by omega), k9, l56]
  · obtain ⟨c1, c2, c3, c4⟩ := c0 f1
    refine yr_judge ho' ok c1 c2 c3 (fun g' hg' => by rw [hF] at hg'; cases hg') (fun F' e' hF' he' I2 f2 l9 l10 l56 => ?_) (fun F' hF' he' => by rw [hF] at hF'; cases hF'; rw [he] at he'; cases he')
    rw [hF] at hF'; cases hF'
    rw [he] at he'; cases he'
    exact hP _ I2 R1 (stay f1 k8 f2 l9 l10 (by rw [yr_SJ_o f2 _ _ (by omega), k9, l56]) hR)
  · obtain ⟨c1, c2, c3, c4⟩ := c0 f1
    refine yr_judge ho' ok c1 c2 c3 (fun g' hg' => by rw [hF] at hg'; cases hg') (fun F' e' hF' he' => by rw [hF] at hF'; cases hF'; rw [he] at he'; cases he') (fun F' hF' he' fo ly h6 I2 f2 l9 l56 fmr t127 => ?_)
    rw [hF] at hF'; cases hF'
    have g2 : ∀ p k, p < 121 → I2 p k = I1 p k := fun p k hp => yr_SJ_o f2 p k (by omega)
    refine hP 0 I2 R1 ⟨L, x, q', q, o', ok, ?_, fun i hi => ?_, ?_, fun i hi => ?_, ?_, by omega, fmr.2.2.2.1, by omega, hR7, hR6, fun k hk => (hR _ _ (by omega) (by omega)).trans (a11 k hk), Or.inr ⟨?_, l9, F, L, x, _, fun i hi => by have := ok.2 i hi; omega, ?_, fun i hi => ?_, fmr, t127, fo, ly, h6⟩, yI_O_fr a13 ?_ ?_ (fun p k hp => ?_)⟩
    · rw [g2 _ _ (by omega), yx_SJ_o f1 _ _ (by omega)]; exact a1
    · rw [g2 _ _ (by omega), yx_SJ_o f1 _ _ (by omega)]; exact a2 i hi
    · rw [yr_SJ_o f2 _ _ (by omega)]; exact c1
    · rw [yr_SJ_o f2 _ _ (by omega)]; exact c2 i hi
    · rw [g2 _ _ (by omega), k9, l56]
    · rw [g2 _ _ (by omega)]; exact k8
    · obtain ⟨a, b, c, d⟩ := fm1
      refine ⟨xi_CM_p a (fun p a b => funext (fun k => g2 p k (by omega))), xi_PM_fr b ?_ ?_, xi_HM_fr c ?_ ?_ ?_, xi_WM_fr d ?_ ?_⟩
      · exact g2 _ _ (by omega)
      · exact funext (fun k => g2 _ _ (by omega))
      · exact g2 _ _ (by omega)
      · exact funext (fun k => g2 _ _ (by omega))
      · exact funext (fun k => g2 _ _ (by omega))
      · exact g2 _ _ (by omega)
      · exact funext (fun k => g2 _ _ (by omega))
    · rw [g2 _ _ (by omega)]; exact tx1 i hi
    · rw [g2 _ _ (by omega), yx_SJ_o f1 _ _ (by omega)]
    · rw [yr_SJ_o f2 _ _ (by omega), yx_SJ_o f1 _ _ (by omega)]
    · rw [yr_SJ_o f2 _ _ (by omega), yx_SJ_o f1 _ _ (by omega)]
/-- run -/
theorem yI_run {I : pI} {R : pR} {P : Int32 → Int32 → pI → pR → Prop} (h : yI I R) (hP : ∀ v I' R', yI I' R' → P v v I' R') : w_sr_run I R (fun v5 I5 R5 => w_md_run I5 R5 (fun v6 I6 R6 => P v5 v6 I6 R6)) := by
  have h' := h
  obtain ⟨L, x, q, q', o, ok, a1, a2, a3, a4, a5, a6, a7, a8, a9, a10, a11, a12, a13⟩ := h'
  have hqq : q = 54 ∨ q = 81 := by omega
  rcases a12 with ⟨b1, b2⟩ | ⟨b1, b2, F, L', tx, ts, c1, c2, c3, c4, c5, c6, c7, c8⟩
  · unfold w_sr_run
    refine xa_t' b1 ?_
    unfold w_md_run
    exact xa_t' b2 (hP _ I R h)
  · have hL' := c6.1.1.1
    refine yx_run hqq c6 c8 c1 c2 c3 b1 a9 a11 (fun I1 R1 f1 k10 hR or1 => ?_)
    have g1 : ∀ p k, 121 ≤ p → I1 p k = I p k := fun p k hp => yx_SR_o f1 p k (by omega)
    have fm1 : yv_FM I1 o F := yv_FM_p c4 (fun p k hp => g1 p k (by omega)) (g1 _ _ (by omega))
    refine yr_run (tx := tx) a6 c6 c7 c8 fm1 (fun i hi => by rw [g1 _ _ (by omega)]; exact c5 i hi) (by rw [g1 _ _ (by omega)]; exact b2) (fun I2 f2 k69 k162 or2 => ?_)
    have g2 : ∀ p k, p < 121 → I2 p k = I1 p k := fun p k hp => yr_SR_o f2 p k (by omega)
    have hN : yx_N F ≤ 6 := by unfold yx_N; split <;> omega
    refine hP _ I2 R1 ⟨L, x, q, q', o, ok, ?_, fun i hi => ?_, ?_, fun i hi => ?_, ?_, a6, ?_, a8, (hR _ _ (by omega) (by omega)).trans a9, (hR _ _ (by omega) (by omega)).trans a10, fun k hk => (hR _ _ (by omega) (by omega)).trans (a11 k hk), Or.inr ⟨?_, ?_, F, L', tx, ts, c1, ?_, fun i hi => ?_, ?_, fun i hi => ?_, c6, c7, c8⟩, ⟨yx_N F, L', tx, hN, hL', ?_, k69, k162, fun k hk => ⟨xg_iter F k, xv_OR_fr (or1 k hk) (fun p k h1 h2 => g2 p k (by omega)), or2 k hk, yd_iter c6.1 k⟩⟩⟩
    · rw [g2 _ _ (by omega), yx_SR_o f1 _ _ (by omega)]; exact a1
    · rw [g2 _ _ (by omega), yx_SR_o f1 _ _ (by omega)]; exact a2 i hi
    · rw [yr_SR_o f2 _ _ (by omega), g1 _ _ (by omega)]; exact a3
    · rw [yr_SR_o f2 _ _ (by omega), g1 _ _ (by omega)]; exact a4 i hi
    · rw [g2 _ _ (by omega), yx_SR_o f1 _ _ (by omega), yr_SR_o f2 _ _ (by omega), g1 _ _ (by omega)]; exact a5
    · rw [yr_SR_o f2 _ _ (by omega), g1 _ _ (by omega)]; exact a7
    · rw [g2 _ _ (by omega), yx_SR_o f1 _ _ (by omega)]; exact b1
    · rw [yr_SR_o f2 _ _ (by omega), g1 _ _ (by omega)]; exact b2
    · have fm := xi_FM_R hqq c2 f1
      obtain ⟨a, b, c, d⟩ := fm
      refine ⟨xi_CM_p a (fun p a b => funext (fun k => g2 p k (by omega))), xi_PM_fr b ?_ ?_, xi_HM_fr c ?_ ?_ ?_, xi_WM_fr d ?_ ?_⟩
      · exact g2 _ _ (by omega)
      · exact funext (fun k => g2 _ _ (by omega))
      · exact g2 _ _ (by omega)
      · exact funext (fun k => g2 _ _ (by omega))
      · exact funext (fun k => g2 _ _ (by omega))
      · exact g2 _ _ (by omega)
      · exact funext (fun k => g2 _ _ (by omega))
    · rw [g2 _ _ (by omega), yx_SR_o f1 _ _ (by omega)]; exact c3 i hi
    · exact yv_FM_p fm1 (fun p k hp => yr_SR_o f2 p k (by omega)) (yr_SR_o f2 _ _ (by omega))
    · rw [yr_SR_o f2 _ _ (by omega), g1 _ _ (by omega)]; exact c5 i hi
    · rw [g2 _ _ (by omega)]; exact k10
