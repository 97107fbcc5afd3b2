/-! BOTH SIDES JUDGE -/
def yx_SJ (q p k : Nat) : Bool := (p == 0 && (k == 8 || k == 9)) || p == 2 || p == 3 || p == 4 || (decide (108 ≤ p) && decide (p ≤ 113)) || (decide (q ≤ p) && decide (p ≤ q + 26))
theorem yx_SJ_o {q : Nat} {I I' : pI} (h : xa_fr (yx_SJ q) I I') (p k : Nat) (hp : ¬ (p = 0 ∧ (k = 8 ∨ k = 9)) ∧ p ≠ 2 ∧ p ≠ 3 ∧ p ≠ 4 ∧ ¬ (108 ≤ p ∧ p ≤ 113) ∧ ¬ (q ≤ p ∧ p ≤ q + 26)) : I' p k = I p k := h p k (by
  simp only [yx_SJ, Bool.or_eq_false_iff, Bool.and_eq_false_iff, beq_eq_false_iff_ne, decide_eq_false_iff_not]; omega)
abbrev yk (x : Nat → Nat) (L : Nat) : Nat ⊕ xi_F := xi_fea (xt_kd (xt_tk x L 120 0) L) (xt_nm (xt_tk x L 120 0) L) (xt_pl (xt_tk x L 120 0) L) (xt_en (xt_tk x L 120 0) L)
theorem yx_judge {I : pI} {R : pR} {q q0 L : Nat} {x : Nat → Nat} {Q : Int32 → pI → pR → Prop} (hq : (q0 = 54 ∧ q = 81) ∨ (q0 = 81 ∧ q = 54)) (ok : xt_Ok x L) (h5 : I 0 5 = nI L) (tx : xt_Tx I 1 x L) (hR6 : R 0 6 = some q) (hR7 : R 0 7 = some q0)
    (h1 : ∀ g, yk x L = .inl g → ∀ I' R', xa_fr (yx_SJ q) I I' → I' 0 8 = I 0 8 → I' 0 9 = nI (xt_pl (xt_tk x L 120 0) L g) → (∀ p k, p ≠ 108 → R' p k = R p k) → Q 1 I' R')
    (h2 : ∀ F e, yk x L = .inr F → xq_fo none (xq_all F) = some e → ∀ I' R', xa_fr (yx_SJ q) I I' → I' 0 8 = I 0 8 → I' 0 9 = nI e.2 → (∀ p k, p ≠ 108 → R' p k = R p k) → Q (nI e.1) I' R')
    (h3 : ∀ F, yk x L = .inr F → xq_fo none (xq_all F) = none → ∀ I' R', xa_fr (yx_SJ q) I I' → I' 0 8 = 1 → I' 0 9 = -1 → xi_FM I' q F → xt_Tx I' (q + 1) x L → (∀ p k, p ≠ 108 → p ≠ 0 → R' p k = R p k) → R' 0 7 = some q → R' 0 6 = some q0 → Q 0 I' R') : w_sr_judge I R Q := by
  have w := xt_tk_WF ok
  have hq' : q = 54 ∨ q = 81 := by omega
  have hq0' : q0 = 54 ∨ q0 = 81 := by omega
  have hRo : ∀ p k, p ≠ 108 → pw_wR R 108 1 (some q) p k = R p k := fun p k hp => by unfold pw_wR; simp [hp]
  have fA : ∀ {I' : pI}, xa_fr (xi_SA q) I I' → xa_fr (yx_SJ q) I I' := fun h => xa_fr_m h (fun p k hp => by
    simp only [yx_SJ, xi_SA, Bool.or_eq_false_iff, Bool.and_eq_false_iff, beq_eq_false_iff_ne, decide_eq_false_iff_not] at hp ⊢; omega)
  unfold w_sr_judge
  refine ⟨q, hR6, xv_q_sh hq', ?_⟩
  rw [h5]
  refine xi_readC hq' ok tx (fun F hF I1 fm1 f1 tx1 => xa_t (by decide) ⟨q, (hRo _ _ (by decide)).trans hR6, xv_q_sh hq', ?_⟩) (fun g hg I1 f1 => ?_)
  · obtain ⟨G, Ps, C, Rs, d, _⟩ := yg_fea w hF
    have f1' := fA f1
    refine xq_check hq' (yg_FWf w d) fm1 (fun I2 er2 f2 => ?_)
    have f2o : ∀ p k, p ≠ 2 → p ≠ 3 → p ≠ 4 → I2 p k = I1 p k := fun p k a b c => f2 p k (by simp only [xq_S, Bool.or_eq_false_iff, beq_eq_false_iff_ne]; omega)
    have f2' : xa_fr (yx_SJ q) I1 I2 := xa_fr_m f2 (fun p k hp => by
      simp only [yx_SJ, xq_S, Bool.or_eq_false_iff, Bool.and_eq_false_iff, beq_eq_false_iff_ne, decide_eq_false_iff_not] at hp ⊢; omega)
    have k8 : I2 0 8 = I 0 8 := by
      rw [f2o _ _ (by decide) (by decide) (by decide)]
      exact f1 0 8 (by simp only [xi_SA, Bool.or_eq_false_iff, Bool.and_eq_false_iff, decide_eq_false_iff_not]; omega)
    cases he : xq_fo none (xq_all F) with
    | none =>
      rw [he] at er2
      refine xa_t er2.1 (xa_a ⟨q0, (hRo _ _ (by decide)).trans hR7, xv_q_sh hq0', q, (hRo _ _ (by decide)).trans hR6, xv_q_sh hq', xa_ra (xa_ra (xa_a ?_))⟩)
      refine h3 F hF he _ _ (xa_fr_w (xa_fr_w (xa_fr_t f1' f2') rfl) rfl) ?_ ?_ ?_ ?_ ?_ ?_ ?_
      · rw [xa_w, if_pos ⟨rfl, rfl⟩]
      · rw [xa_w, if_neg (by decide), xa_w, if_pos ⟨rfl, rfl⟩]
      · have g : ∀ p k, p ≠ 0 → p ≠ 2 → p ≠ 3 → p ≠ 4 → pw_wI (pw_wI I2 0 9 (-1)) 0 8 1 p k = I1 p k := fun p k a b c d => by rw [xa_p a, xa_p a, f2o p k b c d]
        obtain ⟨a, b, c, d'⟩ := fm1
        refine ⟨xi_CM_p a (fun p a b => funext (fun k => g p k (by omega) (by omega) (by omega) (by omega))), xi_PM_fr b ?_ ?_, xi_HM_fr c ?_ ?_ ?_, xi_WM_fr d' ?_ ?_⟩
        · exact g _ _ (by omega) (by omega) (by omega) (by omega)
        · exact funext (fun k => g _ _ (by omega) (by omega) (by omega) (by omega))
        · exact g _ _ (by omega) (by omega) (by omega) (by omega)
        · exact funext (fun k => g _ _ (by omega) (by omega) (by omega) (by omega))
        · exact funext (fun k => g _ _ (by omega) (by omega) (by omega) (by omega))
        · exact g _ _ (by omega) (by omega) (by omega) (by omega)
        · exact funext (fun k => g _ _ (by omega) (by omega) (by omega) (by omega))
      · intro i hi
        rw [xa_p (by omega), xa_p (by omega), f2o _ _ (by omega) (by omega) (by omega)]; exact tx1 i hi
      · intro p k a b
        unfold pw_wR
        simp [a, b]
      · unfold pw_wR; simp [va_up]
      · unfold pw_wR; simp [va_up]
    | some e =>
      rw [he] at er2
      obtain ⟨a, b, c, d', e'⟩ := er2
      refine xa_f (by rw [a]; exact xa_ne 0 (by omega)) (xa_a ?_)
      rw [xa_p (by decide), a, b]
      exact h2 F e hF he _ _ (xa_fr_w (xa_fr_t f1' f2') rfl) (by rw [xa_w, if_neg (by decide)]; exact k8) (by rw [xa_w, if_pos ⟨rfl, rfl⟩]) hRo
  · have hpb := xt_pl_b w (i := g)
    have hL := ok.1
    refine xa_f (nI_pos (by omega)) (xa_a (h1 g hg _ _ (xa_fr_w (fA f1) rfl) ?_ (by rw [xa_w, if_pos ⟨rfl, rfl⟩]) hRo))
    rw [xa_w, if_neg (by decide)]
    exact f1 0 8 (by simp only [xi_SA, Bool.or_eq_false_iff, Bool.and_eq_false_iff, decide_eq_false_iff_not]; omega)
/-- the reference -/
def yr_SJ (o p k : Nat) : Bool := (p == 121 && decide (1 ≤ k) && decide (k ≤ 56)) || (decide (123 ≤ p) && decide (p ≤ 126)) || (decide (128 ≤ p) && decide (p ≤ 130) && decide (400 * o ≤ k) && decide (k < 400 * o + 400)) || (decide (131 ≤ p) && decide (p ≤ 144) && decide (100 * o ≤ k) && decide (k < 100 * o + 100)) || (p == 146 && decide (120 * o ≤ k) && decide (k < 120 * o + 120)) || (decide (147 ≤ p) && decide (p ≤ 149) && k == o) || (p == 127 && decide (120 * o ≤ k) && decide (k < 120 * o + 120)) || (decide (150 ≤ p) && decide (p ≤ 157))
theorem yr_SJ_o {o : Nat} {I I' : pI} (h : xa_fr (yr_SJ o) I I') (p k : Nat) (hp : ¬ (p = 121 ∧ 1 ≤ k ∧ k ≤ 56) ∧ ¬ (123 ≤ p ∧ p ≤ 144) ∧ ¬ (146 ≤ p ∧ p ≤ 157)) : I' p k = I p k := h p k (by
  simp only [yr_SJ, Bool.or_eq_false_iff, Bool.and_eq_false_iff, beq_eq_false_iff_ne, decide_eq_false_iff_not]; omega)
theorem yr_textL {o L : Nat} {x : Nat → Nat} {R : pR} {K : pI → pR → Prop} {Q : Int32 → pI → pR → Prop} (ho : o ≤ 1) (hL : L ≤ 120) : ∀ m c I, c + m = L → I 121 0 = nI L → I 121 10 = nI o → (∀ i, i < L → I 122 i = nI (x i)) → (∀ i, i < c → I 127 (120 * o + i) = nI (x i)) → (∀ I', (∀ i, i < L → I' 127 (120 * o + i) = nI (x i)) → (∀ p k, ¬ (p = 127 ∧ 120 * o ≤ k ∧ k < 120 * o + 120) → I' p k = I p k) → K I' R) → l_md_judge_160 K Q (m + 1) (nI c) I R := by
  intro m; induction m with
  | zero =>
    intro c I hc h0 h10 hx h hK
    unfold l_md_judge_160
    rw [h0]
    exact xa_t ((nI_leI (by omega) (by omega)).mpr (by omega)) (hK I (fun i hi => h i (by omega)) (fun _ _ _ => rfl))
  | succ m ih =>
    intro c I hc h0 h10 hx h hK
    unfold l_md_judge_160
    rw [h0, h10, show (120 : Int32) * nI o = nI (120 * o) from pk_mul _ _, nI_add, nI_clamp (by omega), nI_clamp (by omega), hx c (by omega), nI_1]
    refine xa_f (fun hh => by have := (nI_leI (by omega) (by omega)).mp hh; omega) ⟨vp_in_nI (by omega) (by omega), vp_in_nI (by omega) (by omega), xa_a (ih (c + 1) _ (by omega) (by rw [xa_p (by decide)]; exact h0) (by rw [xa_p (by decide)]; exact h10) (fun i hi => by rw [xa_p (by decide)]; exact hx i hi) (fun i hi => ?_) (fun I' h' f' => hK I' h' (fun p k hp => by rw [f' p k hp, xa_w, if_neg (by omega)])))⟩
    rw [xa_w]
    by_cases hi' : i = c
    · rw [if_pos ⟨rfl, by omega⟩, hi']
    · rw [if_neg (by omega)]; exact h i (by omega)
theorem yr_judge {I : pI} {R : pR} {o o' L : Nat} {x : Nat → Nat} {Q : Int32 → pI → pR → Prop} (ho : (o = 0 ∧ o' = 1) ∨ (o = 1 ∧ o' = 0)) (ok : xt_Ok x L) (h0 : I 121 0 = nI L) (tx : xt_Tx I 122 x L) (h10 : I 121 10 = nI o)
    (h1 : ∀ g, yk x L = .inl g → ∀ I', xa_fr (yr_SJ o') I I' → I' 121 9 = I 121 9 → I' 121 10 = I 121 10 → I' 121 56 = nI (xt_pl (xt_tk x L 120 0) L g) → Q 1 I' R)
    (h2 : ∀ F e, yk x L = .inr F → xq_fo none (xq_all F) = some e → ∀ I', xa_fr (yr_SJ o') I I' → I' 121 9 = I 121 9 → I' 121 10 = I 121 10 → I' 121 56 = nI e.2 → Q (nI e.1) I' R)
    (h3 : ∀ F, yk x L = .inr F → xq_fo none (xq_all F) = none → xg_FO (xt_tk x L 120 0) L F → yg_LY F → F.2.2.2.2.length ≤ 6 → ∀ I', xa_fr (yr_SJ o') I I' → I' 121 9 = 1 → I' 121 56 = -1 → yv_FM I' o' F → (∀ i, i < L → I' 127 (120 * o' + i) = nI (x i)) → Q 0 I' R) : w_md_judge I R Q := by
  have w := xt_tk_WF ok
  have hL := ok.1
  have ho' : o' ≤ 1 := by omega
  have hsub : (1 : Int32) - nI o = nI o' := by rcases ho with ⟨rfl, rfl⟩ | ⟨rfl, rfl⟩ <;> decide
  unfold w_md_judge
  refine xt_split ok h0 tx (fun I1 tr1 f1 => ?_)
  have g1 : ∀ p k, ¬ (p = 121 ∧ k = 2) → ¬ (123 ≤ p ∧ p ≤ 126) → I1 p k = I p k := fun p k a b => f1 p k (by
    simp only [xt_SR, Bool.or_eq_false_iff, Bool.and_eq_false_iff, beq_eq_false_iff_ne]; omega)
  rw [h10, hsub, show (400 : Int32) * nI o' = nI (400 * o') from pk_mul _ _, show (100 : Int32) * nI o' = nI (100 * o') from pk_mul _ _, show (120 : Int32) * nI o' = nI (120 * o') from pk_mul _ _]
  refine xa_a (xa_a (xa_a (xa_a (xa_a (xa_a (xa_a (xa_a (xa_a (xa_a (xa_a ?_))))))))))
  have tk1 := xr_TK_mk w tr1
  have gA : ∀ p k, p ≠ 121 → pw_wI (pw_wI (pw_wI (pw_wI (pw_wI (pw_wI (pw_wI (pw_wI (pw_wI (pw_wI (pw_wI I1 121 7 0) 121 15 (nI (400 * o'))) 121 32 (nI (100 * o'))) 121 33 (nI (120 * o'))) 121 34 0) 121 35 0) 121 47 0) 121 54 0) 121 52 (-1)) 121 55 0) 121 56 (-1) p k = I1 p k := fun p k h => by
    rw [xa_p h, xa_p h, xa_p h, xa_p h, xa_p h, xa_p h, xa_p h, xa_p h, xa_p h, xa_p h, xa_p h]
  have gB : ∀ k, k ≠ 7 → k ≠ 15 → k ≠ 32 → k ≠ 33 → k ≠ 34 → k ≠ 35 → k ≠ 47 → k ≠ 54 → k ≠ 52 → k ≠ 55 → k ≠ 56 → pw_wI (pw_wI (pw_wI (pw_wI (pw_wI (pw_wI (pw_wI (pw_wI (pw_wI (pw_wI (pw_wI I1 121 7 0) 121 15 (nI (400 * o'))) 121 32 (nI (100 * o'))) 121 33 (nI (120 * o'))) 121 34 0) 121 35 0) 121 47 0) 121 54 0) 121 52 (-1)) 121 55 0) 121 56 (-1) 121 k = I1 121 k := fun k a1 a2 a3 a4 a5 a6 a7 a8 a9 a10 a11 => by
    rw [xa_w, if_neg (by omega), xa_w, if_neg (by omega), xa_w, if_neg (by omega), xa_w, if_neg (by omega), xa_w, if_neg (by omega), xa_w, if_neg (by omega), xa_w, if_neg (by omega), xa_w, if_neg (by omega), xa_w, if_neg (by omega), xa_w, if_neg (by omega), xa_w, if_neg (by omega)]
  have n12 : xk_N (pw_wI (pw_wI (pw_wI (pw_wI (pw_wI (pw_wI (pw_wI (pw_wI (pw_wI (pw_wI (pw_wI I1 121 7 0) 121 15 (nI (400 * o'))) 121 32 (nI (100 * o'))) 121 33 (nI (120 * o'))) 121 34 0) 121 35 0) 121 47 0) 121 54 0) 121 52 (-1)) 121 55 0) 121 56 (-1)) (xt_tk x L 120 0) L o' 0 0 [] := by
    refine ⟨⟨⟨w, fun i hi => ?_⟩, ⟨?_, ?_, fun i e hi => by simp [xi_G] at hi, ?_, fun i e hi => by simp [xk_evs] at hi⟩, ⟨?_, fun j it hj => by simp at hj⟩, ⟨?_, fun i a hi => by simp [xi_rs] at hi⟩, ⟨?_, ?_⟩, ?_, ?_, ?_, fun i e hi => by simp at hi, ?_⟩, Nat.zero_le _, ⟨by simp [xi_G], by simp [xk_evs], by simp, by simp [xi_rs]⟩, fun it hi => by cases hi⟩
    · rw [gA _ _ (by decide), gA _ _ (by decide), gA _ _ (by decide), gA _ _ (by decide)]; exact tk1.2 i hi
    · simp only [xa_w]; simp; rfl
    · simp only [xa_w]; simp [xi_G]
    · simp only [xa_w]; simp [xk_evs]; rfl
    · simp only [xa_w]; simp
    · simp only [xa_w]; simp [xi_rs]
    · simp only [xa_w]; simp
    · simp only [xa_w]; simp
    · simp only [xa_w]; simp; rfl
    · simp only [xa_w]; simp; rfl
    · simp only [xa_w]; simp; rfl
    · simp only [xa_w]; simp
  generalize pw_wI (pw_wI (pw_wI (pw_wI (pw_wI (pw_wI (pw_wI (pw_wI (pw_wI (pw_wI (pw_wI I1 121 7 0) 121 15 (nI (400 * o'))) 121 32 (nI (100 * o'))) 121 33 (nI (120 * o'))) 121 34 0) 121 35 0) 121 47 0) 121 54 0) 121 52 (-1)) 121 55 0) 121 56 (-1) = I12 at *
  have f12 : xa_fr (yr_SJ o') I I12 := fun p k hp => by
    simp only [yr_SJ, Bool.or_eq_false_iff, Bool.and_eq_false_iff, beq_eq_false_iff_ne, decide_eq_false_iff_not] at hp
    by_cases h : p = 121
    · subst h
      rw [gB k (by omega) (by omega) (by omega) (by omega) (by omega) (by omega) (by omega) (by omega) (by omega) (by omega) (by omega), g1 _ _ (by omega) (by omega)]
    · rw [gA p k h, g1 p k (by omega) (by omega)]
  have k9 : I12 121 9 = I 121 9 := by rw [gB 9 (by omega) (by omega) (by omega) (by omega) (by omega) (by omega) (by omega) (by omega) (by omega) (by omega) (by omega), g1 _ _ (by omega) (by omega)]
  have k10 : I12 121 10 = I 121 10 := by rw [gB 10 (by omega) (by omega) (by omega) (by omega) (by omega) (by omega) (by omega) (by omega) (by omega) (by omega) (by omega), g1 _ _ (by omega) (by omega)]
  have fS : ∀ {I I' : pI}, xa_fr (xk_S o') I I' → xa_fr (yr_SJ o') I I' := fun h => xa_fr_m h (fun p k hp => by
    simp only [yr_SJ, xk_S, Bool.or_eq_false_iff, Bool.and_eq_false_iff, beq_eq_false_iff_ne, decide_eq_false_iff_not] at hp ⊢; omega)
  have fS9 : ∀ {I I' : pI}, xa_fr (xk_S o') I I' → I' 121 9 = I 121 9 ∧ I' 121 10 = I 121 10 := fun h => ⟨h 121 9 (by simp [xk_S]), h 121 10 (by simp [xk_S])⟩
  refine xk_fea ho' n12 (fun F hF I13 okF f13 => xa_f' (by decide) ?_) (fun g hg I13 h8 f13 => xa_t' rfl ?_)
  · obtain ⟨G, Ps, C, Rs, d, hfe⟩ := yg_fea w hF
    obtain ⟨p, its0, add, e1, e2, ⟨e3, e4⟩, stt⟩ := okF
    -- the items before the table
    have hX : its0 = G ++ Ps.flatten ++ C ∧ add = Rs.flatten := by
      have hits := d.its
      rw [e1] at hits
      by_cases hR : Rs = []
      · have : F.2.2.2.2 = [] := by rw [d.rs, hR]; rfl
        have ha := e3 this
        rw [ha, hR] at hits
        rw [ha, hR]
        simp only [List.append_nil, List.flatten_nil] at hits
        exact ⟨hits, rfl⟩
      · have hl : 0 < Rs.length := List.length_pos_iff.mpr hR
        have hs := yg_sta_ix Rs (G ++ Ps.flatten ++ C).length 0 hl
        rw [← d.rs] at hs
        have := e4 _ hs
        simp only [List.take_zero, List.flatten_nil, List.length_nil, Nat.add_zero] at this
        exact List.append_inj hits this
    obtain ⟨hX1, hX2⟩ := hX
    rw [hX1, hX2, hfe] at stt
    obtain ⟨tkS, itS, rsS⟩ := stt
    obtain ⟨evl, evw⟩ := yg_evW w d
    have hh := d.h
    refine xl_lookR (h := F.2.2.2.1) d.hl evl evw itS.2.2.2 rsS.2.2.2.2.2.1 (fun i e hi => ⟨rsS.2.2.2.2.2.2.1 i e hi, by have := hh e (List.mem_of_getElem? hi); omega⟩) rsS.2.2.1 (fun I14 er14 f14 => ?_)
    rw [← xq_fo_app, ← yq_same w d] at er14
    have f14o : ∀ p k, ¬ (p = 121 ∧ (k = 55 ∨ k = 56)) → I14 p k = I13 p k := fun p k hp => f14 p k (by
      simp only [xl_S, Bool.and_eq_false_iff, Bool.or_eq_false_iff, beq_eq_false_iff_ne]; omega)
    have f14' : xa_fr (yr_SJ o') I I14 := xa_fr_t f12 (xa_fr_t (fS f13) (fun p k hp => f14o p k (by
      simp only [yr_SJ, Bool.or_eq_false_iff, Bool.and_eq_false_iff, beq_eq_false_iff_ne, decide_eq_false_iff_not] at hp; omega)))
    cases he : xq_fo none (xq_all F) with
    | some e =>
      rw [he] at er14
      obtain ⟨a, b, c, d', e'⟩ := er14
      refine xa_f (fun h => by rw [a] at h; have := (xa_lel 0 (by omega) (by omega)).mp h; omega) ?_
      rw [a]
      refine h2 F e hF he I14 f14' ?_ ?_ b
      · rw [f14o _ _ (by omega), (fS9 f13).1, k9]
      · rw [f14o _ _ (by omega), (fS9 f13).2, k10]
    | none =>
      rw [he] at er14
      obtain ⟨a, b⟩ := er14
      refine xa_t (by rw [a]; decide) (xa_a (xa_a ?_))
      have hrows : ∀ (r : Nat) (W : List xi_I), Rs[r]? = some W → W.length = F.2.2.2.1.length ∧ r < 6 := yg_rows (F := F) (G := G) (Ps := Ps) (C := C) (Rs := Rs) (by rw [← yq_same w d]; exact he)
      have fo := yg_FOf w d hrows
      have ly := yg_LYf w d hrows
      have hrl : F.2.2.2.2.length ≤ 6 := by
        rw [d.rs, yg_sta_len]
        by_cases h : Rs.length ≤ 6
        · exact h
        · have := (hrows 6 _ (List.getElem?_eq_getElem (by omega))).2; omega
      have t10 : pw_wI (pw_wI I14 121 10 (nI o')) 121 9 1 121 10 = nI o' := by rw [xa_w, if_neg (by decide), xa_w, if_pos ⟨rfl, rfl⟩]
      have t32 : pw_wI (pw_wI I14 121 10 (nI o')) 121 9 1 121 32 = nI (100 * o' + F.1.length) := by rw [xa_w, if_neg (by decide), xa_w, if_neg (by decide), f14o _ _ (by omega)]; exact rsS.1.1
      rw [t10, nI_clamp (by omega), t32]
      have hin2 : vp_in (nI o') 2 := vp_in_nI (by omega) (by omega)
      refine ⟨hin2, xa_a ?_⟩
      have u10 : pw_wI (pw_wI (pw_wI I14 121 10 (nI o')) 121 9 1) 147 o' (nI (100 * o' + F.1.length)) 121 10 = nI o' := by rw [xa_p (by decide)]; exact t10
      have u34 : pw_wI (pw_wI (pw_wI I14 121 10 (nI o')) 121 9 1) 147 o' (nI (100 * o' + F.1.length)) 121 34 = nI F.2.1.length := by rw [xa_p (by decide), xa_w, if_neg (by decide), xa_w, if_neg (by decide), f14o _ _ (by omega)]; exact rsS.2.2.2.1
      rw [u10, nI_clamp (by omega), u34]
      refine ⟨hin2, xa_a ?_⟩
      have v10 : pw_wI (pw_wI (pw_wI (pw_wI I14 121 10 (nI o')) 121 9 1) 147 o' (nI (100 * o' + F.1.length))) 148 o' (nI F.2.1.length) 121 10 = nI o' := by rw [xa_p (by decide)]; exact u10
      have v35 : pw_wI (pw_wI (pw_wI (pw_wI I14 121 10 (nI o')) 121 9 1) 147 o' (nI (100 * o' + F.1.length))) 148 o' (nI F.2.1.length) 121 35 = nI F.2.2.2.2.length := by rw [xa_p (by decide), xa_p (by decide), xa_w, if_neg (by decide), xa_w, if_neg (by decide), f14o _ _ (by omega)]; exact rsS.2.2.2.2.1
      rw [v10, nI_clamp (by omega), v35]
      refine ⟨hin2, xa_a ⟨L + 1, ?_⟩⟩
      have w10 : pw_wI (pw_wI (pw_wI (pw_wI (pw_wI I14 121 10 (nI o')) 121 9 1) 147 o' (nI (100 * o' + F.1.length))) 148 o' (nI F.2.1.length)) 149 o' (nI F.2.2.2.2.length) 121 10 = nI o' := by rw [xa_p (by decide)]; exact v10
      have w9 : pw_wI (pw_wI (pw_wI (pw_wI (pw_wI I14 121 10 (nI o')) 121 9 1) 147 o' (nI (100 * o' + F.1.length))) 148 o' (nI F.2.1.length)) 149 o' (nI F.2.2.2.2.length) 121 9 = 1 := by rw [xa_p (by decide), xa_p (by decide), xa_p (by decide), xa_w, if_pos ⟨rfl, rfl⟩]
      have w147 : pw_wI (pw_wI (pw_wI (pw_wI (pw_wI I14 121 10 (nI o')) 121 9 1) 147 o' (nI (100 * o' + F.1.length))) 148 o' (nI F.2.1.length)) 149 o' (nI F.2.2.2.2.length) 147 o' = nI (100 * o' + F.1.length) := by rw [xa_p (by decide), xa_p (by decide), xa_w, if_pos ⟨rfl, rfl⟩]
      have w148 : pw_wI (pw_wI (pw_wI (pw_wI (pw_wI I14 121 10 (nI o')) 121 9 1) 147 o' (nI (100 * o' + F.1.length))) 148 o' (nI F.2.1.length)) 149 o' (nI F.2.2.2.2.length) 148 o' = nI F.2.1.length := by rw [xa_p (by decide), xa_w, if_pos ⟨rfl, rfl⟩]
      have w149 : pw_wI (pw_wI (pw_wI (pw_wI (pw_wI I14 121 10 (nI o')) 121 9 1) 147 o' (nI (100 * o' + F.1.length))) 148 o' (nI F.2.1.length)) 149 o' (nI F.2.2.2.2.length) 149 o' = nI F.2.2.2.2.length := by rw [xa_w, if_pos ⟨rfl, rfl⟩]
      have wo : ∀ p k, ¬ (p = 121 ∧ (k = 9 ∨ k = 10)) → ¬ (147 ≤ p ∧ p ≤ 149 ∧ k = o') → pw_wI (pw_wI (pw_wI (pw_wI (pw_wI I14 121 10 (nI o')) 121 9 1) 147 o' (nI (100 * o' + F.1.length))) 148 o' (nI F.2.1.length)) 149 o' (nI F.2.2.2.2.length) p k = I14 p k := fun p k h1 h2 => by rw [xa_w, if_neg (by omega), xa_w, if_neg (by omega), xa_w, if_neg (by omega), xa_w, if_neg (by omega), xa_w, if_neg (by omega)]
      generalize pw_wI (pw_wI (pw_wI (pw_wI (pw_wI I14 121 10 (nI o')) 121 9 1) 147 o' (nI (100 * o' + F.1.length))) 148 o' (nI F.2.1.length)) 149 o' (nI F.2.2.2.2.length) = I19 at *
      have fo14 : ∀ p k, ¬ (p = 121 ∧ 1 ≤ k ∧ k ≤ 56) → ¬ (123 ≤ p ∧ p ≤ 144) → ¬ (146 ≤ p ∧ p ≤ 157) → I14 p k = I p k := fun p k a b c => yr_SJ_o f14' p k ⟨a, b, c⟩
      refine yr_textL (x := x) ho' hL L 0 I19 (by omega) ?_ w10 (fun i hi => ?_) (fun i hi => by omega) (fun I' t' f' => ?_)
      · rw [wo _ _ (by omega) (by omega), fo14 _ _ (by omega) (by omega) (by omega)]; exact h0
      · rw [wo _ _ (by omega) (by omega), fo14 _ _ (by omega) (by omega) (by omega)]; exact tx i hi
      · have go : ∀ p k, ¬ (p = 121 ∧ (k = 9 ∨ k = 10)) → ¬ (147 ≤ p ∧ p ≤ 149 ∧ k = o') → p ≠ 127 → I' p k = I14 p k := fun p k a b c => by rw [f' p k (by omega), wo p k a b]
        refine h3 F hF he fo ly hrl I' (fun p k hp => ?_) ?_ ?_ ⟨fun j it hj => ?_, fun i a hi => ?_, fun i e hi => ?_, ?_, ?_, ?_, ?_⟩ t'
        · have hp' := hp
          simp only [yr_SJ, Bool.or_eq_false_iff, Bool.and_eq_false_iff, beq_eq_false_iff_ne, decide_eq_false_iff_not] at hp'
          rw [f' p k (by omega), wo p k (by omega) (by omega), f14' p k hp]
        · rw [f' _ _ (by omega)]; exact w9
        · rw [go _ _ (by omega) (by omega) (by omega)]; exact b
        · obtain ⟨⟨a1, a2, a3, a4, a5, a6, a7⟩, a8⟩ := rsS.1.2 j it hj
          have gg : ∀ p k, 131 ≤ p → p ≤ 144 → I' p k = I13 p k := fun p k h1 h2 => by rw [go _ _ (by omega) (by omega) (by omega), f14o _ _ (by omega)]
          refine ⟨⟨by rw [gg _ _ (by omega) (by omega)]; exact a1, by rw [gg _ _ (by omega) (by omega)]; exact a2, by rw [gg _ _ (by omega) (by omega)]; exact a3, by rw [gg _ _ (by omega) (by omega)]; exact a4, by rw [gg _ _ (by omega) (by omega)]; exact a5, by rw [gg _ _ (by omega) (by omega)]; exact a6, by rw [gg _ _ (by omega) (by omega)]; exact a7⟩, fun h7 => ?_⟩
          obtain ⟨b1, b2, b3, b4, b5, b6, b7⟩ := a8 h7
          exact ⟨by rw [gg _ _ (by omega) (by omega)]; exact b1, by rw [gg _ _ (by omega) (by omega)]; exact b2, by rw [gg _ _ (by omega) (by omega)]; exact b3, by rw [gg _ _ (by omega) (by omega)]; exact b4, by rw [gg _ _ (by omega) (by omega)]; exact b5, by rw [gg _ _ (by omega) (by omega)]; exact b6, by rw [gg _ _ (by omega) (by omega)]; exact b7⟩
        · rw [go _ _ (by omega) (by omega) (by omega), f14o _ _ (by omega)]; exact rsS.2.1.2 i a hi
        · have := itS.2.2.1 i e hi
          rw [go _ _ (by omega) (by omega) (by omega), f14o _ _ (by omega), go _ _ (by omega) (by omega) (by omega), f14o _ _ (by omega), go _ _ (by omega) (by omega) (by omega), f14o _ _ (by omega)]
          exact this
        · rw [f' _ _ (by omega)]; exact w10
        · rw [f' _ _ (by omega)]; exact w147
        · rw [f' _ _ (by omega)]; exact w148
        · rw [f' _ _ (by omega)]; exact w149
  · refine xa_a ?_
    rw [h8]
    refine h1 g hg _ (xa_fr_w (xa_fr_t f12 (fS f13)) rfl) ?_ ?_ (by rw [xa_w, if_pos ⟨rfl, rfl⟩])
    · rw [xa_w, if_neg (by decide), (fS9 f13).1, k9]
    · rw [xa_w, if_neg (by decide), (fS9 f13).2, k10]
