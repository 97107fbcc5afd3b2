/-! BOTH SIDES RUN -/
def yd_OK (L : Nat) (dr : Option (Nat × Nat × List (Nat × Int32))) : Prop := ∀ d, dr = some d → d.1 < d.2.1 ∧ d.2.1 ≤ L ∧ xf_dis d.2.2 ∧ ∀ e, e ∈ d.2.2 → d.1 ≤ e.1 ∧ e.1 < d.2.1
theorem yd_OK_n {L : Nat} : yd_OK L none := fun d h => by cases h
def yd_OH (L : Nat) (h : xg_H) : Prop := yd_OK L (h.bind (fun f => f.2))
section
variable {ts : List (Nat × Nat × Nat × Nat)} {L : Nat} {F : xi_F}
theorem yd_hold (w : xt_WF ts L) {V O : Nat → Int32} {s : xp_S} {it : xi_I} (iw : xg_IW ts L it) (hk : xi_k it = 4 ∨ xi_k it = 3) : yd_OH L (xg_hold V O s it).2 := by
  obtain ⟨a, b, c⟩ := xg_IX_la w (iw.2.2.1 (by omega))
  have c' := c (xg_A []) V O s
  unfold xg_hold
  rcases hd : (xi_x it).2.2.1 (xg_A []) V O s with ⟨s', D, e | v⟩
  · exact yd_OK_n
  · rw [hd] at c'
    simp only
    split
    · intro d hh; cases hh; exact ⟨a, b, c'.1, c'.2⟩
    · exact yd_OK_n
theorem yd_claims (w : xt_WF ts L) {V O : Nat → Int32} {calm : Bool} : ∀ (l : List xi_I) (s : xp_S), (∀ it, it ∈ l → xg_IW ts L it) → yd_OH L (xg_claims V O calm l s).2 := by
  intro l; induction l with
  | nil => intro s _; exact yd_OK_n
  | cons it l ih =>
    intro s h
    have i := fun s => ih s (fun u hu => h u (by simp [hu]))
    unfold xg_claims
    split
    · rename_i hk
      have hh := yd_hold w (V := V) (O := O) (s := s) (h it (by simp)) hk
      rcases hd : xg_hold V O s it with ⟨s', _ | f⟩
      · exact i s'
      · rw [hd] at hh; exact hh
    · by_cases hc : xi_k it = (if calm then 5 else 6)
      · rw [if_pos hc]; exact yd_OK_n
      · rw [if_neg hc]; exact i s
theorem yd_met {s : xp_S} : ∀ l : List (Nat × xi_I), yd_OH L (xg_met s l) := by
  intro l; induction l with
  | nil => exact yd_OK_n
  | cons e l ih =>
    unfold xg_met
    split
    · exact yd_OK_n
    · exact ih
theorem yd_fin {V : Nat → Int32} {rl : List (Nat × xi_I)} {c : xp_S × xg_H} (h : yd_OH L c.2) : yd_OH L (xg_fin V rl c).2.2 := by
  obtain ⟨s, _ | f⟩ := c
  · exact yd_met rl
  · exact h
theorem yd_part (w : xt_WF ts L) {V : Nat → Int32} {s : xp_S} {seg : List xi_I} {rl : List (Nat × xi_I)} (h : ∀ it, it ∈ seg → xg_IW ts L it) : yd_OH L (xg_part seg rl V s).2.2 := by
  unfold xg_part
  split
  · unfold xg_wt
    rcases xg_rem V (seg.flatMap (fun it => (xi_x it).2.2.2.2)) xg_O0 s with ⟨O, s1, _ | e⟩
    · simp only
      rcases xg_steps (xg_A rl) (xg_ds (seg.filter (fun it => xi_k it == 1))) V (xg_rs s1) with ⟨V2, s2, _ | e⟩
      · exact yd_fin (yd_claims w seg s2 h)
      · simp only
        split
        · exact yd_fin (yd_claims w seg s2 h)
        · exact yd_OK_n
    · exact yd_OK_n
  · exact yd_claims w seg s h
theorem yd_parts (w : xt_WF ts L) : ∀ (l : List (List xi_I × List (Nat × xi_I))) V s, (∀ e, e ∈ l → ∀ it, it ∈ e.1 → xg_IW ts L it) → yd_OH L (xg_parts l V s).2.2 := by
  intro l; induction l with
  | nil => intro V s _; exact yd_OK_n
  | cons e l ih =>
    intro V s h
    have hp := yd_part w (V := V) (s := s) (seg := e.1) (rl := e.2) (h e (by simp))
    unfold xg_parts
    rcases hd : xg_part e.1 e.2 V s with ⟨V', s', _ | f⟩
    · exact ih V' s' (fun u hu => h u (by simp [hu]))
    · rw [hd] at hp; exact hp
theorem yd_pl {F : xi_F} : ∀ m p e, e ∈ xg_pl F p m → ∀ it, it ∈ e.1 → it ∈ F.1 := by
  intro m; induction m with
  | zero => intro p e he; cases he
  | succ m ih =>
    intro p e he it hi
    rcases List.mem_cons.mp he with rfl | he
    · exact xg_seg_sub.subset hi
    · exact ih _ e he it hi
theorem yd_iter (w : xg_W ts L F.1) (row : Nat) : yd_OK L (xg_iter F row).2.2.2.2 := by
  have hm : ∀ V s, yd_OH L (xg_mid F V s).2.2 := by
    intro V s
    unfold xg_mid
    rcases xg_steps (xg_A []) (xg_ds ((xg_seg F.1 0 (xg_pe F 0)).filter (fun it => xi_k it == 0))) V s with ⟨V2, s2, _ | e⟩
    · exact yd_parts w.1 _ V2 s2 (fun e he it hi => w.2.2.2.2.2.2 it (yd_pl _ _ e he it hi))
    · exact yd_OK_n
  unfold xg_iter
  rcases xg_steps (xg_A []) (xg_cells F row) xg_O0 xg_O0 with ⟨V1, s1, _ | e⟩
  · have := hm V1 s1
    simp only
    rcases hd : xg_mid F V1 s1 with ⟨V3, s3, h⟩
    rw [hd] at this
    simp only
    rcases xg_steps (xg_A []) (xg_ds ((xg_seg F.1 F.2.2.1 F.1.length).filter (fun it => xi_k it == 2))) V3 s3 with ⟨V4, s4, e4⟩
    exact this
  · exact yd_OK_n
end
def yg_cnt (F : xi_F) : Nat → Nat
  | 0 => 0
  | n + 1 => yg_cnt F n + (if (xg_iter F n).2.2.1.isSome then 1 else 0)
theorem yg_cnt_b (F : xi_F) : ∀ n, yg_cnt F n ≤ n := by
  intro n; induction n with
  | zero => exact Nat.le_refl _
  | succ n ih => show yg_cnt F n + _ ≤ n + 1; split <;> omega
def yx_SR (p k : Nat) : Bool := (p == 0 && k == 10) || (decide (6 ≤ p) && decide (p ≤ 53)) || (decide (115 ≤ p) && decide (p ≤ 120))
theorem yx_SR_o {I I' : pI} (h : xa_fr yx_SR I I') (p k : Nat) (hp : ¬ (p = 0 ∧ k = 10) ∧ ¬ (6 ≤ p ∧ p ≤ 53) ∧ ¬ (115 ≤ p ∧ p ≤ 120)) : I' p k = I p k := h p k (by
  simp only [yx_SR, Bool.or_eq_false_iff, Bool.and_eq_false_iff, beq_eq_false_iff_ne, decide_eq_false_iff_not]; omega)
theorem yx_SR_I {oc : Nat} {I I' : pI} (hoc : xv_oc oc) (h : xa_fr (xv_SI oc) I I') : xa_fr yx_SR I I' := xa_fr_m h (fun p k hp => by
  unfold xv_oc at hoc
  simp only [yx_SR, xv_SI, Bool.or_eq_false_iff, Bool.and_eq_false_iff, beq_eq_false_iff_ne, decide_eq_false_iff_not] at hp ⊢; omega)
theorem yx_oc {k : Nat} (h : k < 6) : xv_oc (6 + 8 * k) := by unfold xv_oc; omega
theorem xv_OR_fr {I I' : pI} {oc : Nat} {tx : Nat → Nat} {r : xg_R} (h : xv_OR I oc tx r) (f : ∀ p k, oc ≤ p → p ≤ oc + 7 → I' p k = I p k) : xv_OR I' oc tx r := by
  obtain ⟨a, b, c, d, e⟩ := h
  refine ⟨fun v hv => by rw [f _ _ (by omega) (by omega)]; exact a v hv, ⟨by rw [f _ _ (by omega) (by omega)]; exact b.1, by rw [f _ _ (by omega) (by omega)]; exact b.2⟩, ?_, by rw [f _ _ (by omega) (by omega)]; exact d, xd_DC_fr e (fun p k h1 h2 => f p k (by omega) (by omega))⟩
  cases hr : r.2.2.1 with
  | none => rw [hr] at c; exact ⟨by rw [f _ _ (by omega) (by omega)]; exact c.1, by rw [f _ _ (by omega) (by omega)]; exact c.2⟩
  | some g => rw [hr] at c; exact ⟨by rw [f _ _ (by omega) (by omega)]; exact c.1, by rw [f _ _ (by omega) (by omega)]; exact c.2.1, c.2.2⟩
theorem yv_OR_fr {I I' : pI} {k : Nat} {r : xg_R} (h : yv_OR I k r) (f1 : ∀ p, 163 ≤ p ∧ p ≤ 165 ∨ p = 168 ∨ p = 171 ∨ p = 172 → I' p k = I p k) (f2 : ∀ j, 26 * k ≤ j → j < 26 * k + 26 → I' 166 j = I 166 j) (f3 : ∀ j, 2 * k ≤ j → j < 2 * k + 2 → I' 167 j = I 167 j) (f4 : ∀ p j, p = 169 ∨ p = 170 → 120 * k ≤ j → j < 120 * k + 120 → I' p j = I p j) {L : Nat} (ok : yd_OK L r.2.2.2.2) (hL : L ≤ 120) : yv_OR I' k r := by
  obtain ⟨a, b, c, d, e⟩ := h
  refine ⟨fun v hv => by rw [f2 _ (by omega) (by omega)]; exact a v hv, ⟨by rw [f3 _ (by omega) (by omega)]; exact b.1, by rw [f3 _ (by omega) (by omega)]; exact b.2⟩, ?_, by rw [f1 _ (by omega)]; exact d, ?_⟩
  · cases hr : r.2.2.1 with
    | none => rw [hr] at c; exact ⟨by rw [f1 _ (by omega)]; exact c.1, by rw [f1 _ (by omega)]; exact c.2⟩
    | some g => rw [hr] at c; exact ⟨by rw [f1 _ (by omega)]; exact c.1, by rw [f1 _ (by omega)]; exact c.2.1, c.2.2⟩
  · cases hr : r.2.2.2.2 with
    | none => rw [hr] at e; exact (f1 _ (by omega)).trans e
    | some dd =>
      rw [hr] at e ok
      obtain ⟨e1, e2, e3, e4⟩ := e
      have o := ok dd rfl
      have hb := (xd_lf_b dd.1 dd.2.2 (dd.2.1 - dd.1) 0).1
      refine ⟨(f1 _ (by omega)).trans e1, (f1 _ (by omega)).trans e2, (f1 _ (by omega)).trans e3, fun i u hi => ?_⟩
      have := xa_some_lt hi
      exact ⟨(f4 _ _ (Or.inl rfl) (by omega) (by omega)).trans (e4 i u hi).1, (f4 _ _ (Or.inr rfl) (by omega) (by omega)).trans (e4 i u hi).2⟩
section
variable {ts : List (Nat × Nat × Nat × Nat)} {L : Nat} {F : xi_F} {tx : Nat → Nat}
theorem xi_FM_R {I I' : pI} {q : Nat} (hq : q = 54 ∨ q = 81) (h : xi_FM I q F) (f : xa_fr yx_SR I I') : xi_FM I' q F := by
  obtain ⟨a, b, c, d⟩ := h
  refine ⟨xi_CM_p a (fun p a b => funext (fun k => yx_SR_o f p k (by omega))), xi_PM_fr b ?_ ?_, xi_HM_fr c ?_ ?_ ?_, xi_WM_fr d ?_ ?_⟩
  · exact yx_SR_o f _ _ (by omega)
  · exact funext (fun k => yx_SR_o f _ _ (by omega))
  · exact yx_SR_o f _ _ (by omega)
  · exact funext (fun k => yx_SR_o f _ _ (by omega))
  · exact funext (fun k => yx_SR_o f _ _ (by omega))
  · exact yx_SR_o f _ _ (by omega)
  · exact funext (fun k => yx_SR_o f _ _ (by omega))
theorem yx_runL {q N : Nat} {K Q : Int32 → pI → pR → Prop} (hq : q = 54 ∨ q = 81) (fo : xg_FO ts L F) (htx : ∀ i, i < L → tx i < 65536) (hN : N ≤ 6) :
    ∀ m k I R, k + m = N → xi_FM I q F → xt_Tx I (q + 1) tx L → I 0 10 = nI N → R 0 7 = some q → (∀ k, k < 6 → R 5 k = some (6 + 8 * k)) → (∀ j, j < k → xv_OR I (6 + 8 * j) tx (xg_iter F j)) →
    (∀ I' R', xa_fr yx_SR I I' → I' 0 10 = nI N → (∀ p k, p ≠ 114 → p ≠ 115 → R' p k = R p k) → (∀ j, j < N → xv_OR I' (6 + 8 * j) tx (xg_iter F j)) → K (nI (yg_cnt F N)) I' R') →
    l_sr_run_43 K Q (m + 1) (nI (yg_cnt F k)) (nI k) I R := by
  intro m; induction m with
  | zero =>
    intro k I R hk fm hTx h10 hR7 hR5 hor hK
    unfold l_sr_run_43
    rw [h10]
    have : k = N := by omega
    subst this
    exact xa_t ((nI_leI (by omega) (by omega)).mpr (Nat.le_refl _)) (hK I R (xa_fr_r _ _) h10 (fun _ _ _ _ => rfl) hor)
  | succ m ih =>
    intro k I R hk fm hTx h10 hR7 hR5 hor hK
    have hoc := yx_oc (k := k) (by omega)
    have hin : vp_in (nI k) 6 := vp_in_nI (by omega) (by omega)
    unfold l_sr_run_43
    rw [h10, nI_clamp (by omega)]
    refine xa_f (fun h => by have := (nI_leI (by omega) (by omega)).mp h; omega) (xa_f (fun h => by have := (xa_lle 6 (by omega) (by omega)).mp h; omega) ⟨q, hR7, xv_q_sh hq, hin, 6 + 8 * k, hR5 k (by omega), xv_oc_sh hoc, ?_⟩)
    refine xv_iterate (tx := tx) (ts := ts) (L := L) hq hoc fo htx fm hTx (by omega) (fun I1 f1 or1 => ?_)
    have R7 : xv_Rr R q (6 + 8 * k) 0 7 = some q := by rw [xv_Rr_o (by omega)]; exact hR7
    have R5 : ∀ j, j < 6 → xv_Rr R q (6 + 8 * k) 5 j = some (6 + 8 * j) := fun j hj => by rw [xv_Rr_o (by omega)]; exact hR5 j hj
    have Ro : ∀ p k', p ≠ 114 → p ≠ 115 → xv_Rr R q (6 + 8 * k) p k' = R p k' := fun p k' h1 h2 => xv_Rr_o (by omega)
    have fr := yx_SR_I hoc f1
    have hc := yg_cnt_b F k
    have k10 : I1 0 10 = nI N := by rw [xv_SI_o f1 _ _ (by omega)]; exact h10
    have orj : ∀ j, j < k + 1 → xv_OR I1 (6 + 8 * j) tx (xg_iter F j) := fun j hj => by
      by_cases hjk : j = k
      · subst hjk; exact or1
      · exact xv_OR_fr (hor j (by omega)) (fun p k' h1 h2 => xv_SI_o f1 p k' (by omega))
    have next : ∀ z, z = nI (yg_cnt F (k + 1)) → l_sr_run_43 K Q (m + 1) z (nI k + 1) I1 (xv_Rr R q (6 + 8 * k)) := by
      intro z hz
      rw [hz, nI_1]
      exact ih (k + 1) I1 _ (by omega) (xi_FM_R hq fm fr) (fun i hi => by rw [yx_SR_o fr _ _ (by omega)]; exact hTx i hi) k10 R7 R5 orj (fun I' R' f' h' hR' or' => hK I' R' (xa_fr_t fr f') h' (fun p k' h1 h2 => by rw [hR' p k' h1 h2, Ro p k' h1 h2]) or')
    refine ⟨hin, 6 + 8 * k, R5 k (by omega), xv_oc_sh hoc, ?_⟩
    have c := or1.2.2.1
    cases hr : (xg_iter F k).2.2.1 with
    | none =>
      rw [hr] at c
      refine xa_t c.1 (next _ ?_)
      show _ = nI (yg_cnt F k + _)
      rw [hr]; rfl
    | some f =>
      rw [hr] at c
      refine xa_f (by rw [c.1]; exact xa_ne 0 (by have := c.2.2; omega)) (next _ ?_)
      rw [nI_1]
      show _ = nI (yg_cnt F k + _)
      rw [hr]; rfl
def yx_N (F : xi_F) : Nat := if F.2.2.2.2.length = 0 then 1 else F.2.2.2.2.length
theorem yx_run {q : Nat} {I : pI} {R : pR} {Q : Int32 → pI → pR → Prop} (hq : q = 54 ∨ q = 81) (fo : xg_FO ts L F) (h6 : F.2.2.2.2.length ≤ 6) (htx : ∀ i, i < L → tx i < 65536) (fm : xi_FM I q F) (hTx : xt_Tx I (q + 1) tx L) (h8 : I 0 8 = 1) (hR7 : R 0 7 = some q) (hR5 : ∀ k, k < 6 → R 5 k = some (6 + 8 * k))
    (hQ : ∀ I' R', xa_fr yx_SR I I' → I' 0 10 = nI (yx_N F) → (∀ p k, p ≠ 114 → p ≠ 115 → R' p k = R p k) → (∀ j, j < yx_N F → xv_OR I' (6 + 8 * j) tx (xg_iter F j)) → Q (nI (yg_cnt F (yx_N F))) I' R') : w_sr_run I R Q := by
  have go : ∀ z, z = nI (yx_N F) → ∀ I1, I1 = pw_wI I 0 10 z → ∃ n, l_sr_run_43 (fun y1 I3 R2 => Q y1 I3 R2) Q n 0 0 I1 R := by
    intro z hz I1 e1
    have f1 : xa_fr yx_SR I I1 := by rw [e1]; exact xa_fr_w (xa_fr_r _ _) rfl
    have hN : yx_N F ≤ 6 := by unfold yx_N; split <;> omega
    refine ⟨yx_N F + 1, yx_runL (tx := tx) (ts := ts) (L := L) hq fo htx hN (yx_N F) 0 I1 R (by omega) (xi_FM_R hq fm f1) (fun i hi => by rw [yx_SR_o f1 _ _ (by omega)]; exact hTx i hi) (by rw [e1, xa_w, if_pos ⟨rfl, rfl⟩]; exact hz) hR7 hR5 (fun j hj => by omega) (fun I' R' f' h' hR' or' => hQ I' R' (xa_fr_t f1 f') h' hR' or')⟩
  unfold w_sr_run
  refine xa_f' (by rw [h8]; decide) ⟨q, hR7, xv_q_sh hq, ?_⟩
  rw [fm.2.2.2.1]
  by_cases h0 : F.2.2.2.2.length = 0
  · refine xa_t' (xa_e 0 h0) (fun I4 e4 => go 1 (by unfold yx_N; rw [if_pos h0]; rfl) I4 e4)
  · refine xa_f' (xa_ne 0 (by omega)) ⟨q, hR7, xv_q_sh hq, fun I1 e1 => go _ ?_ I1 e1⟩
    rw [fm.2.2.2.1, if_neg (fun h => by have := (xa_llt 6 (by omega) (by omega)).mp h; omega)]
    unfold yx_N; rw [if_neg h0]
/-- the reference -/
def yr_SR (p k : Nat) : Bool := (p == 121 && decide (58 ≤ k) && decide (k ≤ 69)) || p == 145 || (decide (158 ≤ p) && decide (p ≤ 172))
theorem yr_SR_o {I I' : pI} (h : xa_fr yr_SR I I') (p k : Nat) (hp : ¬ (p = 121 ∧ 58 ≤ k ∧ k ≤ 69) ∧ p ≠ 145 ∧ ¬ (158 ≤ p ∧ p ≤ 172)) : I' p k = I p k := h p k (by
  simp only [yr_SR, Bool.or_eq_false_iff, Bool.and_eq_false_iff, beq_eq_false_iff_ne, decide_eq_false_iff_not]; omega)
theorem yr_SR_I {now : Nat} {I I' : pI} (h : xa_fr (yv_SI now) I I') : xa_fr yr_SR I I' := xa_fr_m h (fun p k hp => by
  simp only [yr_SR, yv_SI, Bool.or_eq_false_iff, Bool.and_eq_false_iff, beq_eq_false_iff_ne, decide_eq_false_iff_not] at hp ⊢; omega)
theorem yv_SI_n {now k : Nat} {I I' : pI} (h : xa_fr (yv_SI now) I I') (hne : k ≠ now) {r : xg_R} {L : Nat} (ok : yd_OK L r.2.2.2.2) (hL : L ≤ 120) (o : yv_OR I k r) : yv_OR I' k r := by
  refine yv_OR_fr o (fun p hp => h p k ?_) (fun j h1 h2 => h 166 j ?_) (fun j h1 h2 => h 167 j ?_) (fun p j hp h1 h2 => h p j ?_) ok hL
  all_goals (simp only [yv_SI, Bool.or_eq_false_iff, Bool.and_eq_false_iff, beq_eq_false_iff_ne, decide_eq_false_iff_not]; omega)
theorem yr_copyL {o : Nat} {f1 : Int32} {R : pR} {K : pI → pR → Prop} {Q : Int32 → pI → pR → Prop} (ho : o ≤ 1) (hL : L ≤ 120) : ∀ m c I, c + m = 120 → I 121 10 = nI o → (∀ i, i < L → I 127 (120 * o + i) = nI (tx i)) → (∀ i, i < c → i < L → I 162 i = nI (tx i)) → (∀ I', (∀ i, i < L → I' 162 i = nI (tx i)) → (∀ p k, p ≠ 162 → I' p k = I p k) → K I' R) → l_md_run_42 f1 K Q (m + 1) (nI c) I R := by
  intro m; induction m with
  | zero =>
    intro c I hc h10 h127 h hK
    unfold l_md_run_42
    exact xa_t ((xa_lle 120 (by omega) (by omega)).mpr (by omega)) (hK I (fun i hi => h i (by omega) hi) (fun _ _ _ => rfl))
  | succ m ih =>
    intro c I hc h10 h127 h hK
    unfold l_md_run_42
    rw [h10, show (120 : Int32) * nI o = nI (120 * o) from pk_mul _ _, nI_add, nI_clamp (by omega), nI_clamp (by omega), nI_1]
    refine xa_f (fun hh => by have := (xa_lle 120 (by omega) (by omega)).mp hh; omega) ⟨vp_in_nI (by omega) (by omega), vp_in_nI (by omega) (by omega), xa_a (ih (c + 1) _ (by omega) (by rw [xa_p (by decide)]; exact h10) (fun i hi => by rw [xa_p (by decide)]; exact h127 i hi) (fun i hi hl => ?_) (fun I' h' f' => hK I' h' (fun p k hp => by rw [f' p k hp, xa_p hp])))⟩
    rw [xa_w]
    by_cases hi' : i = c
    · rw [if_pos ⟨rfl, hi'⟩, ← hi']; exact h127 i hl
    · rw [if_neg (by omega)]; exact h i (by omega) hl
theorem yr_runL {o N : Nat} {R : pR} {K Q : Int32 → pI → pR → Prop} (ho : o ≤ 1) (fo : xg_FO ts L F) (ly : yg_LY F) (hN : N ≤ 6) :
    ∀ m k I, k + m = N → yv_FM I o F → I 121 69 = nI N → (∀ j, j < k → yv_OR I j (xg_iter F j)) →
    (∀ I', xa_fr yr_SR I I' → I' 121 69 = nI N → I' 162 = I 162 → (∀ j, j < N → yv_OR I' j (xg_iter F j)) → K (nI (yg_cnt F N)) I' R) →
    l_md_run_76 K Q (m + 1) (nI (yg_cnt F k)) (nI k) I R := by
  have hL := fo.1.1.1
  intro m; induction m with
  | zero =>
    intro k I hk fm h69 hor hK
    unfold l_md_run_76
    rw [h69]
    have : k = N := by omega
    subst this
    exact xa_t ((nI_leI (by omega) (by omega)).mpr (Nat.le_refl _)) (hK I (xa_fr_r _ _) h69 rfl hor)
  | succ m ih =>
    intro k I hk fm h69 hor hK
    have hin : vp_in (nI k) 6 := vp_in_nI (by omega) (by omega)
    unfold l_md_run_76
    rw [h69]
    refine xa_f (fun h => by have := (nI_leI (by omega) (by omega)).mp h; omega) (yv_iterate (ts := ts) (L := L) (by omega) ho fo ly fm (fun I1 f1 or1 => ⟨hin, ?_⟩))
    have hc := yg_cnt_b F k
    have k69 : I1 121 69 = nI N := by rw [yv_SI_o f1 _ _ (by omega)]; exact h69
    have orj : ∀ j, j < k + 1 → yv_OR I1 j (xg_iter F j) := fun j hj => by
      by_cases hjk : j = k
      · subst hjk; exact or1
      · exact yv_SI_n f1 hjk (yd_iter fo.1 j) hL (hor j (by omega))
    have next : ∀ z, z = nI (yg_cnt F (k + 1)) → l_md_run_76 K Q (m + 1) z (nI k + 1) I1 R := by
      intro z hz
      rw [hz, nI_1]
      exact ih (k + 1) I1 (by omega) (yv_FM_I fm f1) k69 orj (fun I' f' h' h162 or' => hK I' (xa_fr_t (yr_SR_I f1) f') h' (h162.trans (funext (fun j => yv_SI_o f1 _ _ (by omega)))) or')
    rw [nI_clamp (by omega)]
    have c := or1.2.2.1
    cases hr : (xg_iter F k).2.2.1 with
    | none =>
      rw [hr] at c
      refine xa_t (by rw [c.1]; decide) (next _ ?_)
      show _ = nI (yg_cnt F k + _)
      rw [hr]; rfl
    | some f =>
      rw [hr] at c
      have cb := c.2.2
      refine xa_f (fun h => by rw [c.1] at h; have := (xa_lel 0 (by omega) (by omega)).mp h; omega) (next _ ?_)
      rw [nI_1]
      show _ = nI (yg_cnt F k + _)
      rw [hr]; rfl
theorem yr_run {o : Nat} {I : pI} {R : pR} {Q : Int32 → pI → pR → Prop} (ho : o ≤ 1) (fo : xg_FO ts L F) (ly : yg_LY F) (h6 : F.2.2.2.2.length ≤ 6) (fm : yv_FM I o F) (h127 : ∀ i, i < L → I 127 (120 * o + i) = nI (tx i)) (h9 : I 121 9 = 1)
    (hQ : ∀ I', xa_fr yr_SR I I' → I' 121 69 = nI (yx_N F) → (∀ i, i < L → I' 162 i = nI (tx i)) → (∀ j, j < yx_N F → yv_OR I' j (xg_iter F j)) → Q (nI (yg_cnt F (yx_N F))) I' R) : w_md_run I R Q := by
  have hL := fo.1.1.1
  have hin2 : vp_in (nI o) 2 := vp_in_nI (by omega) (by omega)
  have go : ∀ z, z = nI (yx_N F) → ∀ I1, I1 = pw_wI I 121 69 z → ∃ n2, l_md_run_42 0 (fun I3 R1 => (∃ n1, l_md_run_76 (fun y1 I5 R3 => Q y1 I5 R3) Q n1 0 0 I3 R1)) Q n2 0 I1 R := by
    intro z hz I1 e1
    have f1 : xa_fr yr_SR I I1 := by rw [e1]; exact xa_fr_w (xa_fr_r _ _) rfl
    have hN : yx_N F ≤ 6 := by unfold yx_N; split <;> omega
    have g1 : ∀ p k, p ≠ 121 → I1 p k = I p k := fun p k hp => by rw [e1, xa_p hp]
    refine ⟨121, yr_copyL (tx := tx) ho hL 120 0 I1 (by omega) (by rw [e1, xa_w, if_neg (by decide)]; exact fm.2.2.2.1) (fun i hi => by rw [g1 _ _ (by decide)]; exact h127 i hi) (fun i hi => by omega) (fun I2 h2 f2 => ?_)⟩
    have f12 : xa_fr yr_SR I I2 := fun p k hp => by
      have hp' := hp
      simp only [yr_SR, Bool.or_eq_false_iff, Bool.and_eq_false_iff, beq_eq_false_iff_ne, decide_eq_false_iff_not] at hp'
      rw [f2 p k (by omega), f1 p k hp]
    refine ⟨yx_N F + 1, yr_runL ho fo ly hN (yx_N F) 0 I2 (by omega) (yv_FM_p fm (fun p k hp => yr_SR_o f12 p k (by omega)) (yr_SR_o f12 _ _ (by omega))) (by rw [f2 _ _ (by decide), e1, xa_w, if_pos ⟨rfl, rfl⟩]; exact hz) (fun j hj => by omega) (fun I' f' h' h162 or' => hQ I' (xa_fr_t f12 f') h' (fun i hi => by rw [h162]; exact h2 i hi) or')⟩
  unfold w_md_run
  refine xa_f' (by rw [h9]; decide) ?_
  rw [fm.2.2.2.1, nI_clamp (by omega), fm.2.2.2.2.2.2]
  refine ⟨hin2, ?_⟩
  by_cases h0 : F.2.2.2.2.length = 0
  · exact xa_t' (xa_e 0 h0) (fun I6 e6 => go 1 (by unfold yx_N; rw [if_pos h0]; rfl) I6 e6)
  · exact xa_f' (xa_ne 0 (by omega)) ⟨hin2, fun I1 e1 => go _ (by unfold yx_N; rw [if_neg h0]) I1 e1⟩
end
