/-! BOTH SIDES ANSWER -/
theorem yi_or (n : Nat) (a : Int32) (hn : n ≤ 6) : (∃ k, k < n ∧ a = nI k) ∨ (a < 0) ∨ (¬ a < 0 ∧ nI n ≤ a) := by
  by_cases h : a < 0
  · exact Or.inr (Or.inl h)
  · obtain ⟨m, hm, rfl⟩ := yi_nn h
    by_cases h2 : m < n
    · exact Or.inl ⟨m, h2, rfl⟩
    · exact Or.inr (Or.inr ⟨h, (nI_leI (by omega) hm).mpr (by omega)⟩)
theorem yw_itY {I : pI} {R : pR} {n k : Nat} {Q : Int32 → pI → pR → Prop} (hn : n ≤ 6) (h : I 0 10 = nI n) (hk : k < n) (hQ : Q 1 I R) : w_sr_isIteration (nI k) I R Q := by
  unfold w_sr_isIteration
  rw [h]
  exact xa_f (nI_pos (by omega)) (xa_f (fun e => by have := (nI_leI (by omega) (by omega)).mp e; omega) (xa_f (fun e => by have := (xa_lle 6 (by omega) (by omega)).mp e; omega) hQ))
theorem yw_itN {I : pI} {R : pR} {n : Nat} {a : Int32} {Q : Int32 → pI → pR → Prop} (h : I 0 10 = nI n) (ha : (a < 0) ∨ (¬ a < 0 ∧ nI n ≤ a)) (hQ : Q 0 I R) : w_sr_isIteration a I R Q := by
  unfold w_sr_isIteration
  rw [h]
  rcases ha with ha | ⟨h1, h2⟩
  · exact xa_t ha hQ
  · exact xa_f h1 (xa_t h2 hQ)
theorem yw_thY {I : pI} {R : pR} {n k : Nat} {Q : Int32 → pI → pR → Prop} (hn : n ≤ 6) (h : I 121 69 = nI n) (hk : k < n) (hQ : Q 1 I R) : w_md_there (nI k) I R Q := by
  unfold w_md_there
  rw [h]
  exact xa_f (nI_pos (by omega)) (xa_f (fun e => by have := (nI_leI (by omega) (by omega)).mp e; omega) hQ)
theorem yw_thN {I : pI} {R : pR} {n : Nat} {a : Int32} {Q : Int32 → pI → pR → Prop} (h : I 121 69 = nI n) (ha : (a < 0) ∨ (¬ a < 0 ∧ nI n ≤ a)) (hQ : Q 0 I R) : w_md_there a I R Q := by
  unfold w_md_there
  rw [h]
  rcases ha with ha | ⟨h1, h2⟩
  · exact xa_t ha hQ
  · exact xa_f h1 (xa_t h2 hQ)
section
variable {I : pI} {R : pR}
theorem yI_status (h : yI I R) (a : Int32) : ∃ v, (∀ Q, Q v I R → w_sr_status a I R Q) ∧ (∀ Q, Q v I R → w_md_status a I R Q) := by
  obtain ⟨L, x, q, q', o, ok, a1, a2, a3, a4, a5, a6, a7, a8, a9, a10, a11, a12, n, L', tx, b1, b2, b3, b4, b5, b6⟩ := h
  rcases yi_or n a b1 with ⟨k, hk, rfl⟩ | ha
  · obtain ⟨r, r1, r2, r3⟩ := b6 k hk
    have hin : vp_in (nI k) 6 := vp_in_nI (by omega) (by omega)
    refine ⟨I 163 k, fun Q hQ => ?_, fun Q hQ => ?_⟩
    · unfold w_sr_status
      refine yw_itY b1 b3 hk (xa_f (by decide) ⟨hin, 6 + 8 * k, by rw [nI_clamp (by omega)]; exact a11 k (by omega), xv_oc_sh (yx_oc (by omega)), ?_⟩)
      have e : I (6 + 8 * k) 3 = I 163 k := by
        have c1 := r1.2.2.1; have c2 := r2.2.2.1
        cases hr : r.2.2.1 with
        | none => rw [hr] at c1 c2; rw [c1.1, c2.1]
        | some f => rw [hr] at c1 c2; rw [c1.1, c2.1]
      rw [e]; exact hQ
    · unfold w_md_status
      refine yw_thY b1 b4 hk (xa_f (by decide) ⟨hin, ?_⟩)
      rw [nI_clamp (by omega)]; exact hQ
  · exact ⟨-1, fun Q hQ => by unfold w_sr_status; exact yw_itN b3 ha (xa_t rfl hQ), fun Q hQ => by unfold w_md_status; exact yw_thN b4 ha (xa_t rfl hQ)⟩
theorem yI_failedAt (h : yI I R) (a : Int32) : ∃ v, (∀ Q, Q v I R → w_sr_failedAt a I R Q) ∧ (∀ Q, Q v I R → w_md_failedAt a I R Q) := by
  obtain ⟨L, x, q, q', o, ok, a1, a2, a3, a4, a5, a6, a7, a8, a9, a10, a11, a12, n, L', tx, b1, b2, b3, b4, b5, b6⟩ := h
  rcases yi_or n a b1 with ⟨k, hk, rfl⟩ | ha
  · obtain ⟨r, r1, r2, r3⟩ := b6 k hk
    have hin : vp_in (nI k) 6 := vp_in_nI (by omega) (by omega)
    refine ⟨I 164 k, fun Q hQ => ?_, fun Q hQ => ?_⟩
    · unfold w_sr_failedAt
      refine yw_itY b1 b3 hk (xa_f (by decide) ⟨hin, 6 + 8 * k, by rw [nI_clamp (by omega)]; exact a11 k (by omega), xv_oc_sh (yx_oc (by omega)), ?_⟩)
      have e : I (6 + 8 * k) 4 = I 164 k := by
        have c1 := r1.2.2.1; have c2 := r2.2.2.1
        cases hr : r.2.2.1 with
        | none => rw [hr] at c1 c2; rw [c1.2, c2.2]
        | some f => rw [hr] at c1 c2; rw [c1.2.1, c2.2.1]
      rw [e]; exact hQ
    · unfold w_md_failedAt
      refine yw_thY b1 b4 hk (xa_f (by decide) ⟨hin, ?_⟩)
      rw [nI_clamp (by omega)]; exact hQ
  · exact ⟨-1, fun Q hQ => by unfold w_sr_failedAt; exact yw_itN b3 ha (xa_t rfl hQ), fun Q hQ => by unfold w_md_failedAt; exact yw_thN b4 ha (xa_t rfl hQ)⟩
theorem yI_second (h : yI I R) (a : Int32) : ∃ v, (∀ Q, Q v I R → w_sr_second a I R Q) ∧ (∀ Q, Q v I R → w_md_second a I R Q) := by
  obtain ⟨L, x, q, q', o, ok, a1, a2, a3, a4, a5, a6, a7, a8, a9, a10, a11, a12, n, L', tx, b1, b2, b3, b4, b5, b6⟩ := h
  rcases yi_or n a b1 with ⟨k, hk, rfl⟩ | ha
  · obtain ⟨r, r1, r2, r3⟩ := b6 k hk
    have hin : vp_in (nI k) 6 := vp_in_nI (by omega) (by omega)
    have c1 := r1.2.2.2.1; have c2 := r2.2.2.2.1
    refine ⟨if r.2.2.2.1 then 1 else 0, fun Q hQ => ?_, fun Q hQ => ?_⟩
    · unfold w_sr_second
      refine yw_itY b1 b3 hk (xa_f (by decide) ⟨hin, 6 + 8 * k, by rw [nI_clamp (by omega)]; exact a11 k (by omega), xv_oc_sh (yx_oc (by omega)), ?_⟩)
      rw [c1]
      cases hr : r.2.2.2.1 with
      | false => rw [hr] at hQ; exact xa_t rfl hQ
      | true => rw [hr] at hQ; exact xa_f (by decide) hQ
    · unfold w_md_second
      refine yw_thY b1 b4 hk (xa_f (by decide) ⟨hin, ?_⟩)
      rw [nI_clamp (by omega), c2]
      cases hr : r.2.2.2.1 with
      | false => rw [hr] at hQ; exact xa_t rfl hQ
      | true => rw [hr] at hQ; exact xa_f (by decide) hQ
  · exact ⟨0, fun Q hQ => by unfold w_sr_second; exact yw_itN b3 ha (xa_t rfl hQ), fun Q hQ => by unfold w_md_second; exact yw_thN b4 ha (xa_t rfl hQ)⟩
theorem yI_variable (h : yI I R) (a c : Int32) : ∃ v, (∀ Q, Q v I R → w_sr_variable a c I R Q) ∧ (∀ Q, Q v I R → w_md_variable a c I R Q) := by
  obtain ⟨L, x, q, q', o, ok, a1, a2, a3, a4, a5, a6, a7, a8, a9, a10, a11, a12, n, L', tx, b1, b2, b3, b4, b5, b6⟩ := h
  rcases yi_or n a b1 with ⟨k, hk, rfl⟩ | ha
  · obtain ⟨r, r1, r2, r3⟩ := b6 k hk
    have hin : vp_in (nI k) 6 := vp_in_nI (by omega) (by omega)
    have hc : ∀ {v : Int32} {Q : Int32 → pI → pR → Prop}, w_sr_pick (6 + 8 * k + 1) 26 c I R Q → w_sr_variable (nI k) c I R Q := fun hp => by
      unfold w_sr_variable
      exact yw_itY b1 b3 hk (xa_f (by decide) ⟨hin, 6 + 8 * k, by rw [nI_clamp (by omega)]; exact a11 k (by omega), xv_oc_sh (yx_oc (by omega)), hp⟩)
    by_cases h0 : c < 0
    · exact ⟨0, fun Q hQ => hc (v := 0) (by unfold w_sr_pick; exact xa_t h0 hQ), fun Q hQ => by unfold w_md_variable; exact yw_thY b1 b4 hk (xa_f (by decide) (xa_t h0 hQ))⟩
    · obtain ⟨m, hm, rfl⟩ := yi_nn h0
      by_cases h26 : m < 26
      · refine ⟨r.1 m, fun Q hQ => hc (v := 0) ?_, fun Q hQ => ?_⟩
        · rw [xq_pick h26 (by omega), r1.1 m h26]; exact hQ
        · unfold w_md_variable
          refine yw_thY b1 b4 hk (xa_f (by decide) (xa_f h0 (xa_f (fun e => by have := (xa_lle 26 (by omega) (by omega)).mp e; omega) ?_)))
          rw [show (26 : Int32) * nI k = nI (26 * k) from pk_mul _ _, nI_add, nI_clamp (by omega), r2.1 m h26]
          exact ⟨vp_in_nI (by omega) (by omega), hQ⟩
      · have h26' : (26 : Int32) ≤ nI m := (xa_lle 26 (by omega) (by omega)).mpr (by omega)
        exact ⟨0, fun Q hQ => hc (v := 0) (by unfold w_sr_pick; exact xa_f h0 (xa_t h26' hQ)), fun Q hQ => by unfold w_md_variable; exact yw_thY b1 b4 hk (xa_f (by decide) (xa_f h0 (xa_t h26' hQ)))⟩
  · exact ⟨0, fun Q hQ => by unfold w_sr_variable; exact yw_itN b3 ha (xa_t rfl hQ), fun Q hQ => by unfold w_md_variable; exact yw_thN b4 ha (xa_t rfl hQ)⟩
theorem yI_calls (h : yI I R) (a c : Int32) : ∃ v, (∀ Q, Q v I R → w_sr_calls a c I R Q) ∧ (∀ Q, Q v I R → w_md_calls a c I R Q) := by
  obtain ⟨L, x, q, q', o, ok, a1, a2, a3, a4, a5, a6, a7, a8, a9, a10, a11, a12, n, L', tx, b1, b2, b3, b4, b5, b6⟩ := h
  rcases yi_or n a b1 with ⟨k, hk, rfl⟩ | ha
  · obtain ⟨r, r1, r2, r3⟩ := b6 k hk
    have hin : vp_in (nI k) 6 := vp_in_nI (by omega) (by omega)
    have hc : ∀ {v : Int32} {Q : Int32 → pI → pR → Prop}, w_sr_pick (6 + 8 * k + 2) 2 c I R Q → w_sr_calls (nI k) c I R Q := fun hp => by
      unfold w_sr_calls
      exact yw_itY b1 b3 hk (xa_f (by decide) ⟨hin, 6 + 8 * k, by rw [nI_clamp (by omega)]; exact a11 k (by omega), xv_oc_sh (yx_oc (by omega)), hp⟩)
    have hval : ∀ m, m < 2 → I (6 + 8 * k + 2) m = r.2.1 m ∧ I 167 (2 * k + m) = r.2.1 m := fun m hm => by
      rcases (show m = 0 ∨ m = 1 by omega) with rfl | rfl
      · exact ⟨r1.2.1.1, r2.2.1.1⟩
      · exact ⟨r1.2.1.2, r2.2.1.2⟩
    by_cases h0 : c < 0
    · refine ⟨0, fun Q hQ => hc (v := 0) (by unfold w_sr_pick; exact xa_t h0 hQ), fun Q hQ => ?_⟩
      unfold w_md_calls
      exact yw_thY b1 b4 hk (xa_f (by decide) (xa_f (fun e => by rw [e] at h0; exact absurd h0 (by decide)) (xa_f' (fun e => by rw [e] at h0; exact absurd h0 (by decide)) hQ)))
    · obtain ⟨m, hm, rfl⟩ := yi_nn h0
      by_cases h2 : m < 2
      · obtain ⟨v1, v2⟩ := hval m h2
        have hrd : ∀ Q : Int32 → pI → pR → Prop, Q (r.2.1 m) I R → vp_in (((2 : Int32) * nI k) + nI m) 12 ∧ Q (I 167 (((2 : Int32) * nI k) + nI m).toNatClampNeg) I R := fun Q hQ => by
          rw [show (2 : Int32) * nI k = nI (2 * k) from pk_mul _ _, nI_add, nI_clamp (by omega), v2]
          exact ⟨vp_in_nI (by omega) (by omega), hQ⟩
        refine ⟨r.2.1 m, fun Q hQ => hc (v := 0) ?_, fun Q hQ => ?_⟩
        · rw [xq_pick h2 (by omega), v1]; exact hQ
        · unfold w_md_calls
          refine yw_thY b1 b4 hk (xa_f (by decide) ?_)
          by_cases hm0 : m = 0
          · exact xa_t (xa_e 0 hm0) (hrd Q hQ)
          · exact xa_f (xa_ne 0 (by omega)) (xa_t' (xa_e 1 (by omega)) (hrd Q hQ))
      · have h2' : (2 : Int32) ≤ nI m := (xa_lle 2 (by omega) (by omega)).mpr (by omega)
        refine ⟨0, fun Q hQ => hc (v := 0) (by unfold w_sr_pick; exact xa_f h0 (xa_t h2' hQ)), fun Q hQ => ?_⟩
        unfold w_md_calls
        exact yw_thY b1 b4 hk (xa_f (by decide) (xa_f (xa_ne 0 (by omega)) (xa_f' (xa_ne 1 (by omega)) hQ)))
  · exact ⟨0, fun Q hQ => by unfold w_sr_calls; exact yw_itN b3 ha (xa_t rfl hQ), fun Q hQ => by unfold w_md_calls; exact yw_thN b4 ha (xa_t rfl hQ)⟩
/-- the values of a drawing -/
def yd_ls (dr : Option (Nat × Nat × List (Nat × Int32))) : List (Nat × Int32) := match dr with
  | none => []
  | some d => xd_lf d.1 d.2.2 (d.2.1 - d.1) 0
theorem yd_ls_b {L : Nat} {dr : Option (Nat × Nat × List (Nat × Int32))} (ok : yd_OK L dr) (hL : L ≤ 120) : (yd_ls dr).length ≤ 120 ∧ ∀ e, e ∈ yd_ls dr → e.1 < 120 := by
  cases dr with
  | none => exact ⟨Nat.zero_le _, fun e he => by cases he⟩
  | some d =>
    have o := ok d rfl
    have b := xd_lf_b d.1 d.2.2 (d.2.1 - d.1) 0
    exact ⟨by show (xd_lf _ _ _ _).length ≤ 120; omega, fun e he => by have := b.2 e he; omega⟩
theorem yd_lsC {k L : Nat} {tx : Nat → Nat} {r : xg_R} (h : xv_OR I (6 + 8 * k) tx r) : xd_LM I (6 + 8 * k + 3) (yd_ls r.2.2.2.2) := by
  have e := h.2.2.2.2
  cases hr : r.2.2.2.2 with
  | none => rw [hr] at e; exact ⟨e.1, fun i u hi => by simp [yd_ls] at hi⟩
  | some d => rw [hr] at e; exact e.2.2.1
theorem yI_values (h : yI I R) (a : Int32) : ∃ v, (∀ Q, Q v I R → w_sr_values a I R Q) ∧ (∀ Q, Q v I R → w_md_values a I R Q) := by
  obtain ⟨L, x, q, q', o, ok, a1, a2, a3, a4, a5, a6, a7, a8, a9, a10, a11, a12, n, L', tx, b1, b2, b3, b4, b5, b6⟩ := h
  rcases yi_or n a b1 with ⟨k, hk, rfl⟩ | ha
  · obtain ⟨r, r1, r2, r3⟩ := b6 k hk
    have hin : vp_in (nI k) 6 := vp_in_nI (by omega) (by omega)
    have lm := yd_lsC (L := L') r1
    have lb := yd_ls_b r3 b2
    refine ⟨nI (yd_ls r.2.2.2.2).length, fun Q hQ => ?_, fun Q hQ => ?_⟩
    · unfold w_sr_values
      refine yw_itY b1 b3 hk (xa_f (by decide) ⟨hin, 6 + 8 * k, by rw [nI_clamp (by omega)]; exact a11 k (by omega), xv_oc_sh (yx_oc (by omega)), ?_⟩)
      rw [lm.1]; exact hQ
    · unfold w_md_values
      refine yw_thY b1 b4 hk (xa_f (by decide) ⟨hin, ?_⟩)
      rw [nI_clamp (by omega)]
      have e := r2.2.2.2.2
      cases hr : r.2.2.2.2 with
      | none =>
        rw [hr] at e hQ
        rw [show I 168 k = -1 from e]
        exact xa_t (by decide) hQ
      | some d =>
        rw [hr] at e hQ lb
        rw [e.1]
        by_cases h0 : (xd_lf d.1 d.2.2 (d.2.1 - d.1) 0).length = 0
        · refine xa_t ((xa_lel 0 (by have := lb.1; omega) (by omega)).mpr (by omega)) ?_
          have : nI (yd_ls (some d)).length = 0 := by show nI (xd_lf d.1 d.2.2 (d.2.1 - d.1) 0).length = 0; rw [h0]; rfl
          rw [this] at hQ; exact hQ
        · have lb1 : (xd_lf d.1 d.2.2 (d.2.1 - d.1) 0).length ≤ 120 := lb.1
          exact xa_f (fun e => by have := (xa_lel 0 (by omega) (by omega)).mp e; omega) ⟨hin, hQ⟩
  · exact ⟨0, fun Q hQ => by unfold w_sr_values; exact yw_itN b3 ha (xa_t rfl hQ), fun Q hQ => by unfold w_md_values; exact yw_thN b4 ha (xa_t rfl hQ)⟩
/-- the reference's count, with what stands there -/
theorem yw_vals {n k L' : Nat} {tx : Nat → Nat} {r : xg_R} {Q : Int32 → pI → pR → Prop} (b1 : n ≤ 6) (b2 : L' ≤ 120) (b4 : I 121 69 = nI n) (hk : k < n) (r2 : yv_OR I k r) (r3 : yd_OK L' r.2.2.2.2) (hQ : Q (nI (yd_ls r.2.2.2.2).length) I R) : w_md_values (nI k) I R Q := by
  have hin : vp_in (nI k) 6 := vp_in_nI (by omega) (by omega)
  have lb := yd_ls_b r3 b2
  unfold w_md_values
  refine yw_thY b1 b4 hk (xa_f (by decide) ⟨hin, ?_⟩)
  rw [nI_clamp (by omega)]
  have e := r2.2.2.2.2
  cases hr : r.2.2.2.2 with
  | none =>
    rw [hr] at e hQ
    rw [show I 168 k = -1 from e]
    exact xa_t (by decide) hQ
  | some d =>
    rw [hr] at e hQ lb
    rw [e.1]
    have lb1 : (xd_lf d.1 d.2.2 (d.2.1 - d.1) 0).length ≤ 120 := lb.1
    by_cases h0 : (xd_lf d.1 d.2.2 (d.2.1 - d.1) 0).length = 0
    · refine xa_t ((xa_lel 0 (by omega) (by omega)).mpr (by omega)) ?_
      have : nI (yd_ls (some d)).length = 0 := by show nI (xd_lf d.1 d.2.2 (d.2.1 - d.1) 0).length = 0; rw [h0]; rfl
      rw [this] at hQ; exact hQ
    · exact xa_f (fun e => by have := (xa_lel 0 (by omega) (by omega)).mp e; omega) ⟨hin, hQ⟩
theorem yw_valsN {n : Nat} {a : Int32} {Q : Int32 → pI → pR → Prop} (b4 : I 121 69 = nI n) (ha : (a < 0) ∨ (¬ a < 0 ∧ nI n ≤ a)) (hQ : Q 0 I R) : w_md_values a I R Q := by
  unfold w_md_values
  exact yw_thN b4 ha (xa_t rfl hQ)
theorem yd_lsR {k : Nat} {r : xg_R} (h : yv_OR I k r) : ∀ i e, (yd_ls r.2.2.2.2)[i]? = some e → I 169 (120 * k + i) = nI e.1 ∧ I 170 (120 * k + i) = e.2 := by
  intro i e hi
  have c := h.2.2.2.2
  cases hr : r.2.2.2.2 with
  | none => rw [hr] at hi; simp [yd_ls] at hi
  | some d => rw [hr] at c hi; exact c.2.2.2 i e hi
theorem yI_column (h : yI I R) (a c : Int32) : ∃ v, (∀ Q, Q v I R → w_sr_column a c I R Q) ∧ (∀ Q, Q v I R → w_md_column a c I R Q) := by
  obtain ⟨L, x, q, q', o, ok, a1, a2, a3, a4, a5, a6, a7, a8, a9, a10, a11, a12, n, L', tx, b1, b2, b3, b4, b5, b6⟩ := h
  rcases yi_or n a b1 with ⟨k, hk, rfl⟩ | ha
  · obtain ⟨r, r1, r2, r3⟩ := b6 k hk
    have hin : vp_in (nI k) 6 := vp_in_nI (by omega) (by omega)
    have lm := yd_lsC (L := L') r1
    have lr := yd_lsR r2
    have lb := yd_ls_b r3 b2
    have hc : ∀ {Q : Int32 → pI → pR → Prop}, w_dr_columnOf (6 + 8 * k + 3) c I R Q → w_sr_column (nI k) c I R Q := fun hp => by
      unfold w_sr_column
      exact yw_itY b1 b3 hk (xa_f (by decide) ⟨hin, 6 + 8 * k, by rw [nI_clamp (by omega)]; exact a11 k (by omega), xv_oc_sh (yx_oc (by omega)), hp⟩)
    by_cases h0 : c < 0
    · exact ⟨-1, fun Q hQ => hc (by unfold w_dr_columnOf; exact xa_t h0 hQ), fun Q hQ => by unfold w_md_column; exact xa_t h0 hQ⟩
    · obtain ⟨m, hm, rfl⟩ := yi_nn h0
      by_cases hml : m < (yd_ls r.2.2.2.2).length
      · have hg : (yd_ls r.2.2.2.2)[m]? = some (yd_ls r.2.2.2.2)[m] := List.getElem?_eq_getElem hml
        have v1 := (lm.2 m _ hg).1
        have v2 := (lr m _ hg).1
        refine ⟨nI (yd_ls r.2.2.2.2)[m].1, fun Q hQ => hc ?_, fun Q hQ => ?_⟩
        · unfold w_dr_columnOf
          rw [lm.1, nI_clamp hm, v1]
          exact xa_f h0 (xa_f (fun e => by have := (nI_leI (by omega) hm).mp e; omega) (xa_f (fun e => by have := (xa_lle 120 hm (by omega)).mp e; omega) ⟨vp_in_nI (by omega) (by omega), hQ⟩))
        · unfold w_md_column
          refine xa_f h0 (yw_vals (tx := tx) b1 b2 b4 hk r2 r3 (xa_f (fun e => by have := (nI_leI (by omega) hm).mp e; omega) ?_))
          rw [show (120 : Int32) * nI k = nI (120 * k) from pk_mul _ _, nI_add, nI_clamp (by omega), v2]
          exact ⟨vp_in_nI (by omega) (by omega), hQ⟩
      · have hle : nI (yd_ls r.2.2.2.2).length ≤ nI m := (nI_leI (by omega) hm).mpr (by omega)
        refine ⟨-1, fun Q hQ => hc ?_, fun Q hQ => ?_⟩
        · unfold w_dr_columnOf
          rw [lm.1]
          exact xa_f h0 (xa_t hle hQ)
        · unfold w_md_column
          exact xa_f h0 (yw_vals (tx := tx) b1 b2 b4 hk r2 r3 (xa_t hle hQ))
  · refine ⟨-1, fun Q hQ => by unfold w_sr_column; exact yw_itN b3 ha (xa_t rfl hQ), fun Q hQ => ?_⟩
    unfold w_md_column
    by_cases h0 : c < 0
    · exact xa_t h0 hQ
    · exact xa_f h0 (yw_valsN b4 ha (xa_t (Int32.not_lt.mp h0) hQ))
theorem yI_value (h : yI I R) (a c : Int32) : ∃ v, (∀ Q, Q v I R → w_sr_value a c I R Q) ∧ (∀ Q, Q v I R → w_md_value a c I R Q) := by
  obtain ⟨L, x, q, q', o, ok, a1, a2, a3, a4, a5, a6, a7, a8, a9, a10, a11, a12, n, L', tx, b1, b2, b3, b4, b5, b6⟩ := h
  rcases yi_or n a b1 with ⟨k, hk, rfl⟩ | ha
  · obtain ⟨r, r1, r2, r3⟩ := b6 k hk
    have hin : vp_in (nI k) 6 := vp_in_nI (by omega) (by omega)
    have lm := yd_lsC (L := L') r1
    have lr := yd_lsR r2
    have lb := yd_ls_b r3 b2
    have hc : ∀ {Q : Int32 → pI → pR → Prop}, w_dr_valueOf (6 + 8 * k + 3) c I R Q → w_sr_value (nI k) c I R Q := fun hp => by
      unfold w_sr_value
      exact yw_itY b1 b3 hk (xa_f (by decide) ⟨hin, 6 + 8 * k, by rw [nI_clamp (by omega)]; exact a11 k (by omega), xv_oc_sh (yx_oc (by omega)), hp⟩)
    by_cases h0 : c < 0
    · exact ⟨0, fun Q hQ => hc (by unfold w_dr_valueOf; exact xa_t h0 hQ), fun Q hQ => by unfold w_md_value; exact xa_t h0 hQ⟩
    · obtain ⟨m, hm, rfl⟩ := yi_nn h0
      by_cases hml : m < (yd_ls r.2.2.2.2).length
      · have hg : (yd_ls r.2.2.2.2)[m]? = some (yd_ls r.2.2.2.2)[m] := List.getElem?_eq_getElem hml
        have v1 := (lm.2 m _ hg).2
        have v2 := (lr m _ hg).2
        refine ⟨(yd_ls r.2.2.2.2)[m].2, fun Q hQ => hc ?_, fun Q hQ => ?_⟩
        · unfold w_dr_valueOf
          rw [lm.1, nI_clamp hm, v1]
          exact xa_f h0 (xa_f (fun e => by have := (nI_leI (by omega) hm).mp e; omega) (xa_f (fun e => by have := (xa_lle 120 hm (by omega)).mp e; omega) ⟨vp_in_nI (by omega) (by omega), hQ⟩))
        · unfold w_md_value
          refine xa_f h0 (yw_vals (tx := tx) b1 b2 b4 hk r2 r3 (xa_f (fun e => by have := (nI_leI (by omega) hm).mp e; omega) ?_))
          rw [show (120 : Int32) * nI k = nI (120 * k) from pk_mul _ _, nI_add, nI_clamp (by omega), v2]
          exact ⟨vp_in_nI (by omega) (by omega), hQ⟩
      · have hle : nI (yd_ls r.2.2.2.2).length ≤ nI m := (nI_leI (by omega) hm).mpr (by omega)
        refine ⟨0, fun Q hQ => hc ?_, fun Q hQ => ?_⟩
        · unfold w_dr_valueOf
          rw [lm.1]
          exact xa_f h0 (xa_t hle hQ)
        · unfold w_md_value
          exact xa_f h0 (yw_vals (tx := tx) b1 b2 b4 hk r2 r3 (xa_t hle hQ))
  · refine ⟨0, fun Q hQ => by unfold w_sr_value; exact yw_itN b3 ha (xa_t rfl hQ), fun Q hQ => ?_⟩
    unfold w_md_value
    by_cases h0 : c < 0
    · exact xa_t h0 hQ
    · exact xa_f h0 (yw_valsN b4 ha (xa_t (Int32.not_lt.mp h0) hQ))
theorem yI_sc {I' : pI} (h : yI I R) (f : ∀ p k, p ≠ 173 → p ≠ 174 → I' p k = I p k) : yI I' R := by
  obtain ⟨L, x, q, q', o, ok, a1, a2, a3, a4, a5, a6, a7, a8, a9, a10, a11, a12, a13⟩ := h
  refine ⟨L, x, q, q', o, ok, (f _ _ (by omega) (by omega)).trans a1, fun i hi => (f _ _ (by omega) (by omega)).trans (a2 i hi), (f _ _ (by omega) (by omega)).trans a3, fun i hi => (f _ _ (by omega) (by omega)).trans (a4 i hi), by rw [f _ _ (by omega) (by omega), f _ _ (by omega) (by omega)]; exact a5, a6, (f _ _ (by omega) (by omega)).trans a7, a8, a9, a10, a11, yI_F_fr (by omega) a12 (f _ _ (by omega) (by omega)) (f _ _ (by omega) (by omega)) (f _ _ (by omega) (by omega)) (fun p k h1 h2 => f _ _ (by omega) (by omega)) (fun p k hp => f _ _ (by omega) (by omega)), yI_O_fr a13 (f _ _ (by omega) (by omega)) (f _ _ (by omega) (by omega)) (fun p k hp => f _ _ (by omega) (by omega))⟩
/-- how high a drawing is -/
def yd_hi (dr : Option (Nat × Nat × List (Nat × Int32))) : Nat := match dr with
  | none => 0
  | some _ => xd_h (xd_lay (yd_ls dr))
theorem yd_hi_b {L : Nat} {dr : Option (Nat × Nat × List (Nat × Int32))} (ok : yd_OK L dr) (hL : L ≤ 120) : yd_hi dr < 1000 := by
  cases dr with
  | none => show 0 < 1000; omega
  | some d =>
    have b := (yd_ls_b ok hL).1
    have := (xd_h_b (xd_lay (yd_ls (some d)))).2.2 200 (by omega) (fun e he => by have := (xd_lay_b (yd_ls (some d)) e he).2; omega)
    show xd_h (xd_lay (yd_ls (some d))) < 1000
    omega
theorem yd_hiC {k : Nat} {tx : Nat → Nat} {r : xg_R} (h : xv_OR I (6 + 8 * k) tx r) : I (6 + 8 * k + 3) 6 = nI (yd_hi r.2.2.2.2) := by
  have e := h.2.2.2.2
  cases hr : r.2.2.2.2 with
  | none => rw [hr] at e; exact e.2
  | some d => rw [hr] at e; exact e.2.2.2.1
/-- the reference's lines, with the drawing laid out -/
theorem yw_lines {n k L' : Nat} {r : xg_R} {Q : Int32 → pI → pR → Prop} (b1 : n ≤ 6) (b2 : L' ≤ 120) (b4 : I 121 69 = nI n) (hk : k < n) (r2 : yv_OR I k r) (r3 : yd_OK L' r.2.2.2.2) (hQ : ∀ I', (∀ p k, p ≠ 173 → p ≠ 174 → I' p k = I p k) → (r.2.2.2.2 ≠ none → ∀ i e, (xd_lay (yd_ls r.2.2.2.2))[i]? = some e → I' 173 i = nI e.2.2) → Q (nI (yd_hi r.2.2.2.2)) I' R) : w_md_lines (nI k) I R Q := by
  have hin : vp_in (nI k) 6 := vp_in_nI (by omega) (by omega)
  have lb := yd_ls_b r3 b2
  have lr := yd_lsR r2
  have e := r2.2.2.2.2
  unfold w_md_lines
  refine yw_thY b1 b4 hk (xa_f (by decide) ⟨hin, ?_⟩)
  rw [nI_clamp (by omega)]
  cases hr : r.2.2.2.2 with
  | none =>
    rw [hr] at e hQ
    rw [show I 168 k = -1 from e]
    exact xa_t (by decide) (hQ I (fun _ _ _ _ => rfl) (fun h => absurd rfl h))
  | some d =>
    rw [hr] at e hQ lb lr
    rw [e.1]
    have lb1 : (xd_lf d.1 d.2.2 (d.2.1 - d.1) 0).length ≤ 120 := lb.1
    refine xa_f (nI_pos (by omega)) (yd_layout (ls := yd_ls (some d)) (by omega) lb.1 lb.2 e.1 lr (fun I' h1 h2 => hQ I' h2 (fun _ => h1)))
theorem yw_linesN {n : Nat} {a : Int32} {Q : Int32 → pI → pR → Prop} (b4 : I 121 69 = nI n) (ha : (a < 0) ∨ (¬ a < 0 ∧ nI n ≤ a)) (hQ : Q 0 I R) : w_md_lines a I R Q := by
  unfold w_md_lines
  exact yw_thN b4 ha (xa_t rfl hQ)
theorem yI_lines (h : yI I R) (a : Int32) : ∃ v, (∀ Q, Q v I R → w_sr_lines a I R Q) ∧ (∀ Q : Int32 → pI → pR → Prop, (∀ I', yI I' R → Q v I' R) → w_md_lines a I R Q) := by
  have h' := h
  obtain ⟨L, x, q, q', o, ok, a1, a2, a3, a4, a5, a6, a7, a8, a9, a10, a11, a12, n, L', tx, b1, b2, b3, b4, b5, b6⟩ := h'
  rcases yi_or n a b1 with ⟨k, hk, rfl⟩ | ha
  · obtain ⟨r, r1, r2, r3⟩ := b6 k hk
    have hin : vp_in (nI k) 6 := vp_in_nI (by omega) (by omega)
    refine ⟨nI (yd_hi r.2.2.2.2), fun Q hQ => ?_, fun Q hQ => yw_lines b1 b2 b4 hk r2 r3 (fun I' f _ => hQ I' (yI_sc h f))⟩
    unfold w_sr_lines
    refine yw_itY b1 b3 hk (xa_f (by decide) ⟨hin, 6 + 8 * k, by rw [nI_clamp (by omega)]; exact a11 k (by omega), xv_oc_sh (yx_oc (by omega)), ?_⟩)
    rw [yd_hiC r1]; exact hQ
  · exact ⟨0, fun Q hQ => by unfold w_sr_lines; exact yw_itN b3 ha (xa_t rfl hQ), fun Q hQ => yw_linesN b4 ha (hQ I h)⟩
theorem yI_drawn (h : yI I R) (a b c : Int32) : ∃ v, (∀ Q, Q v I R → w_sr_drawn a b c I R Q) ∧ (∀ Q : Int32 → pI → pR → Prop, (∀ I', yI I' R → Q v I' R) → w_md_drawn a b c I R Q) := by
  have h' := h
  obtain ⟨L, x, q, q', o, ok, a1, a2, a3, a4, a5, a6, a7, a8, a9, a10, a11, a12, n, L', tx, b1, b2, b3, b4, b5, b6⟩ := h'
  rcases yi_or n a b1 with ⟨k, hk, rfl⟩ | ha
  · obtain ⟨r, r1, r2, r3⟩ := b6 k hk
    have hin : vp_in (nI k) 6 := vp_in_nI (by omega) (by omega)
    have hhb := yd_hi_b r3 b2
    have hC := yd_hiC r1
    have lb := yd_ls_b r3 b2
    have hc : ∀ {Q : Int32 → pI → pR → Prop}, w_dr_characterAt (6 + 8 * k + 3) b c I R Q → w_sr_drawn (nI k) b c I R Q := fun hp => by
      unfold w_sr_drawn
      exact yw_itY b1 b3 hk (xa_f (by decide) ⟨hin, 6 + 8 * k, by rw [nI_clamp (by omega)]; exact a11 k (by omega), xv_oc_sh (yx_oc (by omega)), hp⟩)
    by_cases h0 : b < 0
    · exact ⟨0, fun Q hQ => hc (by unfold w_dr_characterAt; exact xa_t h0 hQ), fun Q hQ => by unfold w_md_drawn; exact xa_t h0 (hQ I h)⟩
    · obtain ⟨l, hl, rfl⟩ := yi_nn h0
      by_cases hlh : l < yd_hi r.2.2.2.2
      · have nle : ¬ nI (yd_hi r.2.2.2.2) ≤ nI l := fun e => by have := (nI_leI (by omega) hl).mp e; omega
        by_cases hc0 : 0 ≤ c
        · obtain ⟨m, hm, rfl⟩ := yi_nn (a := c) (fun e => absurd hc0 (Int32.not_le.mpr e))
          -- there is a drawing
          cases hr : r.2.2.2.2 with
          | none => rw [hr] at hlh; exact absurd hlh (Nat.not_lt_zero _)
          | some d =>
            have od := r3 d hr
            have e1 := r1.2.2.2.2
            have e2 := r2.2.2.2.2
            rw [hr] at e1 e2
            by_cases hl0 : l = 0
            · -- the text
              have z : nI l = 0 := by rw [hl0]; rfl
              by_cases hmw : m < d.2.1 - d.1
              · refine ⟨nI (tx (d.1 + m)), fun Q hQ => hc ?_, fun Q hQ => ?_⟩
                · unfold w_dr_characterAt
                  rw [hC, e1.1, nI_clamp hm, e1.2.1 m hmw]
                  exact xa_f h0 (xa_f nle (xa_t hc0 (xa_t' z (xa_f (fun e => by have := (nI_leI (by omega) hm).mp e; omega) (xa_f (fun e => by have := (xa_lle 120 hm (by omega)).mp e; omega) ⟨vp_in_nI (by omega) (by omega), hQ⟩)))))
                · unfold w_md_drawn
                  refine xa_f h0 (yw_lines b1 b2 b4 hk r2 r3 (fun I' f _ => xa_f nle (xa_t hc0 (xa_t' z ⟨hin, hin, ?_⟩))))
                  rw [nI_clamp (by omega), f _ _ (by omega) (by omega), f _ _ (by omega) (by omega), e2.2.1, e2.2.2.1, pk_sub (by omega), nI_add, nI_clamp (by omega), f _ _ (by omega) (by omega), b5 _ (by omega)]
                  exact xa_f (fun e => by have := (nI_leI (by omega) hm).mp e; omega) ⟨hin, vp_in_nI (by omega) (by omega), hQ I' (yI_sc h f)⟩
              · have hle : nI (d.2.1 - d.1) ≤ nI m := (nI_leI (by omega) hm).mpr (by omega)
                refine ⟨32, fun Q hQ => hc ?_, fun Q hQ => ?_⟩
                · unfold w_dr_characterAt
                  rw [hC, e1.1]
                  exact xa_f h0 (xa_f nle (xa_t hc0 (xa_t' z (xa_t hle hQ))))
                · unfold w_md_drawn
                  refine xa_f h0 (yw_lines b1 b2 b4 hk r2 r3 (fun I' f _ => xa_f nle (xa_t hc0 (xa_t' z ⟨hin, hin, ?_⟩))))
                  rw [nI_clamp (by omega), f _ _ (by omega) (by omega), f _ _ (by omega) (by omega), e2.2.1, e2.2.2.1, pk_sub (by omega)]
                  exact xa_t hle (hQ I' (yI_sc h f))
            · -- below it
              have nz : ¬ nI l = 0 := xa_ne 0 (by omega)
              refine ⟨yd_chr l m (xd_lay (yd_ls r.2.2.2.2)), fun Q hQ => hc ?_, fun Q hQ => ?_⟩
              · unfold w_dr_characterAt
                rw [hC]
                refine xa_f h0 (xa_f nle (xa_t hc0 (xa_f' nz ⟨(yd_ls r.2.2.2.2).length + 1, ?_⟩)))
                refine yd_chrC hl hm lb.1 lb.2 (yd_lsC (L := L') r1) (fun i e hi => ?_) (fun hh => hh) (yd_ls r.2.2.2.2).length 0 (by omega) (by rw [List.drop_zero]; exact hQ)
                rw [hr] at hi
                exact e1.2.2.2.2 i e hi
              · unfold w_md_drawn
                refine xa_f h0 (yw_lines b1 b2 b4 hk r2 r3 (fun I' f h173 => xa_f nle (xa_t hc0 (xa_f' nz ⟨(yd_ls r.2.2.2.2).length + 1, ?_⟩))))
                refine yd_chrR (ls := yd_ls r.2.2.2.2) (by omega) hl hm lb.1 lb.2 ?_ (fun i e hi => ?_) (h173 (by rw [hr]; simp)) (fun hh => hh) (yd_ls r.2.2.2.2).length 0 (by omega) (by rw [List.drop_zero]; exact hQ I' (yI_sc h f))
                · rw [f _ _ (by omega) (by omega), hr]; exact e2.1
                · rw [f _ _ (by omega) (by omega), f _ _ (by omega) (by omega)]; exact yd_lsR r2 i e hi
        · refine ⟨0, fun Q hQ => hc ?_, fun Q hQ => ?_⟩
          · unfold w_dr_characterAt
            rw [hC]
            exact xa_f h0 (xa_f nle (xa_f hc0 hQ))
          · unfold w_md_drawn
            exact xa_f h0 (yw_lines b1 b2 b4 hk r2 r3 (fun I' f _ => xa_f nle (xa_f hc0 (hQ I' (yI_sc h f)))))
      · have hle : nI (yd_hi r.2.2.2.2) ≤ nI l := (nI_leI (by omega) hl).mpr (by omega)
        refine ⟨0, fun Q hQ => hc ?_, fun Q hQ => ?_⟩
        · unfold w_dr_characterAt
          rw [hC]
          exact xa_f h0 (xa_t hle hQ)
        · unfold w_md_drawn
          exact xa_f h0 (yw_lines b1 b2 b4 hk r2 r3 (fun I' f _ => xa_t hle (hQ I' (yI_sc h f))))
  · refine ⟨0, fun Q hQ => by unfold w_sr_drawn; exact yw_itN b3 ha (xa_t rfl hQ), fun Q hQ => ?_⟩
    unfold w_md_drawn
    by_cases h0 : b < 0
    · exact xa_t h0 (hQ I h)
    · exact xa_f h0 (yw_linesN b4 ha (xa_t (Int32.not_lt.mp h0) (hQ I h)))
theorem yI_it (h : yI I R) : I 0 10 = I 121 69 ∧ I 0 9 = I 121 56 := by
  obtain ⟨L, x, q, q', o, ok, a1, a2, a3, a4, a5, a6, a7, a8, a9, a10, a11, a12, n, L', tx, b1, b2, b3, b4, b5, b6⟩ := h
  exact ⟨b3.trans b4.symm, a5⟩
end
