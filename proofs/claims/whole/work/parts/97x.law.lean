/-! THE LAW -/
theorem yl_sub4 {Ls i : Nat} (hL : Ls ≤ 2048) (hi : i < 4000) : (Int32.ofNat Ls - (4 : Int32) < nI i) ↔ Ls < i + 4 := by
  by_cases h : 4 ≤ Ls
  · rw [show Int32.ofNat Ls - (4 : Int32) = nI (Ls - 4) from pk_sub (a := Ls) (b := 4) h, nI_ltI (by omega) (by omega)]; omega
  · refine ⟨fun _ => by omega, fun _ => ?_⟩
    apply Int32.lt_iff_toInt_lt.mpr
    rw [xd_toInt (a := i) (by omega)]
    have : (Int32.ofNat Ls - (4 : Int32)).toInt < 0 := by
      rcases (show Ls = 0 ∨ Ls = 1 ∨ Ls = 2 ∨ Ls = 3 by omega) with rfl | rfl | rfl | rfl <;> decide
    omega
theorem yl_law {Ls : Nat} {xs : Nat → Int32} (hLs : Ls ≤ 2048) : ∀ m i I R, Ls < i + 4 * m + 4 → i ≤ 2100 → yI I R → l_lw_law_18 Ls xs (fun _ _ => True) (fun _ _ _ => True) (m + 1) (nI i) I R := by
  intro m; induction m with
  | zero =>
    intro i I R h1 h2 h
    unfold l_lw_law_18
    exact xa_t ((yl_sub4 hLs (by omega)).mpr (by omega)) trivial
  | succ m ih =>
    intro i I R h1 h2 h
    unfold l_lw_law_18
    by_cases hend : Ls < i + 4
    · exact xa_t ((yl_sub4 hLs (by omega)).mpr hend) trivial
    refine xa_f (fun e => hend ((yl_sub4 hLs (by omega)).mp e)) ?_
    have e1 : nI i + (1 : Int32) = nI (i + 1) := nI_1 i
    have e2 : nI i + (2 : Int32) = nI (i + 2) := nI_add i 2
    have e3 : nI i + (3 : Int32) = nI (i + 3) := nI_add i 3
    have e4 : nI i + (4 : Int32) = nI (i + 4) := nI_add i 4
    have p0 : vp_in (nI i) Ls := vp_in_nI (by omega) (by omega)
    have p1 : vp_in (nI i + (1 : Int32)) Ls := by rw [e1]; exact vp_in_nI (by omega) (by omega)
    have p2 : vp_in (nI i + (2 : Int32)) Ls := by rw [e2]; exact vp_in_nI (by omega) (by omega)
    have p3 : vp_in (nI i + (3 : Int32)) Ls := by rw [e3]; exact vp_in_nI (by omega) (by omega)
    have next : ∀ I' R', yI I' R' → l_lw_law_18 Ls xs (fun _ _ => True) (fun _ _ _ => True) (m + 1) (nI i + 4) I' R' := fun I' R' h' => by
      rw [e4]; exact ih (i + 4) I' R' (by omega) (by omega) h'
    refine ⟨p0, ?_⟩
    generalize xs (nI i).toNatClampNeg &&& (15 : Int32) = op
    generalize xs (nI i + (1 : Int32)).toNatClampNeg = w1
    generalize xs (nI i + (2 : Int32)).toNatClampNeg = w2
    generalize xs (nI i + (3 : Int32)).toNatClampNeg = w3
    by_cases c0 : op = 0
    · refine xa_t c0 ⟨p1, p2, p3, yI_type (P := fun v1 v2 I2 R2 => ((v1 = v2 → l_lw_law_18 Ls xs (fun _ _ => True) (fun _ _ _ => True) (m + 1) (nI i + 4) I2 R2) ∧ (¬ v1 = v2 → False))) h (fun v I1 R1 hh => ⟨p1, p2, p3, hh⟩) (fun v I' R' h' => xa_t rfl (next I' R' h'))⟩
    refine xa_f c0 ?_
    by_cases c1 : op = 1
    · refine xa_t c1 ?_
      unfold w_sr_clear w_md_clear
      exact xa_a (xa_a (next _ _ (yI_clear h)))
    refine xa_f c1 ?_
    by_cases c2 : op = 2
    · exact xa_t c2 (yI_judge (P := fun v1 v2 I2 R2 => ((v1 = v2 → l_lw_law_18 Ls xs (fun _ _ => True) (fun _ _ _ => True) (m + 1) (nI i + 4) I2 R2) ∧ (¬ v1 = v2 → False))) h (fun v I' R' h' => xa_t rfl (next I' R' h')))
    refine xa_f c2 ?_
    by_cases c3 : op = 3
    · refine xa_t c3 ?_
      unfold w_sr_place w_md_place
      exact xa_t (yI_it h).2 (next I R h)
    refine xa_f c3 ?_
    by_cases c4 : op = 4
    · exact xa_t c4 (yI_run (P := fun v1 v2 I2 R2 => ((v1 = v2 → l_lw_law_18 Ls xs (fun _ _ => True) (fun _ _ _ => True) (m + 1) (nI i + 4) I2 R2) ∧ (¬ v1 = v2 → False))) h (fun v I' R' h' => xa_t rfl (next I' R' h')))
    refine xa_f c4 ?_
    by_cases c5 : op = 5
    · refine xa_t c5 ?_
      unfold w_sr_iterations w_md_iterations
      exact xa_t (yI_it h).1 (next I R h)
    refine xa_f c5 ?_
    by_cases c6 : op = 6
    · obtain ⟨v, s1, s2⟩ := yI_status h w1
      exact xa_t c6 ⟨p1, s1 _ ⟨p1, s2 _ (xa_t rfl (next I R h))⟩⟩
    refine xa_f c6 ?_
    by_cases c7 : op = 7
    · obtain ⟨v, s1, s2⟩ := yI_failedAt h w1
      exact xa_t c7 ⟨p1, s1 _ ⟨p1, s2 _ (xa_t rfl (next I R h))⟩⟩
    refine xa_f c7 ?_
    by_cases c8 : op = 8
    · obtain ⟨v, s1, s2⟩ := yI_second h w1
      exact xa_t c8 ⟨p1, s1 _ ⟨p1, s2 _ (xa_t rfl (next I R h))⟩⟩
    refine xa_f c8 ?_
    by_cases c9 : op = 9
    · obtain ⟨v, s1, s2⟩ := yI_variable h w1 w2
      exact xa_t c9 ⟨p1, p2, s1 _ ⟨p1, p2, s2 _ (xa_t rfl (next I R h))⟩⟩
    refine xa_f c9 ?_
    by_cases c10 : op = 10
    · obtain ⟨v, s1, s2⟩ := yI_calls h w1 w2
      exact xa_t c10 ⟨p1, p2, s1 _ ⟨p1, p2, s2 _ (xa_t rfl (next I R h))⟩⟩
    refine xa_f c10 ?_
    by_cases c11 : op = 11
    · obtain ⟨v, s1, s2⟩ := yI_values h w1
      exact xa_t c11 ⟨p1, s1 _ ⟨p1, s2 _ (xa_t rfl (next I R h))⟩⟩
    refine xa_f c11 ?_
    by_cases c12 : op = 12
    · obtain ⟨v, s1, s2⟩ := yI_column h w1 w2
      exact xa_t c12 ⟨p1, p2, s1 _ ⟨p1, p2, s2 _ (xa_t rfl (next I R h))⟩⟩
    refine xa_f c12 ?_
    by_cases c13 : op = 13
    · obtain ⟨v, s1, s2⟩ := yI_value h w1 w2
      exact xa_t c13 ⟨p1, p2, s1 _ ⟨p1, p2, s2 _ (xa_t rfl (next I R h))⟩⟩
    refine xa_f c13 ?_
    by_cases c14 : op = 14
    · obtain ⟨v, s1, s2⟩ := yI_lines h w1
      exact xa_t c14 ⟨p1, s1 _ ⟨p1, s2 _ (fun I' h' => xa_t rfl (next I' R h'))⟩⟩
    refine xa_f c14 ?_
    by_cases c15 : op = 15
    · obtain ⟨v, s1, s2⟩ := yI_drawn h w1 w2 w3
      exact xa_t c15 ⟨p1, p2, p3, s1 _ ⟨p1, p2, p3, s2 _ (fun I' h' => xa_t rfl (next I' R h'))⟩⟩
    exact xa_f c15 (next I R h)
set_option maxRecDepth 100000 in
theorem yl_start : yI st_I st_R := by
  refine ⟨0, fun _ => 0, 81, 54, 0, ⟨by omega, fun i hi => by omega⟩, ?_, fun i hi => by omega, ?_, fun i hi => by omega, ?_, by omega, ?_, Or.inr ⟨rfl, rfl⟩, ?_, ?_, fun k hk => ?_, Or.inl ⟨?_, ?_⟩, ⟨0, 0, fun _ => 0, by omega, by omega, ?_, ?_, fun i hi => by omega, fun k hk => by omega⟩⟩
  · decide +kernel
  · decide +kernel
  · decide +kernel
  · decide +kernel
  · decide +kernel
  · decide +kernel
  · rcases (show k = 0 ∨ k = 1 ∨ k = 2 ∨ k = 3 ∨ k = 4 ∨ k = 5 by omega) with rfl | rfl | rfl | rfl | rfl | rfl <;> decide +kernel
  · decide +kernel
  · decide +kernel
  · decide +kernel
  · decide +kernel
