theorem xp_L_ind {kd pl : Nat → Nat} {f : Nat → Nat ⊕ (Nat × xp_X)} {lv : Nat} (T : Nat → Nat → xp_X → Prop) (U : Nat → Nat → xp_X → Prop)
    (hf : ∀ p q y, f p = .inr (q, y) → U p q y)
    (hbin : ∀ p q q' x y, 2 ≤ lv → xp_lev (kd q) = lv → T p q x → U (q + 1) q' y → T p q' (xp_bin (kd q) x y (pl q)))
    (hlg : ∀ p q q' x y, lv < 2 → xp_lev (kd q) = lv → T p q x → U (q + 1) q' y → T p q' (xp_lg (kd q) x y (pl q))) :
    ∀ m p q x p' x', T p q x → xp_L kd pl f lv m q x = .inr (p', x') → T p p' x' := by
  intro m; induction m with
  | zero => intro p q x p' x' h e; cases e; exact h
  | succ m ih =>
    intro p q x p' x' h e
    unfold xp_L at e
    by_cases hl : xp_lev (kd q) = lv
    · rw [if_pos hl] at e
      cases hq : f (q + 1) with
      | inl g => rw [hq] at e; cases e
      | inr z =>
        obtain ⟨q', y⟩ := z
        rw [hq] at e
        have hy := hf _ _ _ hq
        simp only at e
        by_cases h2 : lv = 2
        · rw [if_pos h2] at e
          split at e
          · cases e
          · cases e; exact hbin _ _ _ _ _ (by omega) hl h hy
        · rw [if_neg h2] at e
          by_cases h3 : lv < 2
          · rw [if_pos h3] at e
            exact ih _ _ _ _ _ (hlg _ _ _ _ _ h3 hl h hy) e
          · rw [if_neg h3] at e
            exact ih _ _ _ _ _ (hbin _ _ _ _ _ (by omega) hl h hy) e
    · rw [if_neg hl] at e; cases e; exact h
theorem xp_ind {kd nm pl : Nat → Nat} (S : Nat → Nat → Bool → Nat → Nat → xp_X → Prop)
    (hnum : ∀ dp ok p, kd p = 258 → S 5 dp ok p (p + 1) (xp_num (nm p) (pl p)))
    (hvar : ∀ dp ok p, kd p = 259 → S 5 dp ok p (p + 1) (xp_var (nm p) (pl p)))
    (hneg : ∀ dp ok p q x, dp < 4 → kd p = 45 → S 5 (dp + 1) ok (p + 1) q x → S 5 dp ok p q (xp_neg x (pl p)))
    (hnot : ∀ dp ok p q x, dp < 4 → kd p = 33 → S 5 (dp + 1) ok (p + 1) q x → S 5 dp ok p q (xp_not x (pl p)))
    (hpar : ∀ dp ok p q x, dp < 4 → kd p = 40 → kd q = 41 → S 0 (dp + 1) ok (p + 1) q x → S 5 dp ok p (q + 1) x)
    (hcall : ∀ dp ok p q x, dp < 4 → (kd p = 77 ∨ kd p = 78) → kd (p + 1) = 40 → kd q = 41 → S 0 (dp + 1) ok (p + 2) q x → S 5 dp ok p (q + 1) (xp_call (if kd p = 78 then 1 else 0) x (pl p)))
    (hold : ∀ dp p q x, dp < 4 → kd p = 79 → kd (p + 1) = 40 → kd q = 41 → S 0 (dp + 1) false (p + 2) q x → S 5 dp true p (q + 1) (xp_old x (pl p)))
    (hup : ∀ lv dp ok p q x, lv ≤ 4 → S (lv + 1) dp ok p q x → S lv dp ok p q x)
    (hbin : ∀ lv dp ok p q q' x y, 2 ≤ lv → lv ≤ 4 → xp_lev (kd q) = lv → S lv dp ok p q x → S (lv + 1) dp ok (q + 1) q' y → S lv dp ok p q' (xp_bin (kd q) x y (pl q)))
    (hlg : ∀ lv dp ok p q q' x y, lv < 2 → xp_lev (kd q) = lv → S lv dp ok p q x → S (lv + 1) dp ok (q + 1) q' y → S lv dp ok p q' (xp_lg (kd q) x y (pl q))) :
    ∀ n k lv dp ok p p' x, lv ≤ 5 → xp_P kd nm pl n k lv dp ok p = .inr (p', x) →
      (k = 0 → S lv dp ok p p' x) ∧ (k = 1 ∨ k = 2 → S 5 dp ok p p' x) ∧ (k = 3 → dp < 4 ∧ kd p = 40 ∧ ∃ q, p' = q + 1 ∧ kd q = 41 ∧ S 0 (dp + 1) ok (p + 1) q x) := by
  intro n; induction n with
  | zero => intro k lv dp ok p p' x _ h; cases h
  | succ n ih =>
    intro k lv dp ok p p' x hlv h
    unfold xp_P at h
    by_cases k0 : k = 0
    · rw [if_pos k0] at h
      refine ⟨fun _ => ?_, fun hk => by omega, fun hk => by omega⟩
      by_cases h4 : 4 < lv
      · rw [if_pos h4] at h
        have := (ih _ _ _ _ _ _ _ (by omega) h).2.1 (Or.inl rfl)
        rw [show lv = 5 by omega]; exact this
      · rw [if_neg h4] at h
        cases hq : xp_P kd nm pl n 0 (lv + 1) dp ok p with
        | inl g => rw [hq] at h; cases h
        | inr z =>
          obtain ⟨q, y⟩ := z
          rw [hq] at h
          have h1 := (ih _ _ _ _ _ _ _ (by omega) hq).1 rfl
          exact xp_L_ind (fun p q x => S lv dp ok p q x) (fun p q x => S (lv + 1) dp ok p q x) (fun p q y e => (ih _ _ _ _ _ _ _ (by omega) e).1 rfl)
            (fun p q q' x y h2 hl a b => hbin _ _ _ _ _ _ _ _ h2 (by omega) hl a b) (fun p q q' x y h2 hl a b => hlg _ _ _ _ _ _ _ _ h2 hl a b) 121 p q y p' x (hup _ _ _ _ _ _ (by omega) h1) h
    · rw [if_neg k0] at h
      refine ⟨fun hk => absurd hk k0, fun hk => ?_, fun hk => ?_⟩
      · by_cases k1 : k = 1
        · rw [if_pos k1] at h
          by_cases hs : kd p = 45 ∨ kd p = 33
          · rw [if_pos hs] at h
            split at h
            · cases h
            · rename_i h4
              cases hq : xp_P kd nm pl n 1 0 (dp + 1) ok (p + 1) with
              | inl g => rw [hq] at h; cases h
              | inr z =>
                obtain ⟨q, y⟩ := z
                rw [hq] at h
                have h1 := (ih _ _ _ _ _ _ _ (by omega) hq).2.1 (Or.inl rfl)
                cases h
                by_cases h45 : kd p = 45
                · rw [if_pos h45]; exact hneg _ _ _ _ _ (by omega) h45 h1
                · rw [if_neg h45]; exact hnot _ _ _ _ _ (by omega) (hs.resolve_left h45) h1
          · rw [if_neg hs] at h
            exact (ih _ _ _ _ _ _ _ (by omega) h).2.1 (Or.inr rfl)
        · rw [if_neg k1, if_pos (hk.resolve_left k1)] at h
          by_cases a1 : kd p = 258
          · rw [if_pos a1] at h; cases h; exact hnum _ _ _ a1
          · rw [if_neg a1] at h
            by_cases a2 : kd p = 259
            · rw [if_pos a2] at h; cases h; exact hvar _ _ _ a2
            · rw [if_neg a2] at h
              by_cases a3 : kd p = 77 ∨ kd p = 78
              · rw [if_pos a3] at h
                cases hq : xp_P kd nm pl n 3 0 dp ok (p + 1) with
                | inl g => rw [hq] at h; cases h
                | inr z =>
                  obtain ⟨q, y⟩ := z
                  rw [hq] at h
                  obtain ⟨c1, c2, q2, c3, c4, c5⟩ := (ih _ _ _ _ _ _ _ (by omega) hq).2.2 rfl
                  cases h; subst c3
                  exact hcall _ _ _ _ _ c1 a3 c2 c4 c5
              · rw [if_neg a3] at h
                by_cases a4 : kd p = 79 ∧ ok = true
                · rw [if_pos a4] at h
                  cases hq : xp_P kd nm pl n 3 0 dp false (p + 1) with
                  | inl g => rw [hq] at h; cases h
                  | inr z =>
                    obtain ⟨q, y⟩ := z
                    rw [hq] at h
                    obtain ⟨c1, c2, q2, c3, c4, c5⟩ := (ih _ _ _ _ _ _ _ (by omega) hq).2.2 rfl
                    cases h; subst c3
                    rw [a4.2]
                    exact hold _ _ _ _ c1 a4.1 c2 c4 c5
                · rw [if_neg a4] at h
                  obtain ⟨c1, c2, q2, c3, c4, c5⟩ := (ih _ _ _ _ _ _ _ (by omega) h).2.2 rfl
                  subst c3
                  exact hpar _ _ _ _ _ c1 c2 c4 c5
      · rw [if_neg (by omega), if_neg (by omega)] at h
        split at h
        · cases h
        · rename_i hc
          cases hq : xp_P kd nm pl n 0 0 (dp + 1) ok (p + 1) with
          | inl g => rw [hq] at h; cases h
          | inr z =>
            obtain ⟨q, y⟩ := z
            rw [hq] at h
            simp only at h
            split at h
            · rename_i h41
              cases h
              exact ⟨by omega, by omega, q, rfl, h41, (ih _ _ _ _ _ _ _ (by omega) hq).1 rfl⟩
            · cases h
theorem xp_lev_ne {k : Nat} (h : xp_lev k ≠ 9) : k ≠ 256 := by rintro rfl; exact h (by decide)
theorem xp_lev_lg {k : Nat} (h : xp_lev k < 2) : 264 ≤ k := by
  unfold xp_lev at h
  split at h
  · omega
  · split at h
    · omega
    · split at h
      · omega
      · split at h
        · omega
        · split at h <;> omega
/-- what is read: further on, and no longer than its text -/
theorem xp_len {ts : List (Nat × Nat × Nat × Nat)} {L : Nat} (w : xt_WF ts L) {n k lv dp p p' : Nat} {ok : Bool} {x : xp_X} (hlv : lv ≤ 5) (hk : k ≤ 3) (h : xp_P (xt_kd ts L) (xt_nm ts L) (xt_pl ts L) n k lv dp ok p = .inr (p', x)) :
    p < p' ∧ p' ≤ ts.length ∧ x.1.length + xt_pl ts L p ≤ xt_pl ts L p' ∧ x.2.1.length + xt_pl ts L p ≤ xt_pl ts L p' := by
  have := xp_ind (kd := xt_kd ts L) (nm := xt_nm ts L) (pl := xt_pl ts L) (fun lv dp ok p p' x => p < p' ∧ p' ≤ ts.length ∧ x.1.length + xt_pl ts L p ≤ xt_pl ts L p' ∧ x.2.1.length + xt_pl ts L p ≤ xt_pl ts L p')
    (fun dp ok p h => by
      have h1 := xt_kd_lt w (i := p) (by omega)
      have h2 := xt_pl_s w (i := p) (by omega)
      refine ⟨by omega, by omega, ?_, ?_⟩ <;> (simp [xp_num]; omega))
    (fun dp ok p h => by
      have h1 := xt_kd_lt w (i := p) (by omega)
      have h2 := xt_pl_s w (i := p) (by omega)
      refine ⟨by omega, by omega, ?_, ?_⟩ <;> (simp [xp_var]; omega))
    (fun dp ok p q x _ h a => by
      have h2 := xt_pl_s w (i := p) (by omega)
      refine ⟨by omega, a.2.1, ?_, ?_⟩ <;> (simp [xp_neg]; omega))
    (fun dp ok p q x _ h a => by
      have h2 := xt_pl_s w (i := p) (by omega)
      refine ⟨by omega, a.2.1, ?_, ?_⟩ <;> (simp [xp_not]; omega))
    (fun dp ok p q x _ h hq a => by
      have h2 := xt_pl_s w (i := p) (by omega)
      have h3 := xt_pl_s w (i := q) (by omega)
      have h4 := xt_kd_lt w (i := q) (by omega)
      refine ⟨by omega, by omega, ?_, ?_⟩ <;> omega)
    (fun dp ok p q x _ h h40 hq a => by
      have h2 := xt_pl_s w (i := p) (by omega)
      have h5 : xt_pl ts L (p + 1) + 1 ≤ xt_pl ts L (p + 2) := xt_pl_s w (i := p + 1) (by omega)
      have h3 := xt_pl_s w (i := q) (by omega)
      have h4 := xt_kd_lt w (i := q) (by omega)
      refine ⟨by omega, by omega, ?_, ?_⟩ <;> (simp [xp_call]; omega))
    (fun dp p q x _ h h40 hq a => by
      have h2 := xt_pl_s w (i := p) (by omega)
      have h5 : xt_pl ts L (p + 1) + 1 ≤ xt_pl ts L (p + 2) := xt_pl_s w (i := p + 1) (by omega)
      have h3 := xt_pl_s w (i := q) (by omega)
      have h4 := xt_kd_lt w (i := q) (by omega)
      refine ⟨by omega, by omega, ?_, ?_⟩ <;> (simp [xp_old]; omega))
    (fun lv dp ok p q x _ a => a)
    (fun lv dp ok p q q' x y _ h4 hl a b => by
      have h2 := xt_pl_s w (i := q) (xp_lev_ne (by omega))
      refine ⟨by omega, by omega, ?_, ?_⟩ <;> (simp [xp_bin]; omega))
    (fun lv dp ok p q q' x y h4 hl a b => by
      have h2 := xt_pl_s2 w (i := q) (by have := xp_lev_lg (k := xt_kd ts L q) (by omega); omega)
      refine ⟨by omega, by omega, ?_, ?_⟩ <;> (simp [xp_lg]; omega))
    n k lv dp ok p p' x hlv h
  rcases (show k = 0 ∨ (k = 1 ∨ k = 2) ∨ k = 3 by omega) with hk | hk | hk
  · exact this.1 hk
  · exact this.2.1 hk
  · obtain ⟨_, h40, q, e, h41, a⟩ := this.2.2 hk
    subst e
    have h2 := xt_pl_s w (i := p) (by omega)
    have h3 := xt_pl_s w (i := q) (by omega)
    have h4 := xt_kd_lt w (i := q) (by omega)
    refine ⟨by omega, by omega, ?_, ?_⟩ <;> omega
