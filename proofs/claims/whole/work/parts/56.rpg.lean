set_option maxHeartbeats 2000000 in
theorem xr_pg {R : pR} {ts : List (Nat × Nat × Nat × Nat)} {L b F1 : Nat} {f2 rc : Int32} {K : pI → pR → Prop} {Q : Int32 → pI → pR → Prop} (hb4 : b ≤ 400) (hF : F1 ≤ 10) : ∀ N n k lv dp ok p S W G mk ib ev I, n ≤ N → k ≤ 2 → (k = 2 → xt_kd ts L p ≠ 45 ∧ xt_kd ts L p ≠ 33) → (k = 0 → S = []) → lv ≤ 5 → dp ≤ 4 → xc_mu k lv dp ≤ n → xr_TK I ts L → I 121 52 = rc → xr_ST I b p (S ++ W) G dp mk ib 1 ev → p ≤ ts.length → G.length + (S ++ W).length ≤ xt_pl ts L p → ev.length ≤ xt_pl ts L p → (S ++ W).length ≤ 6 * dp + (if k = 0 then lv else 5) → (∀ e, e ∈ S → e.1 = 203 ∨ e.1 = 204) → S.length ≤ dp → xr_HW (if k = 0 then lv else 5) W → (k = 0 → 0 < mk ∨ F1 ≤ lv + 1) → (ok = true ↔ (¬ f2 = 0 ∧ ib = 0)) → mk ≤ dp → ib ≤ dp →
    (k = 0 → ∀ p' x, xp_P (xt_kd ts L) (xt_nm ts L) (xt_pl ts L) n 0 lv dp ok p = .inr (p', x) → ∀ I' E G', xr_ST I' b p' (E ++ W) G' dp mk ib 0 (ev ++ xr_uv rc x.2.2.2.1) → xr_EO (lv + 1) b G'.length E → xr_red b E G' = G ++ x.2.1 → E.length + lv ≤ 5 → G.length ≤ G'.length → xa_fr (xr_S b) I I' → xr_LP (nI F1) f2 K Q R ts.length p' I') →
    (k ≠ 0 → ∀ p' x, xp_P (xt_kd ts L) (xt_nm ts L) (xt_pl ts L) n k lv dp ok p = .inr (p', x) → ∀ I', xr_ST I' b p' W (G ++ x.2.1 ++ xr_sg S) (dp - S.length) mk ib 0 (ev ++ xr_uv rc x.2.2.2.1) → xa_fr (xr_S b) I I' → xr_LP (nI F1) f2 K Q R ts.length p' I') →
    (∀ g, xp_P (xt_kd ts L) (xt_nm ts L) (xt_pl ts L) n k lv dp ok p = .inl g → ∀ I', I' 121 8 = nI (xt_pl ts L g) → xa_fr (xr_S b) I I' → Q 0 I' R) → xr_LP (nI F1) f2 K Q R ts.length p I := by
  intro N; induction N with
  | zero =>
    intro n k lv dp ok p S W G mk ib ev I hn _ _ _ _ _ h
    unfold xc_mu at h; split at h <;> (try split at h) <;> (try split at h) <;> omega
  | succ N ih =>
    intro n k lv dp ok p S W G mk ib ev I hn hk hk2 hS0 hlv hdp hmu tk hrc st hp hgw hev hwl hsg hSd hW hm hok hmk hib hK0 hK1 hFl
    obtain ⟨n, rfl⟩ : ∃ n', n = n' + 1 := by
      refine ⟨n - 1, ?_⟩
      unfold xc_mu at hmu; split at hmu <;> (try split at hmu) <;> (try split at hmu) <;> omega
    have w := tk.1
    have hT := w.2.1
    have hL := w.1
    have hpb := xt_pl_b w (i := p)
    rcases (show k = 0 ∨ k = 1 ∨ k = 2 by omega) with rfl | rfl | rfl
    · have hS := hS0 rfl
      subst hS
      simp only [if_true, List.nil_append] at hwl hW st hgw
      by_cases h4 : lv ≤ 4
      · have hmu1 : xc_mu 0 (lv + 1) dp ≤ n := by unfold xc_mu at hmu ⊢; simp at hmu ⊢; omega
        have e1 : ∀ z, xp_P (xt_kd ts L) (xt_nm ts L) (xt_pl ts L) n 0 (lv + 1) dp ok p = .inr z → xp_P (xt_kd ts L) (xt_nm ts L) (xt_pl ts L) (n + 1) 0 lv dp ok p = xp_L (xt_kd ts L) (xt_pl ts L) (fun q => xp_P (xt_kd ts L) (xt_nm ts L) (xt_pl ts L) n 0 (lv + 1) dp ok q) lv 121 z.1 z.2 := by
          intro z hz
          show (if _ then _ else _) = _
          rw [if_pos rfl, if_neg (by omega), hz]
        have e2 : ∀ g, xp_P (xt_kd ts L) (xt_nm ts L) (xt_pl ts L) n 0 (lv + 1) dp ok p = .inl g → xp_P (xt_kd ts L) (xt_nm ts L) (xt_pl ts L) (n + 1) 0 lv dp ok p = .inl g := by
          intro z hz
          show (if _ then _ else _) = _
          rw [if_pos rfl, if_neg (by omega), hz]
        have hlen : ∀ p p' x, xp_P (xt_kd ts L) (xt_nm ts L) (xt_pl ts L) n 0 (lv + 1) dp ok p = .inr (p', x) → p < p' ∧ p' ≤ ts.length ∧ x.2.1.length + xt_pl ts L p ≤ xt_pl ts L p' ∧ x.2.2.2.1.length + xt_pl ts L p ≤ xt_pl ts L p' := fun p p' x h => by
          have := xp_len w (by omega) (by omega) h
          exact ⟨this.1, this.2.1, this.2.2.2, xp_lenu w (by omega) (by omega) h⟩
        have hop : xr_OP R ts L b F1 f2 rc K Q dp mk ib (lv + 1) (fun q => xp_P (xt_kd ts L) (xt_nm ts L) (xt_pl ts L) n 0 (lv + 1) dp ok q) := by
          intro p W' G ev I a1 a2 a3 a4 a5 a6 a7 a8 a9 a10
          refine ih n 0 (lv + 1) dp ok p [] W' G mk ib ev I (by omega) (by omega) (fun h => by omega) (fun _ => rfl) (by omega) hdp hmu1 a1 a2 a3 a4 a5 a6 (by simpa using a7) (by simp) (by simp) (by simpa using a8) (fun _ => by have := hm rfl; omega) hok hmk hib (fun _ => a9) (fun h => absurd rfl h) a10
        refine hop p W G ev I tk hrc st hp hgw hev (by omega) (xr_HW_m hW (by omega)) (fun p1 x1 hx I1 E1 G1 st1 eo1 hr1 hE1 hG1 fr1 => ?_) (fun g hg I1 f1 fr1 => hFl g (e2 g hg) I1 f1 fr1)
        have hl1 := hlen _ _ _ hx
        have tk1 := xr_TK_fr tk fr1 xr_S_tk
        have hrc1 : I1 121 52 = rc := by rw [fr1 121 52 xr_S_52]; exact hrc
        have e1' := e1 _ hx
        by_cases h2 : lv = 2
        · subst h2
          exact xr_loop2 (f := fun q => xp_P (xt_kd ts L) (xt_nm ts L) (xt_pl ts L) n 0 3 dp ok q) hb4 hF (by omega) hdp hop hlen hwl hW (hm rfl) hl1.2.1 tk1 hrc1 st1 eo1 hr1 hE1 hG1 fr1 (by rw [List.length_append]; omega) (by omega) (fun p' x' h => hK0 rfl p' x' (e1'.trans h)) (fun g h => hFl g (e1'.trans h))
        · exact xr_loop (f := fun q => xp_P (xt_kd ts L) (xt_nm ts L) (xt_pl ts L) n 0 (lv + 1) dp ok q) h4 h2 hb4 hF (by omega) hdp hop hlen hwl hW (hm rfl) 121 p1 x1 G E1 G1 ev I I1 (by omega) hl1.2.1 tk1 hrc1 st1 (fun e he => by have := eo1 e he; exact ⟨by omega, this.2⟩) hr1 (by omega) hG1 fr1 (by rw [List.length_append]; omega) (by omega) (fun p' x' h => hK0 rfl p' x' (e1'.trans h)) (fun g h => hFl g (e1'.trans h))
      · have e1 : xp_P (xt_kd ts L) (xt_nm ts L) (xt_pl ts L) (n + 1) 0 lv dp ok p = xp_P (xt_kd ts L) (xt_nm ts L) (xt_pl ts L) n 1 0 dp ok p := by
          show (if _ then _ else _) = _
          rw [if_pos rfl, if_pos (by omega)]
        have h5 : lv = 5 := by omega
        subst h5
        refine ih n 1 0 dp ok p [] W G mk ib ev I (by omega) (by omega) (fun h => by omega) (fun h => by omega) (by omega) hdp (by unfold xc_mu at hmu ⊢; simp at hmu ⊢; omega) tk hrc st hp hgw hev (by simpa using hwl) (by simp) (by simp) (by simpa using hW) (fun h => by omega) hok hmk hib (fun h => by omega) (fun _ p' x hx I' st' fr' => ?_) (fun g hg => hFl g (e1.trans hg))
        refine hK0 rfl p' x (e1.trans hx) I' [] (G ++ x.2.1) (by simpa [xr_sg] using st') (fun e he => by cases he) rfl (by simp) (by simp) fr'
    · simp only [show ¬ (1 = 0) by omega, if_false] at hwl hW
      by_cases hsn : xt_kd ts L p = 45 ∨ xt_kd ts L p = 33
      · intro m hm'
        obtain ⟨m, rfl⟩ : ∃ m1, m = m1 + 1 := ⟨m - 1, by omega⟩
        have hpT := xt_kd_lt w (i := p) (by omega)
        have hpl := xt_pl_s w (i := p) (by omega)
        refine xr_side1 tk st hp (xr_opd108 tk st hsn (by omega) hdp (fun h4 I1 st1 fr1 => ?_) (fun h4 I1 f1 fr1 => ?_))
        · refine xa_f' (by decide) ?_
          have tk1 := xr_TK_fr tk fr1 xr_S_tk
          have hrc1 : I1 121 52 = rc := by rw [fr1 121 52 xr_S_52]; exact hrc
          refine ih n 1 0 (dp + 1) ok (p + 1) ((if xt_kd ts L p = 45 then 203 else 204, xt_pl ts L p, 0) :: S) W G mk ib ev I1 (by omega) (by omega) (fun h => by omega) (fun h => by omega) (by omega) (by omega) (by unfold xc_mu at hmu ⊢; simp at hmu ⊢; omega) tk1 hrc1 st1 (by omega) (by simp at hgw ⊢; omega) (by omega) (by simp at hwl ⊢; omega) ?_ (by simp; omega) (by simpa using hW) (fun h => by omega) hok (by omega) (by omega) (fun h => by omega) (fun _ p' x hx I' st' fr' => ?_) (fun g hg I' f' fr' => ?_) m (by omega)
          · intro e he
            rcases List.mem_cons.mp he with h | h
            · rw [h]; show (if _ then _ else _) = 203 ∨ (if _ then _ else _) = 204
              by_cases h45 : xt_kd ts L p = 45
              · left; rw [if_pos h45]
              · right; rw [if_neg h45]
            · exact hsg e h
          · refine hK1 (by omega) p' (if xt_kd ts L p = 45 then xp_neg x (xt_pl ts L p) else xp_not x (xt_pl ts L p)) ?_ I' ?_ (xa_fr_t fr1 fr')
            · show (if _ then _ else _) = _
              rw [if_neg (by decide), if_pos rfl, if_pos hsn, if_neg (by omega), hx]
            · have e9 : dp + 1 - ((if xt_kd ts L p = 45 then 203 else 204, xt_pl ts L p, 0) :: S).length = dp - S.length := by simp
              rw [e9] at st'
              by_cases h45 : xt_kd ts L p = 45
              · rw [if_pos h45]; rw [if_pos h45] at st'; simpa [xp_neg, xr_sg] using st'
              · rw [if_neg h45]; rw [if_neg h45] at st'; simpa [xp_not, xr_sg] using st'
          · refine hFl g ?_ I' f' (xa_fr_t fr1 fr')
            show (if _ then _ else _) = _
            rw [if_neg (by decide), if_pos rfl, if_pos hsn, if_neg (by omega), hg]
        · refine xa_t' rfl (hFl p ?_ I1 f1 fr1)
          show (if _ then _ else _) = _
          rw [if_neg (by decide), if_pos rfl, if_pos hsn, if_pos (by omega)]
      · have e1 : xp_P (xt_kd ts L) (xt_nm ts L) (xt_pl ts L) (n + 1) 1 lv dp ok p = xp_P (xt_kd ts L) (xt_nm ts L) (xt_pl ts L) n 2 0 dp ok p := by
          show (if _ then _ else _) = _
          rw [if_neg (by decide), if_pos rfl, if_neg hsn]
        -- no sign: an atom
        have hfin : xr_LP (nI F1) f2 K Q R ts.length p I := by
          refine ih n 2 0 dp ok p S W G mk ib ev I (by omega) (by omega) (fun _ => by omega) (fun h => by omega) (by omega) hdp (by unfold xc_mu at hmu ⊢; simp at hmu ⊢; omega) tk hrc st hp hgw hev (by simpa using hwl) hsg hSd (by simpa using hW) (fun h => by omega) hok hmk hib (fun h => by omega) (fun _ p' x hx => hK1 (by omega) p' x (e1.trans hx)) (fun g hg => hFl g (e1.trans hg))
        exact hfin
    · simp only [show ¬ (2 = 0) by omega, if_false] at hwl hW
      obtain ⟨n, rfl⟩ : ∃ n', n = n' + 1 := ⟨n - 1, by unfold xc_mu at hmu; simp at hmu; omega⟩
      have hgrp : ∀ o pl0 f G1 ib1 ok1 p1 I1, (o = 200 ∨ o = 201 ∨ o = 202) → dp < 4 → xr_TK I1 ts L → I1 121 52 = rc → xr_ST I1 b p1 ((o, pl0, f) :: (S ++ W)) G1 (dp + 1) (mk + 1) ib1 1 ev → p1 ≤ ts.length → G1.length + ((S ++ W).length + 1) ≤ xt_pl ts L p1 → ev.length ≤ xt_pl ts L p1 → (o = 202 → b ≤ f ∧ f < b + G1.length) → (ok1 = true ↔ (¬ f2 = 0 ∧ ib1 = 0)) → ib1 ≤ dp + 1 →
          (∀ q x, xp_P (xt_kd ts L) (xt_nm ts L) (xt_pl ts L) n 0 0 (dp + 1) ok1 p1 = .inr (q, x) → xt_kd ts L q = 41 → ∀ I', xr_ST I' b (q + 1) W (xr_clo b o pl0 f (G1 ++ x.2.1) ++ xr_sg S) (dp - S.length) mk (if o = 202 then 0 else ib1) 0 (ev ++ xr_uv rc x.2.2.2.1) → xa_fr (xr_S b) I1 I' → xr_LP (nI F1) f2 K Q R ts.length (q + 1) I') →
          (∀ g, (xp_P (xt_kd ts L) (xt_nm ts L) (xt_pl ts L) n 0 0 (dp + 1) ok1 p1 = .inl g ∨ ∃ x, xp_P (xt_kd ts L) (xt_nm ts L) (xt_pl ts L) n 0 0 (dp + 1) ok1 p1 = .inr (g, x) ∧ xt_kd ts L g ≠ 41) → ∀ I', I' 121 8 = nI (xt_pl ts L g) → xa_fr (xr_S b) I1 I' → Q 0 I' R) → xr_LP (nI F1) f2 K Q R ts.length p1 I1 := by
        intro o pl0 f G1 ib1 ok1 p1 I1 ho h4 tk1 hrc1 st1 hp1 hg1 hev1 hf1 hok1 hib1 hs1 hfl1
        refine ih n 0 0 (dp + 1) ok1 p1 [] ((o, pl0, f) :: (S ++ W)) G1 (mk + 1) ib1 ev I1 (by omega) (by omega) (fun h => by omega) (fun _ => rfl) (by omega) (by omega) (by unfold xc_mu at hmu ⊢; simp at hmu ⊢; omega) tk1 hrc1 st1 hp1 (by simpa using hg1) hev1 (by simp at hwl ⊢; omega) (by simp) (by simp) ?_ (fun _ => Or.inl (by omega)) hok1 (by omega) hib1 (fun _ q x hx I2 E G2 st2 eo2 hr2 hE2 hG2 fr2 => ?_) (fun h => absurd rfl h) (fun g hg => hfl1 g (Or.inl hg))
        · intro e W' he; cases he
          show xr_rk o ≤ 0 ∧ o ≠ 203 ∧ o ≠ 204 ∧ o < 300
          rcases ho with rfl | rfl | rfl <;> decide
        · have hlx := xp_len w (by omega) (by omega) hx
          have hnx := (xp_nx w _ _ _ _ _ _ _ (by omega) hx).resolve_left (by omega)
          have tk2 := xr_TK_fr tk1 fr2 xr_S_tk
          have hpq := xt_pl_b w (i := q)
          have hrl := xr_red_len b E G2
          rw [hr2, List.length_append] at hrl
          intro m hm'
          obtain ⟨m, rfl⟩ : ∃ m1, m = m1 + 1 := ⟨m - 1, by omega⟩
          refine xr_rpar tk2 st2 hlx.2.1 hnx (by omega) (by omega) (fun h41 => ?_) (fun h41 I' f' fr' => hfl1 q (Or.inr ⟨x, hx, h41⟩) I' f' (xa_fr_t fr2 fr'))
          refine xr_close hb4 st2 ho eo2 (by simp at hwl ⊢; omega) (by omega) (by omega) (by omega) (fun h => by have := hf1 h; omega) (xr_HW_ns hW) hsg (fun I' st' fr' => ?_)
          rw [hr2, show dp + 1 - 1 - S.length = dp - S.length by omega, show mk + 1 - 1 = mk by omega] at st'
          exact hs1 q x hx h41 I' st' (xa_fr_t fr2 fr') m (by have := hlx.1; omega)
      have eP : ¬ (xt_kd ts L p = 258) → ¬ (xt_kd ts L p = 259) → ¬ (xt_kd ts L p = 77 ∨ xt_kd ts L p = 78) → ¬ (xt_kd ts L p = 79 ∧ ok = true) → xp_P (xt_kd ts L) (xt_nm ts L) (xt_pl ts L) (n + 1 + 1) 2 lv dp ok p = xp_P (xt_kd ts L) (xt_nm ts L) (xt_pl ts L) (n + 1) 3 0 dp ok p := by
        intro c1 c2 c3 c4
        show (if _ then _ else _) = _
        rw [if_neg (by decide), if_neg (by decide), if_pos rfl, if_neg c1, if_neg c2, if_neg c3, if_neg c4]
      have eG : ∀ ok1 p1, (xt_kd ts L p1 ≠ 40 ∨ 4 ≤ dp) → xp_P (xt_kd ts L) (xt_nm ts L) (xt_pl ts L) (n + 1) 3 0 dp ok1 p1 = .inl p1 := by
        intro ok1 p1 h
        show (if _ then _ else _) = _
        rw [if_neg (by decide), if_neg (by decide), if_neg (by decide), if_pos h]
      have eG1 : ∀ ok1 p1 g, xt_kd ts L p1 = 40 → dp < 4 → (xp_P (xt_kd ts L) (xt_nm ts L) (xt_pl ts L) n 0 0 (dp + 1) ok1 (p1 + 1) = .inl g ∨ ∃ x, xp_P (xt_kd ts L) (xt_nm ts L) (xt_pl ts L) n 0 0 (dp + 1) ok1 (p1 + 1) = .inr (g, x) ∧ xt_kd ts L g ≠ 41) → xp_P (xt_kd ts L) (xt_nm ts L) (xt_pl ts L) (n + 1) 3 0 dp ok1 p1 = .inl g := by
        intro ok1 p1 g h40 h4 h
        show (if _ then _ else _) = _
        rw [if_neg (by decide), if_neg (by decide), if_neg (by decide), if_neg (by omega)]
        rcases h with h | ⟨x, h, h41⟩
        · rw [h]
        · rw [h]; simp [h41]
      have eG2 : ∀ ok1 p1 q x, xt_kd ts L p1 = 40 → dp < 4 → xp_P (xt_kd ts L) (xt_nm ts L) (xt_pl ts L) n 0 0 (dp + 1) ok1 (p1 + 1) = .inr (q, x) → xt_kd ts L q = 41 → xp_P (xt_kd ts L) (xt_nm ts L) (xt_pl ts L) (n + 1) 3 0 dp ok1 p1 = .inr (q + 1, x) := by
        intro ok1 p1 q x h40 h4 h h41
        show (if _ then _ else _) = _
        rw [if_neg (by decide), if_neg (by decide), if_neg (by decide), if_neg (by omega), h]; simp [h41]
      intro m hm'
      obtain ⟨m, rfl⟩ : ∃ m1, m = m1 + 1 := ⟨m - 1, by omega⟩
      refine xr_side1 tk st hp ?_
      by_cases c12 : xt_kd ts L p = 258 ∨ xt_kd ts L p = 259
      · have hpT := xt_kd_lt w (i := p) (by omega)
        refine xr_opd30 hb4 tk hrc st c12 (xr_HW_ns hW) hsg (by omega) (by simp at hgw; omega) hSd (by omega) (fun I' st' fr' => xa_f' (by decide) ?_)
        refine hK1 (by omega) (p + 1) _ ?_ I' st' fr' m (by omega)
        show (if _ then _ else _) = _
        rw [if_neg (by decide), if_neg (by decide), if_pos rfl]
        by_cases c1 : xt_kd ts L p = 258
        · rw [if_pos c1, if_pos c1]
        · rw [if_neg c1, if_neg c1, if_pos (c12.resolve_left c1)]
      have c1 : ¬ xt_kd ts L p = 258 := fun h => c12 (Or.inl h)
      have c2 : ¬ xt_kd ts L p = 259 := fun h => c12 (Or.inr h)
      by_cases c3 : xt_kd ts L p = 77 ∨ xt_kd ts L p = 78
      · have hpT := xt_kd_lt w (i := p) (by omega)
        have hpl := xt_pl_s w (i := p) (by omega)
        refine xr_opdM tk st c3 (by omega) hdp (fun h40 h4 I1 st1 fr1 => xa_f' (by decide) ?_) (fun h4 I1 f1 fr1 => xa_t' rfl (hFl (p + 1) ?_ I1 f1 fr1))
        · have tk1 := xr_TK_fr tk fr1 xr_S_tk
          have hrc1 : I1 121 52 = rc := by rw [fr1 121 52 xr_S_52]; exact hrc
          have hpT1 := xt_kd_lt w (i := p + 1) (by omega)
          have hpl1 : xt_pl ts L (p + 1) + 1 ≤ xt_pl ts L (p + 2) := xt_pl_s w (i := p + 1) (by omega)
          refine hgrp 201 (xt_pl ts L p) (if xt_kd ts L p = 78 then 1 else 0) G ib ok (p + 2) I1 (by omega) h4 tk1 hrc1 st1 (by omega) (by omega) (by omega) (fun h => by omega) hok (by omega) (fun q x hx h41 I' st' fr' => ?_) (fun g hg I' f' fr' => ?_) m (by omega)
          · refine hK1 (by omega) (q + 1) (xp_call (if xt_kd ts L p = 78 then 1 else 0) x (xt_pl ts L p)) ?_ I' ?_ (xa_fr_t fr1 fr')
            · show (if _ then _ else _) = _
              rw [if_neg (by decide), if_neg (by decide), if_pos rfl, if_neg c1, if_neg c2, if_pos c3, eG2 ok (p + 1) q x h40 h4 hx h41]
            · rw [if_neg (show ¬ (201 = 202) by decide)] at st'
              have e9 : xr_clo b 201 (xt_pl ts L p) (if xt_kd ts L p = 78 then 1 else 0) (G ++ x.2.1) = G ++ (xp_call (if xt_kd ts L p = 78 then 1 else 0) x (xt_pl ts L p)).2.1 := by
                simp [xr_clo, xp_call]
              rw [e9] at st'; exact st'
          · refine hFl g ?_ I' f' (xa_fr_t fr1 fr')
            show (if _ then _ else _) = _
            rw [if_neg (by decide), if_neg (by decide), if_pos rfl, if_neg c1, if_neg c2, if_pos c3, eG1 ok (p + 1) g h40 h4 hg]
        · show (if _ then _ else _) = _
          rw [if_neg (by decide), if_neg (by decide), if_pos rfl, if_neg c1, if_neg c2, if_pos c3, eG ok (p + 1) h4]
      by_cases c4 : xt_kd ts L p = 79 ∧ ok = true
      · obtain ⟨c4, rfl⟩ := c4
        obtain ⟨hf2, hib0⟩ := hok.mp rfl
        subst hib0
        have hpT := xt_kd_lt w (i := p) (by omega)
        have hpl := xt_pl_s w (i := p) (by omega)
        refine xr_opdO hb4 tk st c4 hf2 (by omega) hdp (by omega) (fun h40 h4 I1 st1 fr1 => xa_f' (by decide) ?_) (fun h4 I1 f1 fr1 => xa_t' rfl (hFl (p + 1) ?_ I1 f1 fr1))
        · have tk1 := xr_TK_fr tk fr1 xr_S_tk
          have hrc1 : I1 121 52 = rc := by rw [fr1 121 52 xr_S_52]; exact hrc
          have hpT1 := xt_kd_lt w (i := p + 1) (by omega)
          have hpl1 : xt_pl ts L (p + 1) + 1 ≤ xt_pl ts L (p + 2) := xt_pl_s w (i := p + 1) (by omega)
          refine hgrp 202 (xt_pl ts L p) (b + G.length) (G ++ [(202, 0, 0, xt_pl ts L p)]) (mk + 1) false (p + 2) I1 (by omega) h4 tk1 hrc1 st1 (by omega) (by simp at hgw ⊢; omega) (by omega) (fun h => by simp) (by simp) (by omega) (fun q x hx h41 I' st' fr' => ?_) (fun g hg I' f' fr' => ?_) m (by omega)
          · refine hK1 (by omega) (q + 1) (xp_old x (xt_pl ts L p)) ?_ I' ?_ (xa_fr_t fr1 fr')
            · show (if _ then _ else _) = _
              rw [if_neg (by decide), if_neg (by decide), if_pos rfl, if_neg c1, if_neg c2, if_neg c3, if_pos ⟨c4, rfl⟩, eG2 false (p + 1) q x h40 h4 hx h41]
            · rw [if_pos rfl] at st'
              have e9 : xr_clo b 202 (xt_pl ts L p) (b + G.length) (G ++ [(202, 0, 0, xt_pl ts L p)] ++ x.2.1) = G ++ (xp_old x (xt_pl ts L p)).2.1 := by
                unfold xr_clo
                rw [if_neg (by decide), if_neg (by decide), show b + G.length - b = G.length by omega, show G ++ [(202, 0, 0, xt_pl ts L p)] ++ x.2.1 = G ++ (202, 0, 0, xt_pl ts L p) :: x.2.1 by simp, xr_pt_mid]
                simp [xp_old]
              rw [e9] at st'; exact st'
          · refine hFl g ?_ I' f' (xa_fr_t fr1 fr')
            show (if _ then _ else _) = _
            rw [if_neg (by decide), if_neg (by decide), if_pos rfl, if_neg c1, if_neg c2, if_neg c3, if_pos ⟨c4, rfl⟩, eG1 false (p + 1) g h40 h4 hg]
        · show (if _ then _ else _) = _
          rw [if_neg (by decide), if_neg (by decide), if_pos rfl, if_neg c1, if_neg c2, if_neg c3, if_pos ⟨c4, rfl⟩, eG false (p + 1) h4]
      have eP' := eP c1 c2 c3 c4
      by_cases c5 : xt_kd ts L p = 40
      · have hpT := xt_kd_lt w (i := p) (by omega)
        have hpl := xt_pl_s w (i := p) (by omega)
        refine xr_opdP tk st c5 (by omega) hdp (fun h4 I1 st1 fr1 => xa_f' (by decide) ?_) (fun h4 I1 f1 fr1 => xa_t' rfl (hFl p ?_ I1 f1 fr1))
        · have tk1 := xr_TK_fr tk fr1 xr_S_tk
          have hrc1 : I1 121 52 = rc := by rw [fr1 121 52 xr_S_52]; exact hrc
          refine hgrp 200 (xt_pl ts L p) 0 G ib ok (p + 1) I1 (by omega) h4 tk1 hrc1 st1 (by omega) (by omega) (by omega) (fun h => by omega) hok (by omega) (fun q x hx h41 I' st' fr' => ?_) (fun g hg I' f' fr' => ?_) m (by omega)
          · refine hK1 (by omega) (q + 1) x (eP'.trans (eG2 ok p q x c5 h4 hx h41)) I' ?_ (xa_fr_t fr1 fr')
            rw [if_neg (show ¬ (200 = 202) by decide)] at st'; exact st'
          · exact hFl g (eP'.trans (eG1 ok p g c5 h4 hg)) I' f' (xa_fr_t fr1 fr')
        · exact eP'.trans (eG ok p (by omega))
      · by_cases c6 : xt_kd ts L p = 45 ∨ xt_kd ts L p = 33
        · have := hk2 rfl; omega
        · refine xr_opdF tk st hp (by omega) (by omega) (fun h79 => ?_) (fun I1 f1 fr1 => xa_t' rfl (hFl p (eP'.trans (eG ok p (Or.inl c5))) I1 f1 fr1))
          by_cases hf0 : f2 = 0
          · exact Or.inl hf0
          · right; intro hib0; exact c4 ⟨h79, hok.mpr ⟨hf0, hib0⟩⟩
