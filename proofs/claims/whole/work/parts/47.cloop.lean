theorem xc_CD_w {I : pI} {q b k : Nat} {v : Int32} {c : List xp_I} (h : xc_CD I q b c) (hk : k < b) : xc_CD (pw_wI I (q + 5) k v) q b c := by
  intro i e hi
  have := h i e hi
  rw [xa_w, xa_w, xa_w, xa_w, if_neg (by omega), if_neg (by omega), if_neg (by omega), if_neg (by omega)]
  exact this
theorem xc_fr_aim {I : pI} {q s k : Nat} {v : Int32} (h : s ≤ k) : xa_fr (xc_S q s) I (pw_wI I (q + 5) k v) := xa_fr_w (xa_fr_r _ _) (by simp [xc_S, h])
theorem xc_PO_lg {I0 I I7 I9 : pI} {q s p p' o pl : Nat} {c d : List xp_I} {ok : Bool} (hq : q = 54 ∨ q = 81) (po : xc_PO I0 I q s p c ok) (fr : xa_fr (xc_S q (s + c.length)) I I7)
    (h1 : I7 (q + 3) (s + c.length) = nI 6) (h2 : I7 (q + 4) (s + c.length) = nI o) (h4 : I7 (q + 6) (s + c.length) = nI pl)
    (po2 : xc_PO I7 I9 q (s + c.length + 1) p' (d ++ [(7, o, 1, pl)]) ok) :
    xc_PO I0 (pw_wI I9 (q + 5) (s + c.length) (nI (s + c.length + 1 + d.length + 1))) q s p' (c ++ (6, o, d.length + 2, pl) :: d ++ [(7, o, 1, pl)]) ok := by
  obtain ⟨a, b, f⟩ := po
  obtain ⟨a2, b2, f2⟩ := po2
  have f3 : xa_fr (xc_S q (s + c.length)) I (pw_wI I9 (q + 5) (s + c.length) (nI (s + c.length + 1 + d.length + 1))) :=
    xa_fr_t (xa_fr_t fr (xa_fr_m f2 (xc_S_S (by omega)))) (xc_fr_aim (Nat.le_refl _))
  refine ⟨?_, ?_, xa_fr_t f (xa_fr_m f3 (xc_S_S (by omega)))⟩
  · obtain ⟨e1, e2, e3, e4⟩ := a2
    refine ⟨?_, ?_, ?_, ?_⟩
    · rw [xa_w, if_neg (by omega)]; exact e1
    · rw [xa_w, if_neg (by omega)]; exact e2
    · rw [xa_w, if_neg (by omega)]; exact e3
    · rw [xa_w, if_neg (by omega), e4]
      congr 1; simp; omega
  · have g : ∀ p, (p = q + 3 ∨ p = q + 4 ∨ p = q + 6) → (pw_wI I9 (q + 5) (s + c.length) (nI (s + c.length + 1 + d.length + 1))) p (s + c.length) = I7 p (s + c.length) := by
      intro p hp
      rw [xa_w, if_neg (by omega)]
      exact f2 p _ (by simp only [xc_S, Bool.or_eq_false_iff, Bool.and_eq_false_iff, beq_eq_false_iff_ne, decide_eq_false_iff_not]; omega)
    have h5 : xc_CD (pw_wI I9 (q + 5) (s + c.length) (nI (s + c.length + 1 + d.length + 1))) q (s + c.length) [(6, o, d.length + 2, pl)] := by
      refine xc_CD_one ?_ ?_ ?_ ?_
      · rw [g _ (Or.inl rfl)]; exact h1
      · rw [g _ (Or.inr (Or.inl rfl))]; exact h2
      · rw [xa_w]; simp; congr 1; omega
      · rw [g _ (Or.inr (Or.inr rfl))]; exact h4
    have h6 := xc_CD_app h5 (d := d ++ [(7, o, 1, pl)]) (by simpa using xc_CD_w (v := nI (s + c.length + 1 + d.length + 1)) b2 (Nat.lt_succ_self _))
    have h7 := xc_CD_app (xc_CD_fr hq b f3 (Nat.le_refl _)) h6
    simpa using h7
theorem xc_FL_any {I0 I I1 I' : pI} {q L g : Nat} {ts : List (Nat × Nat × Nat × Nat)} {cm cm' : Prop} (fl : xc_FL I0 I q ts L g cm) (hc : cm → cm') (h8 : I' 108 = I 108) (ok : xc_OK I' q) (fr : xa_fr (xc_S q 0) I I') (fr0 : xa_fr (xc_S q 0) I1 I0) : xc_FL I1 I' q ts L g cm' := by
  obtain ⟨a, b, c, d⟩ := fl
  refine ⟨a, ?_, ok, xa_fr_t fr0 (xa_fr_t d fr)⟩
  rw [h8]
  rcases b with b | ⟨b1, b2⟩
  · exact Or.inl b
  · exact Or.inr ⟨hc b1, b2⟩
theorem xc_FL_lev {I I' : pI} {q L g lv : Nat} {ts : List (Nat × Nat × Nat × Nat)} {cm : Prop} (fl : xc_FL I I' q ts L g cm) (hlv : lv ≤ 4) (h : cm → lv ≠ 2) : ∃ p, p ≤ ts.length ∧ I' 108 2 = nI p ∧ xp_lev (xt_kd ts L p) ≠ lv := by
  obtain ⟨a, b, c, d⟩ := fl
  rcases b with b | ⟨b1, b2, b3, b4⟩
  · refine ⟨ts.length, Nat.le_refl _, b.1, ?_⟩
    unfold xt_kd; rw [xt_at_ge (Nat.le_refl _)]; show xp_lev 256 ≠ lv; rw [show xp_lev 256 = 9 by decide]; omega
  · exact ⟨g, a, b2, by rw [b4]; exact fun e => h b1 e.symm⟩
set_option maxHeartbeats 1000000 in
theorem xc_loop {R : pR} {q L dp lv : Nat} {ok : Bool} {ts : List (Nat × Nat × Nat × Nat)} {f : Nat → Nat ⊕ (Nat × xp_X)} {W : Nat → Int32 → Int32 → pI → pR → (pI → pR → Prop) → Prop} (hlv : lv ≤ 4) (h2 : lv ≠ 2)
    (hW : ∀ p s I (Q : pI → pR → Prop), xc_CX I R q ts L → xc_ST I q p s ok → p ≤ ts.length → s ≤ xt_pl ts L p → (∀ p' x, f p = .inr (p', x) → ∀ I', xc_PO I I' q s p' x.1 ok → Q I' R) → (∀ g, f p = .inl g → ∀ I', xc_FL I I' q ts L g (lv + 1 ≤ 2) → Q I' R) → W 0 (nI (lv + 1)) (nI dp) I R Q)
    (hlen : ∀ p p' x, f p = .inr (p', x) → p < p' ∧ p' ≤ ts.length ∧ x.1.length + xt_pl ts L p ≤ xt_pl ts L p') :
    ∀ m turn p s x I0 I (K Q : pI → pR → Prop), turn + m = 121 → turn ≤ p → p ≤ ts.length → xc_CX I R q ts L → xc_PO I0 I q s p x.1 ok → s + x.1.length ≤ xt_pl ts L p →
      (∀ p' x', xp_L (xt_kd ts L) (xt_pl ts L) f lv m p x = .inr (p', x') → ∀ I', xc_PO I0 I' q s p' x'.1 ok → K I' R) →
      (∀ g, xp_L (xt_kd ts L) (xt_pl ts L) f lv m p x = .inl g → ∀ I', xc_FL I0 I' q ts L g (lv ≤ 2) → K I' R) → l_ps_chain_34 W (nI lv) (nI dp) 120 K Q m (nI turn) I R := by
  intro m; induction m with
  | zero => intro turn p s x I0 I K Q h1 h3 h4 cx; have := cx.2.2.1.1; have := cx.2.2.1.2.1; omega
  | succ m ih =>
    intro turn p s x I0 I K Q h1 h3 h4 cx po hs hK hF
    have w := cx.2.2.1
    have hT := w.2.1
    have hL := w.1
    have hq := cx.2.2.2.2
    have hR := cx.2.2.2.1
    have hkb := xt_kd_b w (i := p)
    have hpb := xt_pl_b w (i := p)
    by_cases hl : xp_lev (xt_kd ts L p) = lv
    · have hpT : p < ts.length := xt_kd_lt w (xp_lev_ne (by omega))
      unfold l_ps_chain_34
      refine xa_f (fun hh => by have := (xa_lle 120 (by omega) (by omega)).mp hh; omega) ?_
      rw [xc_next cx po.1.1 (by omega), xc_levelOf (by omega)]
      refine xa_t' ((xc_lev_eq hlv).mpr hl) ?_
      rw [xc_next cx po.1.1 (by omega), po.1.1, xc_placeOf cx (by omega), po.1.1, nI_1]
      refine xa_a ?_
      have st6 := xc_ST_now (p' := p + 1) hq po.1
      have fr6 : xa_fr (xc_S q (s + x.1.length)) I (pw_wI I 108 2 (nI (p + 1))) := xc_fr_now
      have cx6 := xc_CX_fr cx fr6 (xc_S_tk hq)
      generalize pw_wI I 108 2 (nI (p + 1)) = I6 at st6 fr6 cx6 ⊢
      by_cases hlt : lv < 2
      · have hw2 := xt_pl_s2 w (i := p) (by have := xp_lev_lg (k := xt_kd ts L p) (by omega); omega)
        have hpb2 := xt_pl_b w (i := p + 1)
        refine xa_f (fun hh => by have := (xa_llt 1 (by omega) (by omega)).mp hh; omega) ?_
        unfold j_ps_chain_90
        refine xa_f (by decide) ⟨q, hR, xc_sh hq, ?_⟩
        refine xc_cdadd (k := 6) hq st6.2.2.2 (by omega) (fun I7 a0 a1 a2 a3 a4 af => ?_)
        have fr7 := xa_fr_m af (xc_S1_S (Nat.le_refl _))
        have st7 := xc_ST_S1 hq st6 af a0
        have cx7 := xc_CX_fr cx6 fr7 (xc_S_tk hq)
        unfold j_ps_chain_117
        rw [nI_1]
        refine hW (p + 1) _ I7 _ cx7 st7 (by omega) (by omega) (fun p' y hy I8 po8 => ?_) (fun g hg I8 fl8 => ?_)
        · have hly := hlen _ _ _ hy
          have cx8 := xc_CX_fr cx7 po8.2.2 (xc_S_tk hq)
          have hpb3 := xt_pl_b w (i := p')
          refine ⟨q, hR, xc_sh hq, xc_cdadd (k := 7) hq po8.1.2.2.2 (by omega) (fun I9 b0 b1 b2 b3 b4 bf => ?_)⟩
          have po9 := xc_PO_add hq po8 b0 b1 b2 b3 b4 bf
          refine xa_f (by decide) ⟨q, hR, xc_sh hq, xc_cdaim b0 (by omega) (by omega) ?_⟩
          have po10 := xc_PO_lg hq po (xa_fr_t fr6 fr7) a1 a2 a4 po9
          have e : xp_L (xt_kd ts L) (xt_pl ts L) f lv (m + 1) p x = xp_L (xt_kd ts L) (xt_pl ts L) f lv m p' (xp_lg (xt_kd ts L p) x y (xt_pl ts L p)) := by
            show (if _ then _ else _) = _
            rw [if_pos hl, hy]; simp [h2, hlt]
          rw [e] at hK hF
          show l_ps_chain_34 _ _ _ _ _ _ _ (nI turn + 1) _ _
          rw [nI_1]
          refine ih (turn + 1) p' s (xp_lg (xt_kd ts L p) x y (xt_pl ts L p)) I0 _ K Q (by omega) (by omega) hly.2.1 (xc_CX_fr (xc_CX_fr cx8 (xa_fr_m bf (xc_S1_S (Nat.le_refl _))) (xc_S_tk hq)) (xc_fr_aim (s := 0) (Nat.zero_le _)) (xc_S_tk hq)) po10 ?_ hK hF
          simp [xp_lg]; omega
        · obtain ⟨s8, hs8, hs8'⟩ := fl8.2.2.1
          refine ⟨q, hR, xc_sh hq, xc_cdadd_any hq hs8' hs8 (fun v9 I9 b0 b1 b2 => ?_)⟩
          obtain ⟨s9, hs9, hs9'⟩ := b0
          refine xa_f (by decide) ⟨q, hR, xc_sh hq, xc_cdaim_any hq hs9' hs9 (fun I10 c0 c1 c2 => ?_)⟩
          have fl10 := xc_FL_any (cm' := lv ≤ 2) fl8 (fun h => by omega) (c1.trans b1) c0 (xa_fr_t b2 c2) (xa_fr_m (xa_fr_t po.2.2 (xa_fr_m (xa_fr_t fr6 fr7) (xc_S_S (by omega)))) (xc_S_S (Nat.zero_le s)))
          have e : xp_L (xt_kd ts L) (xt_pl ts L) f lv (m + 1) p x = .inl g := by
            show (if _ then _ else _) = _
            rw [if_pos hl, hg]
          obtain ⟨p10, d1, d2, d3⟩ := xc_FL_lev fl10 hlv (fun _ => h2)
          obtain ⟨m', rfl⟩ : ∃ m', m = m' + 1 := ⟨m - 1, by omega⟩
          exact xc_l_exit (xc_CX_fr cx7 (xa_fr_t fl8.2.2.2 (xa_fr_t b2 c2)) (xc_S_tk hq)) d2 (by omega) hlv d3 (hF g e I10 fl10)
      · have hw2 := xt_pl_s w (i := p) (xp_lev_ne (by omega))
        have hpb2 := xt_pl_b w (i := p + 1)
        refine xa_t ((xa_llt 1 (by omega) (by omega)).mpr (by omega)) ?_
        unfold j_ps_chain_90
        refine xa_t rfl ?_
        unfold j_ps_chain_117
        rw [nI_1]
        refine hW (p + 1) _ I6 _ cx6 st6 (by omega) (by omega) (fun p' y hy I8 po8 => ?_) (fun g hg I8 fl8 => ?_)
        · have hly := hlen _ _ _ hy
          have cx8 := xc_CX_fr cx6 po8.2.2 (xc_S_tk hq)
          have hpb3 := xt_pl_b w (i := p')
          have po8' : xc_PO I0 I8 q s p' (x.1 ++ y.1) ok := by
            refine ⟨?_, ?_, xa_fr_t po.2.2 (xa_fr_t (xa_fr_m fr6 (xc_S_S (by omega))) (xa_fr_m po8.2.2 (xc_S_S (by omega))))⟩
            · have := po8.1; rw [List.length_append, ← Nat.add_assoc]; exact this
            · exact xc_CD_app (xc_CD_fr hq po.2.1 (xa_fr_t fr6 po8.2.2) (Nat.le_refl _)) po8.2.1
          refine ⟨q, hR, xc_sh hq, xc_cdadd (k := 7) hq po8'.1.2.2.2 (by rw [List.length_append]; omega) (fun I9 b0 b1 b2 b3 b4 bf => ?_)⟩
          have po9 := xc_PO_add hq po8' b0 b1 b2 b3 b4 bf
          refine xa_t rfl ?_
          have e : xp_L (xt_kd ts L) (xt_pl ts L) f lv (m + 1) p x = xp_L (xt_kd ts L) (xt_pl ts L) f lv m p' (xp_bin (xt_kd ts L p) x y (xt_pl ts L p)) := by
            show (if _ then _ else _) = _
            rw [if_pos hl, hy]; simp [h2, hlt]
          rw [e] at hK hF
          show l_ps_chain_34 _ _ _ _ _ _ _ (nI turn + 1) _ _
          rw [nI_1]
          refine ih (turn + 1) p' s (xp_bin (xt_kd ts L p) x y (xt_pl ts L p)) I0 _ K Q (by omega) (by omega) hly.2.1 (xc_CX_fr cx8 (xa_fr_m bf (xc_S1_S (Nat.le_refl _))) (xc_S_tk hq)) po9 ?_ hK hF
          simp [xp_bin]; omega
        · obtain ⟨s8, hs8, hs8'⟩ := fl8.2.2.1
          refine ⟨q, hR, xc_sh hq, xc_cdadd_any hq hs8' hs8 (fun v9 I9 b0 b1 b2 => ?_)⟩
          refine xa_t rfl ?_
          have fl10 := xc_FL_any (cm' := lv ≤ 2) fl8 (fun h => by omega) b1 b0 b2 (xa_fr_m (xa_fr_t po.2.2 (xa_fr_m fr6 (xc_S_S (by omega)))) (xc_S_S (Nat.zero_le s)))
          have e : xp_L (xt_kd ts L) (xt_pl ts L) f lv (m + 1) p x = .inl g := by
            show (if _ then _ else _) = _
            rw [if_pos hl, hg]
          obtain ⟨p10, d1, d2, d3⟩ := xc_FL_lev fl10 hlv (fun _ => h2)
          obtain ⟨m', rfl⟩ : ∃ m', m = m' + 1 := ⟨m - 1, by omega⟩
          exact xc_l_exit (xc_CX_fr cx6 (xa_fr_t fl8.2.2.2 b2) (xc_S_tk hq)) d2 (by omega) hlv d3 (hF g e I9 fl10)
    · have e : xp_L (xt_kd ts L) (xt_pl ts L) f lv (m + 1) p x = .inr (p, x) := by
        show (if _ then _ else _) = _
        rw [if_neg hl]
      exact xc_l_exit cx po.1.1 (by omega) hlv hl (hK p x e I po)
