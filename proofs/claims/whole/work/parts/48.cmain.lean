theorem xc_number {I : pI} {R : pR} {q L p : Nat} {ts : List (Nat × Nat × Nat × Nat)} {Q : Int32 → pI → pR → Prop} (cx : xc_CX I R q ts L) (hn : I 108 2 = nI p) (hk : xt_kd ts L p = 258) (h : Q (nI (xt_nm ts L p)) (pw_wI I 108 2 (nI (p + 1))) R) : w_ps_number I R Q := by
  have hp := xt_kd_lt cx.2.2.1 (i := p) (by omega)
  have hT := cx.2.2.1.2.1
  have hL := cx.2.2.1.1
  unfold w_ps_number
  rw [hn, xc_kindAt cx (by omega), hk]
  refine xa_t rfl ?_
  rw [hn, nI_1]
  refine xa_a ?_
  have cx2 := xc_CX_fr cx (xc_fr_now (q := q) (s := 0) (k := 2) (v := nI (p + 1))) (xc_S_tk cx.2.2.2.2)
  have e : (pw_wI I 108 2 (nI (p + 1))) 108 2 = nI (p + 1) := by rw [xa_w]; simp
  rw [e, nI_pred, xc_numberOf cx2 (by omega)]
  exact h
theorem xc_PO_old {I I10 I12 : pI} {q s p' pl : Nat} {c : List xp_I} (hq : q = 54 ∨ q = 81) (fr : xa_fr (xc_S q s) I I10)
    (h1 : I10 (q + 3) s = nI 5) (h2 : I10 (q + 4) s = nI 0) (h4 : I10 (q + 6) s = nI pl) (po : xc_PO I10 I12 q (s + 1) p' c false) :
    xc_PO I (pw_wI (pw_wI I12 108 4 1) (q + 5) s (nI (s + 1 + c.length))) q s p' ((5, 0, c.length + 1, pl) :: c) true := by
  obtain ⟨a2, b2, f2⟩ := po
  refine ⟨?_, ?_, xa_fr_t fr (xa_fr_t (xa_fr_m f2 (xc_S_S (by omega))) (xa_fr_t xc_fr_now (xc_fr_aim (Nat.le_refl _))))⟩
  · obtain ⟨e1, e2, e3, e4⟩ := a2
    refine ⟨?_, ?_, ?_, ?_⟩
    · rw [xa_w, if_neg (by omega), xa_w, if_neg (by omega)]; exact e1
    · rw [xa_w, if_neg (by omega), xa_w, if_neg (by omega)]; exact e2
    · rw [xa_w, if_neg (by omega), xa_w, if_pos (by omega)]; rfl
    · rw [xa_w, if_neg (by omega), xa_w, if_neg (by omega), e4]
      congr 1; simp; omega
  · have g : ∀ p, (p = q + 3 ∨ p = q + 4 ∨ p = q + 6) → (pw_wI (pw_wI I12 108 4 1) (q + 5) s (nI (s + 1 + c.length))) p s = I10 p s := by
      intro p hp
      rw [xa_w, if_neg (by omega), xa_w, if_neg (by omega)]
      exact f2 p _ (by simp only [xc_S, Bool.or_eq_false_iff, Bool.and_eq_false_iff, beq_eq_false_iff_ne, decide_eq_false_iff_not]; omega)
    have h5 : xc_CD (pw_wI (pw_wI I12 108 4 1) (q + 5) s (nI (s + 1 + c.length))) q s [(5, 0, c.length + 1, pl)] := by
      refine xc_CD_one ?_ ?_ ?_ ?_
      · rw [g _ (Or.inl rfl)]; exact h1
      · rw [g _ (Or.inr (Or.inl rfl))]; exact h2
      · rw [xa_w]; simp; congr 1; omega
      · rw [g _ (Or.inr (Or.inr rfl))]; exact h4
    have h6 := xc_CD_app h5 (d := c) (xc_CD_w (xc_CD_fr (s' := s + 1 + c.length) hq b2 xc_fr_now (Nat.le_refl _)) (Nat.lt_succ_self _))
    simpa using h6
theorem xc_FL_w {I I' : pI} {q L g : Nat} {ts : List (Nat × Nat × Nat × Nat)} {cm : Prop} {v : Int32} (hq : q = 54 ∨ q = 81) (fl : xc_FL I I' q ts L g cm) : xc_FL I (pw_wI I' 108 4 v) q ts L g cm := by
  obtain ⟨a, b, ⟨s, c1, c2⟩, d⟩ := fl
  refine ⟨a, ?_, ⟨s, c1, ?_⟩, xa_fr_t d xc_fr_now⟩
  · rw [xa_w, if_neg (by omega), xa_w, if_neg (by omega)]; exact b
  · rw [xa_w, if_neg (by omega)]; exact c2
theorem xc_FL_mk {I I' : pI} {q L p s : Nat} {ok : Bool} {ts : List (Nat × Nat × Nat × Nat)} {cm : Prop} (hq : q = 54 ∨ q = 81) (st : xc_ST I q p s ok) (hs : s ≤ 120) (hp : p ≤ ts.length) (a1 : I' 108 2 = nI ts.length) (a2 : I' 108 3 = nI (xt_pl ts L p)) (fr : xa_fr xc_S8 I I') : xc_FL I I' q ts L p cm := by
  refine ⟨hp, Or.inl ⟨a1, a2⟩, ⟨s, hs, ?_⟩, xa_fr_m fr xc_S8_S⟩
  rw [fr _ _ ?_]; exact st.2.2.2
  simp only [xc_S8, Bool.and_eq_false_iff, beq_eq_false_iff_ne]; left; omega
theorem xc_loop2 {R : pR} {q L dp : Nat} {ok : Bool} {ts : List (Nat × Nat × Nat × Nat)} {f : Nat → Nat ⊕ (Nat × xp_X)} {W : Nat → Int32 → Int32 → pI → pR → (pI → pR → Prop) → Prop}
    (hW : ∀ p s I (Q : pI → pR → Prop), xc_CX I R q ts L → xc_ST I q p s ok → p ≤ ts.length → s ≤ xt_pl ts L p → (∀ p' x, f p = .inr (p', x) → ∀ I', xc_PO I I' q s p' x.1 ok → Q I' R) → (∀ g, f p = .inl g → ∀ I', xc_FL I I' q ts L g False → Q I' R) → W 0 (nI 3) (nI dp) I R Q)
    (hlen : ∀ p p' x, f p = .inr (p', x) → p < p' ∧ p' ≤ ts.length ∧ x.1.length + xt_pl ts L p ≤ xt_pl ts L p')
    {p s : Nat} {x : xp_X} {I0 I : pI} {K Q : pI → pR → Prop} (h4 : p ≤ ts.length) (cx : xc_CX I R q ts L) (po : xc_PO I0 I q s p x.1 ok) (hs : s + x.1.length ≤ xt_pl ts L p)
    (hK : ∀ p' x', xp_L (xt_kd ts L) (xt_pl ts L) f 2 121 p x = .inr (p', x') → ∀ I', xc_PO I0 I' q s p' x'.1 ok → K I' R)
    (hF : ∀ g, xp_L (xt_kd ts L) (xt_pl ts L) f 2 121 p x = .inl g → ∀ I', xc_FL I0 I' q ts L g True → K I' R) : l_ps_chain_34 W (nI 2) (nI dp) 1 K Q 2 (nI 0) I R := by
  have w := cx.2.2.1
  have hT := w.2.1
  have hL := w.1
  have hq := cx.2.2.2.2
  have hR := cx.2.2.2.1
  have hkb := xt_kd_b w (i := p)
  have hpb := xt_pl_b w (i := p)
  by_cases hl : xp_lev (xt_kd ts L p) = 2
  · have hpT : p < ts.length := xt_kd_lt w (xp_lev_ne (by omega))
    unfold l_ps_chain_34
    refine xa_f (by decide) ?_
    rw [xc_next cx po.1.1 (by omega), xc_levelOf (by omega)]
    refine xa_t' ((xc_lev_eq (by omega)).mpr hl) ?_
    rw [xc_next cx po.1.1 (by omega), po.1.1, xc_placeOf cx (by omega), po.1.1, nI_1]
    refine xa_a ?_
    have st6 := xc_ST_now (p' := p + 1) hq po.1
    have fr6 : xa_fr (xc_S q (s + x.1.length)) I (pw_wI I 108 2 (nI (p + 1))) := xc_fr_now
    have cx6 := xc_CX_fr cx fr6 (xc_S_tk hq)
    generalize pw_wI I 108 2 (nI (p + 1)) = I6 at st6 fr6 cx6 ⊢
    have hw2 := xt_pl_s w (i := p) (xp_lev_ne (by omega))
    have hpb2 := xt_pl_b w (i := p + 1)
    refine xa_t (by decide) ?_
    unfold j_ps_chain_90
    refine xa_t rfl ?_
    unfold j_ps_chain_117
    rw [nI_1]
    refine hW (p + 1) _ I6 _ cx6 st6 (by omega) (by omega) (fun p' y hy I8 po8 => ?_) (fun g hg I8 fl8 => ?_)
    · have hly := hlen _ _ _ hy
      have cx8 := xc_CX_fr cx6 po8.2.2 (xc_S_tk hq)
      have hpb3 := xt_pl_b w (i := p')
      have po8' : xc_PO I0 I8 q s p' (x.1 ++ y.1) ok := by
        refine ⟨?_, ?_, xa_fr_t po.2.2 (xa_fr_t (xa_fr_m fr6 (xc_S_S (by omega))) (xa_fr_m po8.2.2 (xc_S_S (by omega))))⟩
        · have := po8.1; rw [List.length_append, ← Nat.add_assoc]; exact this
        · exact xc_CD_app (xc_CD_fr hq po.2.1 (xa_fr_t fr6 po8.2.2) (Nat.le_refl _)) po8.2.1
      refine ⟨q, hR, xc_sh hq, xc_cdadd (k := 7) hq po8'.1.2.2.2 (by rw [List.length_append]; omega) (fun I9 b0 b1 b2 b3 b4 bf => ?_)⟩
      have po9 := xc_PO_add hq po8' b0 b1 b2 b3 b4 bf
      refine xa_t rfl ?_
      unfold l_ps_chain_34
      refine xa_t (by decide) ?_
      by_cases hl2 : xp_lev (xt_kd ts L p') = 2
      · have e : xp_L (xt_kd ts L) (xt_pl ts L) f 2 121 p x = .inl p' := by
          show (if _ then _ else _) = _
          rw [if_pos hl, hy]; simp [hl2]
        refine hF p' e I9 ⟨hly.2.1, Or.inr ⟨trivial, po9.1.1, po9.1.2.1, hl2⟩, ⟨_, ?_, po9.1.2.2.2⟩, xa_fr_m po9.2.2 (xc_S_S (Nat.zero_le _))⟩
        simp; omega
      · have e : xp_L (xt_kd ts L) (xt_pl ts L) f 2 121 p x = .inr (p', xp_bin (xt_kd ts L p) x y (xt_pl ts L p)) := by
          show (if _ then _ else _) = _
          rw [if_pos hl, hy]; simp [hl2]
        exact hK _ _ e I9 po9
    · obtain ⟨s8, hs8, hs8'⟩ := fl8.2.2.1
      refine ⟨q, hR, xc_sh hq, xc_cdadd_any hq hs8' hs8 (fun v9 I9 b0 b1 b2 => ?_)⟩
      refine xa_t rfl ?_
      have fl10 := xc_FL_any (cm' := True) fl8 (fun h => trivial) b1 b0 b2 (xa_fr_m (xa_fr_t po.2.2 (xa_fr_m fr6 (xc_S_S (by omega)))) (xc_S_S (Nat.zero_le s)))
      have e : xp_L (xt_kd ts L) (xt_pl ts L) f 2 121 p x = .inl g := by
        show (if _ then _ else _) = _
        rw [if_pos hl, hg]
      unfold l_ps_chain_34
      exact xa_t (by decide) (hF g e I9 fl10)
  · have e : xp_L (xt_kd ts L) (xt_pl ts L) f 2 121 p x = .inr (p, x) := by
      show (if _ then _ else _) = _
      rw [if_neg hl]
    exact xc_l_exit cx po.1.1 (by omega) (by decide) hl (hK p x e I po)
set_option maxHeartbeats 2000000 in
theorem xc_pg {R : pR} {q L : Nat} {ts : List (Nat × Nat × Nat × Nat)} : ∀ n k lv dp ok p s I (Q : pI → pR → Prop) (a b : Int32), k ≤ 3 → lv ≤ 5 → dp ≤ 4 → xc_mu k lv dp ≤ n → (k = 0 → a = nI lv ∧ b = nI dp) → (k ≠ 0 → a = nI dp) → xc_CX I R q ts L → xc_ST I q p s ok → p ≤ ts.length → s ≤ xt_pl ts L p →
    (∀ p' x, xp_P (xt_kd ts L) (xt_nm ts L) (xt_pl ts L) n k lv dp ok p = .inr (p', x) → ∀ I', xc_PO I I' q s p' x.1 ok → Q I' R) →
    (∀ g, xp_P (xt_kd ts L) (xt_nm ts L) (xt_pl ts L) n k lv dp ok p = .inl g → ∀ I', xc_FL I I' q ts L g (k = 0 ∧ lv ≤ 2) → Q I' R) → w_pg n k a b I R Q := by
  intro n; induction n with
  | zero => intro k lv dp ok p s I Q a b _ _ _ h; unfold xc_mu at h; split at h <;> (try split at h) <;> (try split at h) <;> omega
  | succ n ih =>
    intro k lv dp ok p s I Q a b hk hlv hdp hmu ha hb cx st hp hs hK hF
    have w := cx.2.2.1
    have hT := w.2.1
    have hL := w.1
    have hq := cx.2.2.2.2
    have hR := cx.2.2.2.1
    have hkb := xt_kd_b w (i := p)
    have hpb := xt_pl_b w (i := p)
    rcases (show k = 0 ∨ k = 1 ∨ k = 2 ∨ k = 3 by omega) with rfl | rfl | rfl | rfl
    · obtain ⟨rfl, rfl⟩ := ha rfl
      show v_ps_chain (w_pg n) _ _ I R Q
      unfold v_ps_chain
      by_cases h4 : lv ≤ 4
      · have e1 : ∀ z, xp_P (xt_kd ts L) (xt_nm ts L) (xt_pl ts L) n 0 (lv + 1) dp ok p = .inr z → xp_P (xt_kd ts L) (xt_nm ts L) (xt_pl ts L) (n + 1) 0 lv dp ok p = xp_L (xt_kd ts L) (xt_pl ts L) (fun q => xp_P (xt_kd ts L) (xt_nm ts L) (xt_pl ts L) n 0 (lv + 1) dp ok q) lv 121 z.1 z.2 := by
          intro z hz
          show (if _ then _ else _) = _
          rw [if_pos rfl, if_neg (by omega), hz]
        have e2 : ∀ g, xp_P (xt_kd ts L) (xt_nm ts L) (xt_pl ts L) n 0 (lv + 1) dp ok p = .inl g → xp_P (xt_kd ts L) (xt_nm ts L) (xt_pl ts L) (n + 1) 0 lv dp ok p = .inl g := by
          intro z hz
          show (if _ then _ else _) = _
          rw [if_pos rfl, if_neg (by omega), hz]
        have hlen : ∀ p p' x, xp_P (xt_kd ts L) (xt_nm ts L) (xt_pl ts L) n 0 (lv + 1) dp ok p = .inr (p', x) → p < p' ∧ p' ≤ ts.length ∧ x.1.length + xt_pl ts L p ≤ xt_pl ts L p' := fun p p' x h => by
          have := xp_len w (by omega) (by omega) h
          exact ⟨this.1, this.2.1, this.2.2.1⟩
        have hmu1 : xc_mu 0 (lv + 1) dp ≤ n := by unfold xc_mu at hmu ⊢; simp at hmu ⊢; omega
        refine xa_t ((xa_lel 4 (by omega) (by omega)).mpr h4) ?_
        refine ih 0 (lv + 1) dp ok p s I _ _ _ (by omega) (by omega) hdp hmu1 (fun _ => ⟨nI_1 lv, rfl⟩) (fun h => absurd rfl h) cx st hp hs (fun p1 x1 hx I1 po => ?_) (fun g hg I1 fl => ?_)
        · have hl1 := hlen _ _ _ hx
          have cx1 := xc_CX_fr cx po.2.2 (xc_S_tk hq)
          have e1' := e1 _ hx
          refine ⟨fun hne => ?_, fun heq => ?_⟩
          · have h2 : lv ≠ 2 := fun e => hne (xa_e 2 e)
            refine ⟨121, xc_loop (f := fun q => xp_P (xt_kd ts L) (xt_nm ts L) (xt_pl ts L) n 0 (lv + 1) dp ok q) h4 h2 (fun p s I Q a1 a2 a3 a4 a5 a6 => ?_) hlen 121 0 p1 s x1 I I1 _ Q (by omega) (by omega) hl1.2.1 cx1 po (by omega) (fun p' x' h => hK p' x' (e1'.trans h)) (fun g h I' fl => hF g (e1'.trans h) I' ?_)⟩
            · exact ih 0 (lv + 1) dp ok p s I Q _ _ (by omega) (by omega) hdp hmu1 (fun _ => ⟨rfl, rfl⟩) (fun h => absurd rfl h) a1 a2 a3 a4 a5 (fun g hg I' fl => a6 g hg I' (xc_FL_any fl (fun h => h.2) rfl fl.2.2.1 (xa_fr_r _ _) (xa_fr_r _ _)))
            · exact xc_FL_any fl (fun h => ⟨rfl, h⟩) rfl fl.2.2.1 (xa_fr_r _ _) (xa_fr_r _ _)
          · have h2 : lv = 2 := (xa_eql 2 (by omega) (by omega)).mp heq
            subst h2
            refine ⟨2, xc_loop2 (f := fun q => xp_P (xt_kd ts L) (xt_nm ts L) (xt_pl ts L) n 0 3 dp ok q) (fun p s I Q a1 a2 a3 a4 a5 a6 => ?_) hlen hl1.2.1 cx1 po (by omega) (fun p' x' h => hK p' x' (e1'.trans h)) (fun g h I' fl => hF g (e1'.trans h) I' ?_)⟩
            · exact ih 0 3 dp ok p s I Q _ _ (by omega) (by omega) hdp hmu1 (fun _ => ⟨rfl, rfl⟩) (fun h => absurd rfl h) a1 a2 a3 a4 a5 (fun g hg I' fl => a6 g hg I' (xc_FL_any fl (fun h => by omega) rfl fl.2.2.1 (xa_fr_r _ _) (xa_fr_r _ _)))
            · exact xc_FL_any fl (fun h => ⟨rfl, by omega⟩) rfl fl.2.2.1 (xa_fr_r _ _) (xa_fr_r _ _)
        · have fl' : xc_FL I I1 q ts L g (0 = 0 ∧ lv ≤ 2) := xc_FL_any fl (fun h => ⟨rfl, by omega⟩) rfl fl.2.2.1 (xa_fr_r _ _) (xa_fr_r _ _)
          have cx1 := xc_CX_fr cx fl.2.2.2 (xc_S_tk hq)
          obtain ⟨p10, d1, d2, d3⟩ := xc_FL_lev fl h4 (fun h => by omega)
          have hQ := hF g (e2 g hg) I1 fl'
          exact ⟨fun _ => ⟨1, xc_l_exit cx1 d2 (by omega) h4 d3 hQ⟩, fun _ => ⟨1, xc_l_exit cx1 d2 (by omega) h4 d3 hQ⟩⟩
      · refine xa_f (fun h => h4 ((xa_lel 4 (by omega) (by omega)).mp h)) ?_
        have e1 : xp_P (xt_kd ts L) (xt_nm ts L) (xt_pl ts L) (n + 1) 0 lv dp ok p = xp_P (xt_kd ts L) (xt_nm ts L) (xt_pl ts L) n 1 0 dp ok p := by
          show (if _ then _ else _) = _
          rw [if_pos rfl, if_pos (by omega)]
        refine ih 1 0 dp ok p s I _ _ _ (by omega) (by omega) hdp (by unfold xc_mu at hmu ⊢; simp at hmu ⊢; omega) (fun h => by omega) (fun _ => rfl) cx st hp hs (fun p' x h => hK p' x (e1.trans h)) (fun g h I' fl => hF g (e1.trans h) I' ?_)
        exact xc_FL_any fl (fun h => by omega) rfl fl.2.2.1 (xa_fr_r _ _) (xa_fr_r _ _)
    · have ha' := hb (by decide); subst ha'
      show v_ps_unary (w_pg n) _ I R Q
      unfold v_ps_unary
      rw [xc_next cx st.1 (by omega)]
      by_cases hsg : xt_kd ts L p = 45 ∨ xt_kd ts L p = 33
      · have hgo : j_ps_unary_25 (w_pg n) Q (nI dp) (nI (xt_kd ts L p)) I R := by
          unfold j_ps_unary_25
          by_cases h4 : dp < 4
          · refine xa_t ((xa_ltl 4 (by omega) (by omega)).mpr h4) ?_
            rw [st.1, xc_placeOf cx (by omega), st.1, nI_1]
            refine xa_a ?_
            have st3 := xc_ST_now (p' := p + 1) hq st
            have fr3 : xa_fr (xc_S q s) I (pw_wI I 108 2 (nI (p + 1))) := xc_fr_now
            have cx3 := xc_CX_fr cx fr3 (xc_S_tk hq)
            generalize pw_wI I 108 2 (nI (p + 1)) = I3 at st3 fr3 cx3 ⊢
            have hw2 := xt_pl_s w (i := p) (by omega)
            have hpT := xt_kd_lt w (i := p) (by omega)
            rw [nI_1]
            refine ih 1 0 (dp + 1) ok (p + 1) s I3 _ _ _ (by omega) (by omega) (by omega) (by unfold xc_mu at hmu ⊢; simp at hmu ⊢; omega) (fun h => by omega) (fun _ => rfl) cx3 st3 (by omega) (by omega) (fun p' x hx I4 po => ?_) (fun g hg I4 fl => ?_)
            · have hl1 := xp_len w (by omega) (by omega) hx
              have hpb3 := xt_pl_b w (i := p')
              have po' : xc_PO I I4 q s p' x.1 ok := ⟨po.1, po.2.1, xa_fr_t fr3 po.2.2⟩
              refine ⟨q, hR, xc_sh hq, fun h45 => ?_, fun h45 => ?_⟩
              · have h45' : xt_kd ts L p ≠ 45 := fun e => h45 (xa_e 45 e)
                refine xc_cdadd (k := 3) (d := 0) hq po'.1.2.2.2 (by omega) (fun I5 b0 b1 b2 b3 b4 bf => ?_)
                refine hK p' (xp_not x (xt_pl ts L p)) ?_ I5 (xc_PO_add hq po' b0 b1 b2 b3 b4 bf)
                show (if _ then _ else _) = _
                rw [if_neg (by decide), if_pos rfl, if_pos hsg, if_neg (by omega), hx]
                simp [h45']
              · have h45' : xt_kd ts L p = 45 := (xa_eql 45 (by omega) (by omega)).mp h45
                refine xc_cdadd (k := 2) (d := 0) hq po'.1.2.2.2 (by omega) (fun I5 b0 b1 b2 b3 b4 bf => ?_)
                refine hK p' (xp_neg x (xt_pl ts L p)) ?_ I5 (xc_PO_add hq po' b0 b1 b2 b3 b4 bf)
                show (if _ then _ else _) = _
                rw [if_neg (by decide), if_pos rfl, if_pos hsg, if_neg (by omega), hx]
                simp [h45']
            · obtain ⟨s8, hs8, hs8'⟩ := fl.2.2.1
              have e : xp_P (xt_kd ts L) (xt_nm ts L) (xt_pl ts L) (n + 1) 1 lv dp ok p = .inl g := by
                show (if _ then _ else _) = _
                rw [if_neg (by decide), if_pos rfl, if_pos hsg, if_neg (by omega), hg]
              have fin : ∀ (v : Int32) I5, (∃ s', s' ≤ 120 ∧ I5 (q + 2) 4 = nI s') → I5 108 = I4 108 → xa_fr (xc_S q 0) I4 I5 → Q I5 R := fun v I5 b0 b1 b2 =>
                hF g e I5 (xc_FL_any fl (fun h => by omega) b1 b0 b2 (xa_fr_m fr3 (xc_S_S (Nat.zero_le s))))
              exact ⟨q, hR, xc_sh hq, fun _ => xc_cdadd_any hq hs8' hs8 fin, fun _ => xc_cdadd_any hq hs8' hs8 fin⟩
          · refine xa_f (fun h => h4 ((xa_ltl 4 (by omega) (by omega)).mp h)) ?_
            refine xc_fail1 cx st.1 hp st.2.1 (fun I' a1 a2 a3 => hF p ?_ I' (xc_FL_mk hq st (by omega) hp a1 a2 a3))
            show (if _ then _ else _) = _
            rw [if_neg (by decide), if_pos rfl, if_pos hsg, if_pos (by omega)]
        by_cases h45 : xt_kd ts L p = 45
        · exact xa_t (xa_e 45 h45) hgo
        · exact xa_f (xa_ne 45 (by omega)) (xa_t (xa_e 33 (hsg.resolve_left h45)) hgo)
      · refine xa_f (xa_ne 45 (by omega)) (xa_f (xa_ne 33 (by omega)) ?_)
        have e1 : xp_P (xt_kd ts L) (xt_nm ts L) (xt_pl ts L) (n + 1) 1 lv dp ok p = xp_P (xt_kd ts L) (xt_nm ts L) (xt_pl ts L) n 2 0 dp ok p := by
          show (if _ then _ else _) = _
          rw [if_neg (by decide), if_pos rfl, if_neg hsg]
        refine ih 2 0 dp ok p s I _ _ _ (by omega) (by omega) hdp (by unfold xc_mu at hmu ⊢; simp at hmu ⊢; omega) (fun h => by omega) (fun _ => rfl) cx st hp hs (fun p' x h => hK p' x (e1.trans h)) (fun g h I' fl => hF g (e1.trans h) I' ?_)
        exact xc_FL_any fl (fun h => by omega) rfl fl.2.2.1 (xa_fr_r _ _) (xa_fr_r _ _)
    · have ha' := hb (by decide); subst ha'
      show v_ps_atom (w_pg n) _ I R Q
      unfold v_ps_atom
      rw [st.1, xc_placeOf cx (by omega), xc_next cx st.1 (by omega)]
      by_cases c1 : xt_kd ts L p = 258
      · have hw2 := xt_pl_s w (i := p) (by omega)
        have hpb2 := xt_pl_b w (i := p + 1)
        refine xa_t' (xa_e 258 c1) ⟨q, hR, xc_sh hq, ?_⟩
        refine xc_number cx st.1 c1 ?_
        have st3 := xc_ST_now (p' := p + 1) hq st
        have fr3 : xa_fr (xc_S q s) I (pw_wI I 108 2 (nI (p + 1))) := xc_fr_now
        generalize pw_wI I 108 2 (nI (p + 1)) = I3 at st3 fr3 ⊢
        refine xc_cdadd (k := 0) hq st3.2.2.2 (by omega) (fun I5 b0 b1 b2 b3 b4 bf => ?_)
        refine hK (p + 1) (xp_num (xt_nm ts L p) (xt_pl ts L p)) ?_ I5 ?_
        · show (if _ then _ else _) = _
          rw [if_neg (by decide), if_neg (by decide), if_pos rfl, if_pos c1]
        · exact xc_PO_add (c := []) hq ⟨st3, xc_CD_nil, fr3⟩ b0 b1 b2 b3 b4 bf
      refine xa_f' (xa_ne 258 (by omega)) ?_
      by_cases c2 : xt_kd ts L p = 259
      · have hw2 := xt_pl_s w (i := p) (by omega)
        have hpb2 := xt_pl_b w (i := p + 1)
        refine xa_t' (xa_e 259 c2) ⟨q, hR, xc_sh hq, ?_⟩
        rw [st.1, xc_numberOf cx (by omega)]
        refine xc_cdadd (k := 1) hq st.2.2.2 (by omega) (fun I5 b0 b1 b2 b3 b4 bf => ?_)
        have po := xc_PO_add (c := []) hq ⟨st, xc_CD_nil, xa_fr_r _ _⟩ b0 b1 b2 b3 b4 bf
        rw [po.1.1, nI_1]
        refine xa_a (hK (p + 1) (xp_var (xt_nm ts L p) (xt_pl ts L p)) ?_ _ ?_)
        · show (if _ then _ else _) = _
          rw [if_neg (by decide), if_neg (by decide), if_pos rfl, if_neg c1, if_pos c2]
        · exact ⟨xc_ST_now hq po.1, xc_CD_fr hq po.2.1 xc_fr_now (Nat.le_refl _), xa_fr_t po.2.2 xc_fr_now⟩
      refine xa_f' (xa_ne 259 (by omega)) ?_
      by_cases c3 : xt_kd ts L p = 77 ∨ xt_kd ts L p = 78
      · have hgo : j_ps_atom_100 (w_pg n) Q (nI dp) (nI (xt_pl ts L p)) (nI (xt_kd ts L p)) I R := by
          unfold j_ps_atom_100
          rw [st.1, nI_1]
          refine xa_a ?_
          have st3 := xc_ST_now (p' := p + 1) hq st
          have fr3 : xa_fr (xc_S q s) I (pw_wI I 108 2 (nI (p + 1))) := xc_fr_now
          have cx3 := xc_CX_fr cx fr3 (xc_S_tk hq)
          generalize pw_wI I 108 2 (nI (p + 1)) = I3 at st3 fr3 cx3 ⊢
          have hw2 := xt_pl_s w (i := p) (by omega)
          have hpT := xt_kd_lt w (i := p) (by omega)
          refine ih 3 0 dp ok (p + 1) s I3 _ _ _ (by omega) (by omega) (by omega) (by unfold xc_mu at hmu ⊢; simp at hmu ⊢; omega) (fun h => by omega) (fun _ => rfl) cx3 st3 (by omega) (by omega) (fun p' x hx I4 po => ?_) (fun g hg I4 fl => ?_)
          · have hl1 := xp_len w (by omega) (by omega) hx
            have hpb3 := xt_pl_b w (i := p')
            have po' : xc_PO I I4 q s p' x.1 ok := ⟨po.1, po.2.1, xa_fr_t fr3 po.2.2⟩
            have e : xp_P (xt_kd ts L) (xt_nm ts L) (xt_pl ts L) (n + 1) 2 lv dp ok p = .inr (p', xp_call (if xt_kd ts L p = 78 then 1 else 0) x (xt_pl ts L p)) := by
              show (if _ then _ else _) = _
              rw [if_neg (by decide), if_neg (by decide), if_pos rfl, if_neg c1, if_neg c2, if_pos c3, hx]
            refine ⟨q, hR, xc_sh hq, fun h45 => ?_, fun h45 => ?_⟩
            · have h45' : xt_kd ts L p ≠ 78 := fun e => h45 (xa_e 78 e)
              rw [if_neg h45'] at e
              exact xc_cdadd (k := 4) (d := 0) hq po'.1.2.2.2 (by omega) (fun I5 b0 b1 b2 b3 b4 bf => hK _ _ e I5 (xc_PO_add hq po' b0 b1 b2 b3 b4 bf))
            · have h45' : xt_kd ts L p = 78 := (xa_eql 78 (by omega) (by omega)).mp h45
              rw [if_pos h45'] at e
              exact xc_cdadd (k := 4) (d := 1) hq po'.1.2.2.2 (by omega) (fun I5 b0 b1 b2 b3 b4 bf => hK _ _ e I5 (xc_PO_add hq po' b0 b1 b2 b3 b4 bf))
          · obtain ⟨s8, hs8, hs8'⟩ := fl.2.2.1
            have e : xp_P (xt_kd ts L) (xt_nm ts L) (xt_pl ts L) (n + 1) 2 lv dp ok p = .inl g := by
              show (if _ then _ else _) = _
              rw [if_neg (by decide), if_neg (by decide), if_pos rfl, if_neg c1, if_neg c2, if_pos c3, hg]
            have fin : ∀ (v : Int32) I5, (∃ s', s' ≤ 120 ∧ I5 (q + 2) 4 = nI s') → I5 108 = I4 108 → xa_fr (xc_S q 0) I4 I5 → Q I5 R := fun v I5 b0 b1 b2 =>
              hF g e I5 (xc_FL_any fl (fun h => by omega) b1 b0 b2 (xa_fr_m fr3 (xc_S_S (Nat.zero_le s))))
            exact ⟨q, hR, xc_sh hq, fun _ => xc_cdadd_any hq hs8' hs8 fin, fun _ => xc_cdadd_any hq hs8' hs8 fin⟩
        by_cases h77 : xt_kd ts L p = 77
        · exact xa_t (xa_e 77 h77) hgo
        · exact xa_f (xa_ne 77 (by omega)) (xa_t' (xa_e 78 (c3.resolve_left h77)) hgo)
      refine xa_f (xa_ne 77 (by omega)) (xa_f' (xa_ne 78 (by omega)) ?_)
      have hgrp : ¬ (xt_kd ts L p = 79 ∧ ok = true) → w_pg n 3 (nI dp) 0 I R Q := by
        intro c4
        have e1 : xp_P (xt_kd ts L) (xt_nm ts L) (xt_pl ts L) (n + 1) 2 lv dp ok p = xp_P (xt_kd ts L) (xt_nm ts L) (xt_pl ts L) n 3 0 dp ok p := by
          show (if _ then _ else _) = _
          rw [if_neg (by decide), if_neg (by decide), if_pos rfl, if_neg c1, if_neg c2, if_neg c3, if_neg c4]
        refine ih 3 0 dp ok p s I _ _ _ (by omega) (by omega) hdp (by unfold xc_mu at hmu ⊢; simp at hmu ⊢; omega) (fun h => by omega) (fun _ => rfl) cx st hp hs (fun p' x h => hK p' x (e1.trans h)) (fun g h I' fl => hF g (e1.trans h) I' ?_)
        exact xc_FL_any fl (fun h => by omega) rfl fl.2.2.1 (xa_fr_r _ _) (xa_fr_r _ _)
      by_cases c4 : xt_kd ts L p = 79
      · refine xa_t' (xa_e 79 c4) ?_
        cases ok with
        | false => exact xa_t (by rw [st.2.2.1]; rfl) (hgrp (by simp))
        | true =>
          refine xa_f (by rw [st.2.2.1]; decide) ?_
          rw [st.1, nI_1]
          refine xa_a ?_
          have st3 := xc_ST_now (p' := p + 1) hq st
          have fr3 : xa_fr (xc_S q s) I (pw_wI I 108 2 (nI (p + 1))) := xc_fr_now
          have cx3 := xc_CX_fr cx fr3 (xc_S_tk hq)
          generalize pw_wI I 108 2 (nI (p + 1)) = I3 at st3 fr3 cx3 ⊢
          have hw2 := xt_pl_s w (i := p) (by omega)
          have hpT := xt_kd_lt w (i := p) (by omega)
          have hpb2 := xt_pl_b w (i := p + 1)
          refine ⟨q, hR, xc_sh hq, xc_cdadd (k := 5) (d := 0) hq st3.2.2.2 (by omega) (fun I4 b0 b1 b2 b3 b4 bf => ?_)⟩
          have st4 := xc_ST_S1 hq st3 bf b0
          have fr4 := xa_fr_t fr3 (xa_fr_m bf (xc_S1_S (Nat.le_refl s)))
          have cx4 := xc_CX_fr cx fr4 (xc_S_tk hq)
          refine xa_a ?_
          have st5 : xc_ST (pw_wI I4 108 4 0) q (p + 1) (s + 1) false := by
            obtain ⟨e1, e2, e3, e4⟩ := st4
            refine ⟨by rw [xa_w, if_neg (by omega)]; exact e1, by rw [xa_w, if_neg (by omega)]; exact e2, by rw [xa_w]; simp, by rw [xa_w, if_neg (by omega)]; exact e4⟩
          have fr5 : xa_fr (xc_S q s) I (pw_wI I4 108 4 0) := xa_fr_t fr4 xc_fr_now
          have cx5 := xc_CX_fr cx fr5 (xc_S_tk hq)
          have g1 : (pw_wI I4 108 4 0) (q + 3) s = nI 5 := by rw [xa_w, if_neg (by omega)]; exact b1
          have g2 : (pw_wI I4 108 4 0) (q + 4) s = nI 0 := by rw [xa_w, if_neg (by omega)]; exact b2
          have g4 : (pw_wI I4 108 4 0) (q + 6) s = nI (xt_pl ts L p) := by rw [xa_w, if_neg (by omega)]; exact b4
          generalize pw_wI I4 108 4 0 = I5 at st5 fr5 cx5 g1 g2 g4 ⊢
          refine ih 3 0 dp false (p + 1) (s + 1) I5 _ _ _ (by omega) (by omega) (by omega) (by unfold xc_mu at hmu ⊢; simp at hmu ⊢; omega) (fun h => by omega) (fun _ => rfl) cx5 st5 (by omega) (by omega) (fun p' x hx I6 po => ?_) (fun g hg I6 fl => ?_)
          · have hl1 := xp_len w (by omega) (by omega) hx
            have hpb3 := xt_pl_b w (i := p')
            refine xa_a ⟨q, hR, xc_sh hq, ?_⟩
            refine xc_cdaim (s := s + 1 + x.1.length) ?_ (by omega) ?_ ?_
            · rw [xa_w, if_neg (by omega)]; exact po.1.2.2.2
            · have := hl1.1; have : 0 < x.1.length := ?_
              · omega
              · have hx3 := xp_ind (kd := xt_kd ts L) (nm := xt_nm ts L) (pl := xt_pl ts L) (fun _ _ _ _ _ x => 0 < x.1.length) (by intros; simp [xp_num]) (by intros; simp [xp_var]) (by intros; simp [xp_neg]) (by intros; simp [xp_not]) (by intros; assumption) (by intros; simp [xp_call]) (by intros; simp [xp_old]) (by intros; assumption) (by intros; simp [xp_bin]; omega) (by intros; simp [xp_lg]; omega) n 3 0 dp false (p + 1) p' x (by omega) hx
                obtain ⟨_, _, q9, _, _, h9⟩ := hx3.2.2 rfl
                exact h9
            · refine hK p' (xp_old x (xt_pl ts L p)) ?_ _ (xc_PO_old hq fr5 g1 g2 g4 po)
              show (if _ then _ else _) = _
              rw [if_neg (by decide), if_neg (by decide), if_pos rfl, if_neg c1, if_neg c2, if_neg c3, if_pos ⟨c4, rfl⟩, hx]
          · have e : xp_P (xt_kd ts L) (xt_nm ts L) (xt_pl ts L) (n + 1) 2 lv dp true p = .inl g := by
              show (if _ then _ else _) = _
              rw [if_neg (by decide), if_neg (by decide), if_pos rfl, if_neg c1, if_neg c2, if_neg c3, if_pos ⟨c4, rfl⟩, hg]
            refine xa_a ⟨q, hR, xc_sh hq, ?_⟩
            have fl' := xc_FL_w (v := 1) hq fl
            obtain ⟨s8, hs8, hs8'⟩ := fl'.2.2.1
            exact xc_cdaim_any hq hs8' hs8 (fun I8 d0 d1 d2 => hF g e I8 (xc_FL_any fl' (fun h => by omega) d1 d0 d2 (xa_fr_m fr5 (xc_S_S (Nat.zero_le s)))))
      · exact xa_f' (xa_ne 79 (by omega)) (hgrp (fun h => c4 h.1))
    · have ha' := hb (by decide); subst ha'
      show v_ps_group (w_pg n) _ I R Q
      unfold v_ps_group
      rw [xc_next cx st.1 (by omega)]
      by_cases c1 : xt_kd ts L p = 40
      · refine xa_t' (xa_e 40 c1) ?_
        by_cases h4 : dp < 4
        · refine xa_t ((xa_ltl 4 (by omega) (by omega)).mpr h4) ?_
          rw [st.1, nI_1, nI_1]
          refine xa_a ?_
          have st3 := xc_ST_now (p' := p + 1) hq st
          have fr3 : xa_fr (xc_S q s) I (pw_wI I 108 2 (nI (p + 1))) := xc_fr_now
          have cx3 := xc_CX_fr cx fr3 (xc_S_tk hq)
          generalize pw_wI I 108 2 (nI (p + 1)) = I3 at st3 fr3 cx3 ⊢
          have hw2 := xt_pl_s w (i := p) (by omega)
          have hpT := xt_kd_lt w (i := p) (by omega)
          refine ih 0 0 (dp + 1) ok (p + 1) s I3 _ _ _ (by omega) (by omega) (by omega) (by unfold xc_mu at hmu ⊢; simp at hmu ⊢; omega) (fun _ => ⟨rfl, rfl⟩) (fun h => absurd rfl h) cx3 st3 (by omega) (by omega) (fun p' x hx I4 po => ?_) (fun g hg I4 fl => ?_)
          · have hl1 := xp_len w (by omega) (by omega) hx
            have hpb3 := xt_pl_b w (i := p')
            have hkb3 := xt_kd_b w (i := p')
            have cx4 := xc_CX_fr cx3 po.2.2 (xc_S_tk hq)
            unfold w_ps_need
            rw [po.1.1, xc_kindAt cx4 (by omega)]
            by_cases c41 : xt_kd ts L p' = 41
            · refine xa_t (xa_e 41 c41) ?_
              rw [po.1.1, nI_1]
              refine xa_a (hK (p' + 1) x ?_ _ ⟨xc_ST_now hq po.1, xc_CD_fr hq po.2.1 xc_fr_now (Nat.le_refl _), xa_fr_t (xa_fr_t fr3 po.2.2) xc_fr_now⟩)
              show (if _ then _ else _) = _
              rw [if_neg (by decide), if_neg (by decide), if_neg (by decide), if_neg (by omega), hx]
              simp [c41]
            · refine xa_f (xa_ne 41 (by omega)) ?_
              refine xc_fail1 cx4 po.1.1 (by omega) po.1.2.1 (fun I' a1 a2 a3 => hF p' ?_ I' ?_)
              · show (if _ then _ else _) = _
                rw [if_neg (by decide), if_neg (by decide), if_neg (by decide), if_neg (by omega), hx]
                simp [c41]
              · exact xc_FL_any (xc_FL_mk (cm := 3 = 0 ∧ lv ≤ 2) hq po.1 (by omega) (by omega) a1 a2 a3) id rfl (xc_FL_mk (cm := True) (L := L) hq po.1 (by omega) hl1.2.1 a1 a2 a3).2.2.1 (xa_fr_r _ _) (xa_fr_m (xa_fr_t fr3 po.2.2) (xc_S_S (Nat.zero_le s)))
          · have cx4 := xc_CX_fr cx3 fl.2.2.2 (xc_S_tk hq)
            refine xc_need_stk (k := 41) cx4 fl (by decide) (fun I5 fl5 _ => hF g ?_ I5 ?_)
            · show (if _ then _ else _) = _
              rw [if_neg (by decide), if_neg (by decide), if_neg (by decide), if_neg (by omega), hg]
            · exact xc_FL_any fl5 (fun h => h.elim) rfl fl5.2.2.1 (xa_fr_r _ _) (xa_fr_m fr3 (xc_S_S (Nat.zero_le s)))
        · refine xa_f (fun h => h4 ((xa_ltl 4 (by omega) (by omega)).mp h)) ?_
          refine xc_fail1 cx st.1 hp st.2.1 (fun I' a1 a2 a3 => hF p ?_ I' (xc_FL_mk hq st (by omega) hp a1 a2 a3))
          show (if _ then _ else _) = _
          rw [if_neg (by decide), if_neg (by decide), if_neg (by decide), if_pos (by omega)]
      · refine xa_f' (xa_ne 40 (by omega)) ?_
        refine xc_fail1 cx st.1 hp st.2.1 (fun I' a1 a2 a3 => hF p ?_ I' (xc_FL_mk hq st (by omega) hp a1 a2 a3))
        show (if _ then _ else _) = _
        rw [if_neg (by decide), if_neg (by decide), if_neg (by decide), if_pos (by omega)]
