def xi_Z (I0 I : pI) (R : pR) (q : Nat) (ts : List (Nat × Nat × Nat × Nat)) (L p : Nat) : Prop := xc_CX I R q ts L ∧ I 108 2 = nI p ∧ I 108 3 = -1 ∧ xs_SZ I q ∧ xa_fr (xs_S q) I0 I ∧ p ≤ ts.length
def xi_o8 (I I' : pI) : Prop := ∀ p, p ≠ 108 → I' p = I p
theorem xi_o8_t {I I1 I2 : pI} (h : xi_o8 I I1) (h2 : xi_o8 I1 I2) : xi_o8 I I2 := fun p hp => (h2 p hp).trans (h p hp)
theorem xi_Z_now {I0 I : pI} {R : pR} {q L p p' : Nat} {ts : List (Nat × Nat × Nat × Nat)} (z : xi_Z I0 I R q ts L p) (hp : p' ≤ ts.length) : xi_Z I0 (pw_wI I 108 2 (nI p')) R q ts L p' ∧ xi_o8 I (pw_wI I 108 2 (nI p')) := by
  obtain ⟨cx, h1, h2, h3, h4, h5⟩ := z
  have hq := cx.2.2.2.2
  refine ⟨⟨xc_CX_fr cx (xc_fr_now (q := q) (s := 0)) (xc_S_tk hq), by rw [xa_w]; simp, by rw [xa_w, if_neg (by decide)]; exact h2, fun e he => ?_, xa_fr_w h4 rfl, hp⟩, fun p hp => xa_p hp⟩
  have := xs_caps_lt e he
  rw [xa_p (by omega)]; exact h3 e he
theorem xi_enter {I0 I : pI} {R : pR} {q L p : Nat} {ts : List (Nat × Nat × Nat × Nat)} {Q : pI → pR → Prop} (z : xi_Z I0 I R q ts L p) (h : ∀ I', xs_FS I0 I' q ts L p → Q I' R) : w_ps_fail I R Q := by
  obtain ⟨cx, h1, h2, h3, h4, h5⟩ := z
  have hq := cx.2.2.2.2
  refine xc_fail1 cx h1 h5 h2 (fun I' a1 a2 a3 => h I' ⟨h5, Or.inl ⟨a1, a2⟩, fun e he => ?_, xa_fr_t h4 (xa_fr_m a3 xs_S8_of)⟩)
  have := xs_caps_lt e he
  rw [a3 _ _ ?_]; exact h3 e he
  simp only [xc_S8, Bool.and_eq_false_iff, beq_eq_false_iff_ne]; left; omega
theorem xi_take {I0 I : pI} {R : pR} {q L p : Nat} {ts : List (Nat × Nat × Nat × Nat)} {Q : Int32 → pI → pR → Prop} (k : Nat) (hk : k < 267 ∧ k ≠ 256) (z : xi_Z I0 I R q ts L p) (h1 : xt_kd ts L p = k → ∀ I', xi_Z I0 I' R q ts L (p + 1) → xi_o8 I I' → Q 1 I' R) (h2 : xt_kd ts L p ≠ k → Q 0 I R) : w_ps_take (nI k) I R Q := by
  have cx := z.1
  have w := cx.2.2.1
  have := w.1; have := w.2.1
  have hkb := xt_kd_b w (i := p)
  have hp := z.2.2.2.2.2
  unfold w_ps_take
  rw [z.2.1, xc_kindAt cx (by omega)]
  by_cases h : xt_kd ts L p = k
  · have hpT := xt_kd_lt w (i := p) (by omega)
    refine xa_t (by rw [h]) ?_
    rw [z.2.1, nI_1]
    obtain ⟨z', o'⟩ := xi_Z_now (p' := p + 1) z (by omega)
    exact xa_a (h1 h _ z' o')
  · exact xa_f (fun hh => h ((nI_eq (by omega) (by omega)).mp hh)) (h2 h)
theorem xi_need {I0 I : pI} {R : pR} {q L p : Nat} {ts : List (Nat × Nat × Nat × Nat)} {Q : pI → pR → Prop} (k : Nat) (hk : k < 267 ∧ k ≠ 256) (z : xi_Z I0 I R q ts L p) (h1 : xt_kd ts L p = k → ∀ I', xi_Z I0 I' R q ts L (p + 1) → xi_o8 I I' → Q I' R) (h2 : xt_kd ts L p ≠ k → ∀ I', xs_FS I0 I' q ts L p → Q I' R) : w_ps_need (nI k) I R Q := by
  have cx := z.1
  have w := cx.2.2.1
  have := w.1; have := w.2.1
  have hkb := xt_kd_b w (i := p)
  have hp := z.2.2.2.2.2
  unfold w_ps_need
  rw [z.2.1, xc_kindAt cx (by omega)]
  by_cases h : xt_kd ts L p = k
  · have hpT := xt_kd_lt w (i := p) (by omega)
    refine xa_t (by rw [h]) ?_
    rw [z.2.1, nI_1]
    obtain ⟨z', o'⟩ := xi_Z_now (p' := p + 1) z (by omega)
    exact xa_a (h1 h _ z' o')
  · exact xa_f (fun hh => h ((nI_eq (by omega) (by omega)).mp hh)) (xi_enter z (h2 h))
theorem xi_number {I0 I : pI} {R : pR} {q L p : Nat} {ts : List (Nat × Nat × Nat × Nat)} {Q : Int32 → pI → pR → Prop} (z : xi_Z I0 I R q ts L p) (h1 : xt_kd ts L p = 258 → ∀ I', xi_Z I0 I' R q ts L (p + 1) → xi_o8 I I' → Q (nI (xt_nm ts L p)) I' R) (h2 : xt_kd ts L p ≠ 258 → ∀ I', xs_FS I0 I' q ts L p → Q 0 I' R) : w_ps_number I R Q := by
  have cx := z.1
  have w := cx.2.2.1
  have := w.1; have := w.2.1
  have hkb := xt_kd_b w (i := p)
  have hp := z.2.2.2.2.2
  by_cases h : xt_kd ts L p = 258
  · have hpT := xt_kd_lt w (i := p) (by omega)
    obtain ⟨z', o'⟩ := xi_Z_now (p' := p + 1) z (by omega)
    exact xc_number cx z.2.1 h (h1 h _ z' o')
  · unfold w_ps_number
    rw [z.2.1, xc_kindAt cx (by omega)]
    exact xa_f (xa_ne 258 (by omega)) (xi_enter z (h2 h))
theorem xi_Z_ru {I0 I I' : pI} {R : pR} {q L p a b : Nat} {ts : List (Nat × Nat × Nat × Nat)} (z : xi_Z I0 I R q ts L p) (fr : xa_fr (xi_SR q) I I') (ha : a ≤ 22) (hb : b ≤ 61) (e1 : I' (q + 14) 8 = nI a) (e2 : I' (q + 14) 9 = nI b) : xi_Z I0 I' R q ts L p := by
  obtain ⟨cx, h1, h2, h3, h4, h5⟩ := z
  have hq := cx.2.2.2.2
  have f : ∀ p k, ¬ (q + 14 ≤ p ∧ p ≤ q + 22) → I' p k = I p k := fun p k hp => fr p k (by simp only [xi_SR, Bool.and_eq_false_iff, decide_eq_false_iff_not]; omega)
  refine ⟨xc_CX_fr cx fr (fun p k a b => by simp only [xi_SR, Bool.and_eq_false_iff, decide_eq_false_iff_not]; omega), by rw [f _ _ (by omega)]; exact h1, by rw [f _ _ (by omega)]; exact h2, fun e he => ?_, xa_fr_t h4 (xa_fr_m fr (fun p k hp => by simp only [xs_S, xi_SR, Bool.or_eq_false_iff, Bool.and_eq_false_iff, beq_eq_false_iff_ne, decide_eq_false_iff_not] at hp ⊢; omega)), h5⟩
  by_cases h14 : e.1 = 14
  · have key : ∀ e, e ∈ xs_caps → e.1 = 14 → e = (14, 8, 22) ∨ e = (14, 9, 61) := by decide
    rcases key e he h14 with rfl | rfl
    · exact ⟨a, ha, e1⟩
    · exact ⟨b, hb, e2⟩
  · have := xs_caps_lt e he
    rw [f _ _ (by omega)]; exact h3 e he
def xi_SX (q p k : Nat) : Bool := p == 108 || (decide (q + 14 ≤ p) && decide (p ≤ q + 22))
theorem xi_SX_o8 {q : Nat} {I I' : pI} (h : xi_o8 I I') : xa_fr (xi_SX q) I I' := fun p k hp => by
  simp only [xi_SX, Bool.or_eq_false_iff, beq_eq_false_iff_ne] at hp
  rw [h p hp.1]
theorem xi_SX_R {q : Nat} {I I' : pI} (h : xa_fr (xi_SR q) I I') : xa_fr (xi_SX q) I I' := xa_fr_m h (fun p k hp => by
  simp only [xi_SX, xi_SR, Bool.or_eq_false_iff] at hp ⊢; exact hp.2)
theorem xi_RM_o8 {I I' : pI} {q : Nat} {rs : List xi_R} (hq : q = 54 ∨ q = 81) (h : xi_RM I q rs) (o : xi_o8 I I') : xi_RM I' q rs := xi_RM_fr h (fun p a b => o p (by omega))
theorem xi_RM1_o8 {I I' : pI} {q le : Nat} {mo : Int32} {rs : List xi_R} (hq : q = 54 ∨ q = 81) (h : xi_RM1 I q rs le mo) (o : xi_o8 I I') : xi_RM1 I' q rs le mo := xi_RM1_fr h (fun p a b => o p (by omega))
theorem xi_ansC {I0 : pI} {R : pR} {q L le wh ft fg : Nat} {mo : Option Nat} {ts : List (Nat × Nat × Nat × Nat)} {rs : List xi_R} {K : pI → pR → Prop} {Q : Int32 → pI → pR → Prop} (cx0 : xc_CX I0 R q ts L) (hl : rs.length < 22) : ∀ m turn p an I, turn + m = 121 → 2 * turn ≤ p → 2 * ((rs.flatMap xi_an).length + an.length) + 1 ≤ p → xi_Z I0 I R q ts L p → xi_RM I q (rs ++ [(le, mo, wh, ft, fg, an)]) →
    (∀ p' a, xi_ans (xt_kd ts L) (xt_nm ts L) m p an = .inr (p', a) → ∀ I', xi_Z I0 I' R q ts L p' → xi_RM I' q (rs ++ [(le, mo, wh, ft, fg, a)]) → xa_fr (xi_SX q) I I' → K I' R) →
    (∀ g, xi_ans (xt_kd ts L) (xt_nm ts L) m p an = .inl g → ∀ I', xs_FS I0 I' q ts L g → K I' R) → l_ps_rule_166 q (nI rs.length) K Q m 1 (nI turn) I R := by
  have w := cx0.2.2.1
  have hT := w.2.1
  have hL := w.1
  have hq := cx0.2.2.2.2
  intro m; induction m with
  | zero => intro turn p an I h1 h2 h3 z; have := z.2.2.2.2.2; omega
  | succ m ih =>
    intro turn p an I h1 h2 h3 z rm hK hF
    have hp := z.2.2.2.2.2
    have hturn : ¬ 120 ≤ turn := by omega
    unfold l_ps_rule_166
    refine xa_f (fun hh => hturn ((xa_lle 120 (by omega) (by omega)).mp hh)) (xa_f (by decide) ?_)
    have hgo : ∀ p1 I1, (p1 = if xt_kd ts L p = 45 then p + 1 else p) → xi_Z I0 I1 R q ts L p1 → xi_o8 I I1 → j_ps_rule_192 q (fun y1 y2 I18 R18 => l_ps_rule_166 q (nI rs.length) K Q m y1 y2 I18 R18) Q (nI rs.length) (nI turn) (if xt_kd ts L p = 45 then -1 else 1) I1 R := by
      intro p1 I1 hp1 z1 o1
      have hpp : p ≤ p1 := by rw [hp1]; split <;> omega
      unfold j_ps_rule_192
      refine xi_number z1 (fun h258 I2 z2 o2 => ?_) (fun h258 I2 f2 => ?_)
      · have hpT := xt_kd_lt w (i := p1) (by omega)
        refine xi_answer (xi_RM_o8 hq (xi_RM_o8 hq rm o1) o2) hl (by omega) (fun I3 rm3 fr3 => ?_)
        have hA : ((rs ++ [(le, mo, wh, ft, fg, an ++ [(if xt_kd ts L p = 45 then -1 else 1) * nI (xt_nm ts L p1)])]).flatMap xi_an).length = (rs.flatMap xi_an).length + an.length + 1 := by simp [xi_an]; omega
        have z3 := xi_Z_ru (a := rs.length + 1) (b := (rs.flatMap xi_an).length + an.length + 1) z2 fr3 (by omega) (by omega) (by rw [rm3.1]; simp) (by rw [rm3.2.1, hA])
        have fr03 : xa_fr (xi_SX q) I I3 := xa_fr_t (xi_SX_o8 (xi_o8_t o1 o2)) (xi_SX_R fr3)
        refine xi_take 44 (by decide) z3 (fun h44 I4 z4 o4 => ?_) (fun h44 => ?_)
        · show l_ps_rule_166 _ _ _ _ _ 1 (nI turn + 1) _ _
          rw [nI_1]
          have e : xi_ans (xt_kd ts L) (xt_nm ts L) (m + 1) p an = xi_ans (xt_kd ts L) (xt_nm ts L) m (p1 + 2) (an ++ [(if xt_kd ts L p = 45 then -1 else 1) * nI (xt_nm ts L p1)]) := by
            subst hp1
            show (if _ then _ else _) = _
            rw [if_neg (fun hh => hh h258), if_pos h44]
          rw [e] at hK hF
          have hpT2 := xt_kd_lt w (i := p1 + 1) (by omega)
          exact ih (turn + 1) (p1 + 2) _ I4 (by omega) (by omega) (by rw [List.length_append, List.length_singleton]; omega) z4 (xi_RM_o8 hq rm3 o4) (fun p' a h I' z' rm' fr' => hK p' a h I' z' rm' (xa_fr_t fr03 (xa_fr_t (xi_SX_o8 o4) fr'))) hF
        · have e : xi_ans (xt_kd ts L) (xt_nm ts L) (m + 1) p an = .inr (p1 + 1, an ++ [(if xt_kd ts L p = 45 then -1 else 1) * nI (xt_nm ts L p1)]) := by
            subst hp1
            show (if _ then _ else _) = _
            rw [if_neg (fun hh => hh h258), if_neg h44]
          obtain ⟨m', rfl⟩ : ∃ m', m = m' + 1 := ⟨m - 1, by omega⟩
          exact xs_rule166 (I0 := I0) (L := L) (f := 0) (ts := ts) (hK _ _ e I3 z3 rm3 fr03)
      · have e : xi_ans (xt_kd ts L) (xt_nm ts L) (m + 1) p an = .inl p1 := by
          subst hp1
          show (if _ then _ else _) = _
          rw [if_pos h258]
        obtain ⟨m', rfl⟩ : ∃ m', m = m' + 1 := ⟨m - 1, by omega⟩
        refine xs_answer hq f2 (fun I3 f3 => xs_take 44 (by decide) cx0 f3 ?_)
        exact xs_rule166 (I0 := I0) (L := L) (f := 0) (ts := ts) (hF p1 e I3 f3)
    refine xi_take 45 (by decide) z (fun h45 I1 z1 o1 => ?_) (fun h45 => ?_)
    · have := hgo (p + 1) I1 (by rw [if_pos h45]) z1 o1
      rw [if_pos h45] at this
      exact xa_f (by decide) this
    · have := hgo p I (by rw [if_neg h45]) z (fun _ _ => rfl)
      rw [if_neg h45] at this
      exact xa_t rfl this
theorem xi_ruleC {I0 I : pI} {R : pR} {q L p : Nat} {ts : List (Nat × Nat × Nat × Nat)} {rs : List xi_R} {Q : Int32 → pI → pR → Prop} (cx0 : xc_CX I0 R q ts L) (z : xi_Z I0 I R q ts L p) (rm : xi_RM I q rs) (hr : xi_isR (xt_kd ts L) p = true) (hl : 6 * rs.length ≤ p) (hA : 2 * (rs.flatMap xi_an).length ≤ p)
    (h1 : ∀ p' ru, xi_rul (xt_kd ts L) (xt_nm ts L) p = .inr (p', ru) → ∀ I', xi_Z I0 I' R q ts L p' → xi_RM I' q (rs ++ [ru]) → xa_fr (xi_SX q) I I' → Q (nI rs.length) I' R)
    (h2 : ∀ g, xi_rul (xt_kd ts L) (xt_nm ts L) p = .inl g → ∀ v I', xs_FS I0 I' q ts L g → Q v I' R) : w_ps_rule I R Q := by
  have w := cx0.2.2.1
  have hT := w.2.1
  have hL := w.1
  have hq := cx0.2.2.2.2
  have hp := z.2.2.2.2.2
  have hl' : rs.length < 22 := by omega
  unfold xi_isR at hr
  simp only [Bool.and_eq_true, decide_eq_true_eq] at hr
  -- behind the argument
  have go3 : ∀ le mo wh ft fg p3 I3, p + 5 ≤ p3 → (∀ r, xi_rul (xt_kd ts L) (xt_nm ts L) p = r ↔ xi_rul3 (xt_kd ts L) (xt_nm ts L) le mo wh ft fg p3 = r) → xi_Z I0 I3 R q ts L p3 → xi_RM1 I3 q rs le (xi_mo32 mo) → xa_fr (xi_SX q) I I3 → j_ps_rule_145 q Q (nI rs.length) (nI rs.length) (nI wh) (nI ft) (nI fg) I3 R := by
    intro le mo wh ft fg p3 I3 hp3 he z3 rm3 fr3
    unfold j_ps_rule_145
    refine xi_rlaim rm3 hl' (fun I4 rm4 fr4 => ?_)
    have z4 := xi_Z_ru (a := rs.length + 1) (b := (rs.flatMap xi_an).length) z3 fr4 (by omega) (by omega) (by rw [rm4.1]; simp) (by rw [rm4.2.1]; simp [xi_an])
    have fr04 := xa_fr_t fr3 (xi_SX_R fr4)
    refine xi_need 41 (by decide) z4 (fun h41 I5 z5 o5 => ?_) (fun h41 I5 f5 => ?_)
    · have rm5 := xi_RM_o8 hq rm4 o5
      have fr05 := xa_fr_t fr04 (xi_SX_o8 o5)
      refine xi_take 266 (by decide) z5 (fun h266 I6 z6 o6 => ⟨121, ?_⟩) (fun h266 => ⟨1, ?_⟩)
      · have fr06 := xa_fr_t fr05 (xi_SX_o8 o6)
        refine xi_ansC (le := le) (mo := mo) (wh := wh) (ft := ft) (fg := fg) cx0 hl' 121 0 (p3 + 2) [] I6 (by omega) (by omega) (by simp only [List.length_nil]; omega) z6 (xi_RM_o8 hq rm5 o6) (fun p' a ha I' z' rm' fr' => ?_) (fun g hg I' f' => ?_)
        · refine h1 p' (le, mo, wh, ft, fg, a) ((he _).mpr ?_) I' z' rm' (xa_fr_t fr06 fr')
          unfold xi_rul3
          rw [if_neg (fun hh => hh h41), if_pos h266, ha]
        · refine h2 g ((he _).mpr ?_) _ I' f'
          unfold xi_rul3
          rw [if_neg (fun hh => hh h41), if_pos h266, hg]
      · refine xs_rule166 (I0 := I0) (L := L) (f := 0) (ts := ts) (h1 (p3 + 1) (le, mo, wh, ft, fg, []) ((he _).mpr ?_) I5 z5 rm5 fr05)
        unfold xi_rul3
        rw [if_neg (fun hh => hh h41), if_neg h266]
    · have e : xi_rul (xt_kd ts L) (xt_nm ts L) p = .inl p3 := (he _).mpr (by unfold xi_rul3; rw [if_pos h41])
      exact xs_take 266 (by decide) cx0 f5 ⟨1, xs_rule166 (I0 := I0) (L := L) (f := 0) (ts := ts) (h2 p3 e _ I5 f5)⟩
  have go2 : ∀ le mo p2 I2, p + 1 ≤ p2 → (∀ r, xi_rul (xt_kd ts L) (xt_nm ts L) p = r ↔ xi_rul2 (xt_kd ts L) (xt_nm ts L) le mo p2 = r) → xi_Z I0 I2 R q ts L p2 → xi_RM I2 q rs → xa_fr (xi_SX q) I I2 → j_ps_rule_43 q Q (nI le) (xi_mo32 mo) I2 R := by
    intro le mo p2 I2 hp2 he z2 rm2 fr2
    unfold j_ps_rule_43
    refine xi_rladd rm2 hl' (fun I3 rm3 fr3 => ?_)
    have z3 := xi_Z_ru (a := rs.length + 1) (b := (rs.flatMap xi_an).length) z2 fr3 (by omega) (by omega) rm3.1 rm3.2.1
    have fr03 := xa_fr_t fr2 (xi_SX_R fr3)
    refine xi_need 42 (by decide) z3 (fun h42 I4 z4 o4 => ?_) (fun h42 I4 f4 => ?_)
    · have rm4 := xi_RM1_o8 hq rm3 o4
      have fr04 := xa_fr_t fr03 (xi_SX_o8 o4)
      have hp4 := z4.2.2.2.2.2
      have hkb := xt_kd_b w (i := p2 + 1)
      rw [xc_next z4.1 z4.2.1 (by omega)]
      -- the callee
      have gow : ∀ wh kw, kw = (if wh = 1 then 78 else 77) → wh = (if xt_kd ts L (p2 + 1) = 78 then 1 else 0) → j_ps_rule_87 q Q (nI rs.length) (nI wh) (nI kw) I4 R := by
        intro wh kw hkw hwh
        have hkw' : kw = 77 ∨ kw = 78 := by rw [hkw]; split <;> simp
        unfold j_ps_rule_87
        refine xi_need kw (by omega) z4 (fun hk I5 z5 o5 => ?_) (fun hk I5 f5 => ?_)
        · have rm5 := xi_RM1_o8 hq rm4 o5
          have fr05 := xa_fr_t fr04 (xi_SX_o8 o5)
          have hM : ¬ (xt_kd ts L (p2 + 1) ≠ 77 ∧ xt_kd ts L (p2 + 1) ≠ 78) := by omega
          refine xi_need 40 (by decide) z5 (fun h40 I6 z6 o6 => ?_) (fun h40 I6 f6 => ?_)
          · have rm6 := xi_RM1_o8 hq rm5 o6
            have fr06 := xa_fr_t fr05 (xi_SX_o8 o6)
            have hpre : ∀ r, xi_rul2 (xt_kd ts L) (xt_nm ts L) le mo p2 = r ↔ (if xt_kd ts L (p2 + 3) = 95 then xi_rul3 (xt_kd ts L) (xt_nm ts L) le mo wh 0 0 (p2 + 4) else if xt_kd ts L (p2 + 3) = 33 then (if xt_kd ts L (p2 + 4) ≠ 258 then .inl (p2 + 4) else xi_rul3 (xt_kd ts L) (xt_nm ts L) le mo wh 2 (xt_nm ts L (p2 + 4)) (p2 + 5)) else if xt_kd ts L (p2 + 3) ≠ 258 then .inl (p2 + 3) else xi_rul3 (xt_kd ts L) (xt_nm ts L) le mo wh 1 (xt_nm ts L (p2 + 3)) (p2 + 4)) = r := by
              intro r
              unfold xi_rul2
              rw [if_neg (fun hh => hh h42), if_neg hM, if_neg (fun hh => hh h40), hwh]
            refine xi_take 95 (by decide) z6 (fun h95 I7 z7 o7 => ?_) (fun h95 => ?_)
            · refine xa_f (by decide) ?_
              unfold j_ps_rule_123
              refine xa_t' rfl (go3 le mo wh 0 0 (p2 + 4) I7 (by omega) (fun r => (he r).trans ((hpre r).trans (by rw [if_pos h95]))) z7 (xi_RM1_o8 hq rm6 o7) (xa_fr_t fr06 (xi_SX_o8 o7)))
            · refine xa_t rfl ?_
              refine xi_take 33 (by decide) z6 (fun h33 I7 z7 o7 => ?_) (fun h33 => ?_)
              · refine xa_f (by decide) ?_
                unfold j_ps_rule_123
                refine xa_f' (by decide) (xi_number z7 (fun h258 I8 z8 o8 => ?_) (fun h258 I8 f8 => ?_))
                · exact go3 le mo wh 2 (xt_nm ts L (p2 + 4)) (p2 + 5) I8 (by omega) (fun r => (he r).trans ((hpre r).trans (by rw [if_neg h95, if_pos h33, if_neg (fun hh => hh h258)]))) z8 (xi_RM1_o8 hq (xi_RM1_o8 hq rm6 o7) o8) (xa_fr_t fr06 (xa_fr_t (xi_SX_o8 o7) (xi_SX_o8 o8)))
                · exact xs_rule145 cx0 f8 (h2 (p2 + 4) ((he _).mpr ((hpre _).mpr (by rw [if_neg h95, if_pos h33, if_pos h258]))))
              · refine xa_t rfl ?_
                unfold j_ps_rule_123
                refine xa_f' (by decide) (xi_number z6 (fun h258 I8 z8 o8 => ?_) (fun h258 I8 f8 => ?_))
                · exact go3 le mo wh 1 (xt_nm ts L (p2 + 3)) (p2 + 4) I8 (by omega) (fun r => (he r).trans ((hpre r).trans (by rw [if_neg h95, if_neg h33, if_neg (fun hh => hh h258)]))) z8 (xi_RM1_o8 hq rm6 o8) (xa_fr_t fr06 (xi_SX_o8 o8))
                · exact xs_rule145 cx0 f8 (h2 (p2 + 3) ((he _).mpr ((hpre _).mpr (by rw [if_neg h95, if_neg h33, if_pos h258]))))
          · have e : xi_rul (xt_kd ts L) (xt_nm ts L) p = .inl (p2 + 2) := (he _).mpr (by unfold xi_rul2; rw [if_neg (fun hh => hh h42), if_neg hM, if_pos h40])
            exact xs_take 95 (by decide) cx0 f6 (xa_t rfl (xs_take 33 (by decide) cx0 f6 (xa_t rfl (xs_rule123 cx0 f6 (h2 _ e)))))
        · have hM : (xt_kd ts L (p2 + 1) ≠ 77 ∧ xt_kd ts L (p2 + 1) ≠ 78) := by
            by_cases h78 : xt_kd ts L (p2 + 1) = 78
            · rw [if_pos h78] at hwh; rw [if_pos hwh] at hkw; omega
            · rw [if_neg h78] at hwh; rw [if_neg (by omega)] at hkw; omega
          have e : xi_rul (xt_kd ts L) (xt_nm ts L) p = .inl (p2 + 1) := (he _).mpr (by unfold xi_rul2; rw [if_neg (fun hh => hh h42), if_pos hM])
          exact xs_need 40 (by decide) cx0 f5 (fun I6 f6 => xs_take 95 (by decide) cx0 f6 (xa_t rfl (xs_take 33 (by decide) cx0 f6 (xa_t rfl (xs_rule123 cx0 f6 (h2 _ e))))))
      by_cases h78 : xt_kd ts L (p2 + 1) = 78
      · refine xa_t' (xa_e 78 h78) ?_
        unfold j_ps_rule_71
        exact xa_t' rfl (gow 1 78 rfl (by rw [if_pos h78]))
      · refine xa_f' (xa_ne 78 (by omega)) ?_
        unfold j_ps_rule_71
        exact xa_f' (by decide) (gow 0 77 rfl (by rw [if_neg h78]))
    · have e : xi_rul (xt_kd ts L) (xt_nm ts L) p = .inl p2 := (he _).mpr (by unfold xi_rul2; rw [if_pos h42])
      exact xs_next cx0 f4 (fun k hk hb => xa_f' (xa_ne 78 (by omega)) (xs_rule71 cx0 f4 (h2 _ e)))
  unfold w_ps_rule
  refine ⟨q, cx0.2.2.2.1, xc_sh hq, xi_number z (fun h258 I1 z1 o1 => ?_) (fun h258 => absurd hr.1 h258)⟩
  have rm1 := xi_RM_o8 hq rm o1
  refine xi_take 45 (by decide) z1 (fun h45 I2 z2 o2 => ?_) (fun h45 => ?_)
  · refine xa_f (by decide) ?_
    have rm2 := xi_RM_o8 hq rm1 o2
    have hr2 := hr.2
    rw [if_pos h45] at hr2
    simp only [Bool.or_eq_true, Bool.and_eq_true, decide_eq_true_eq] at hr2
    refine xi_take 95 (by decide) z2 (fun h95 I3 z3 o3 => ?_) (fun h95 => ?_)
    · refine xa_f (by decide) ?_
      unfold j_ps_rule_42
      refine go2 (xt_nm ts L p) none (p + 3) I3 (by omega) (fun r => ?_) z3 (xi_RM_o8 hq rm2 o3) (xa_fr_t (xi_SX_o8 o1) (xa_fr_t (xi_SX_o8 o2) (xi_SX_o8 o3)))
      unfold xi_rul
      have h95' : xt_kd ts L (p + 2) = 95 := h95
      rw [if_pos h45, if_neg (by omega)]
    · refine xa_t rfl ?_
      have h258' : xt_kd ts L (p + 2) = 258 := by
        rcases hr2 with h | h
        · exact absurd h h95
        · exact h.1.1
      refine xi_number z2 (fun _ I3 z3 o3 => ?_) (fun hn => absurd h258' hn)
      unfold j_ps_rule_42
      refine go2 (xt_nm ts L p) (some (xt_nm ts L (p + 2))) (p + 3) I3 (by omega) (fun r => ?_) z3 (xi_RM_o8 hq rm2 o3) (xa_fr_t (xi_SX_o8 o1) (xa_fr_t (xi_SX_o8 o2) (xi_SX_o8 o3)))
      unfold xi_rul
      rw [if_pos h45, if_pos h258']
  · refine xa_t rfl ?_
    refine go2 (xt_nm ts L p) (some (xt_nm ts L p)) (p + 1) I1 (by omega) (fun r => ?_) z1 rm1 (xi_SX_o8 o1)
    unfold xi_rul
    rw [if_neg h45]
