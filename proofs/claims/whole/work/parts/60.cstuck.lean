/-! THE CLASS'S READER: what has failed stays so -/
def xs_S (q p k : Nat) : Bool := p == 108 || (decide (q ≤ p) && decide (p ≤ q + 26))
def xs_caps : List (Nat × Nat × Nat) := [(2, 4, 120), (7, 6, 61), (14, 8, 22), (14, 9, 61), (0, 8, 41), (0, 9, 61), (0, 10, 61)]
def xs_SZ (I : pI) (q : Nat) : Prop := ∀ e, e ∈ xs_caps → ∃ s, s ≤ e.2.2 ∧ I (q + e.1) e.2.1 = nI s
def xs_K (I : pI) (ts : List (Nat × Nat × Nat × Nat)) (L f : Nat) : Prop := (I 108 2 = nI ts.length ∧ I 108 3 = nI (xt_pl ts L f)) ∨ (I 108 2 = nI f ∧ I 108 3 = -1 ∧ xp_lev (xt_kd ts L f) = 2)
def xs_FS (I0 I : pI) (q : Nat) (ts : List (Nat × Nat × Nat × Nat)) (L f : Nat) : Prop := f ≤ ts.length ∧ xs_K I ts L f ∧ xs_SZ I q ∧ xa_fr (xs_S q) I0 I
theorem xs_S_tk {q : Nat} (hq : q = 54 ∨ q = 81) : ∀ p k, 109 ≤ p → p ≤ 113 → xs_S q p k = false := by
  intro p k h1 h2
  simp only [xs_S, Bool.or_eq_false_iff, Bool.and_eq_false_iff, beq_eq_false_iff_ne, decide_eq_false_iff_not]
  omega
theorem xs_S_of {q s : Nat} : ∀ p k, xs_S q p k = false → xc_S q s p k = false := by
  intro p k hp
  simp only [xs_S, xc_S, Bool.or_eq_false_iff, Bool.and_eq_false_iff, beq_eq_false_iff_ne, decide_eq_false_iff_not] at hp ⊢
  omega
theorem xs_S8_of {q : Nat} : ∀ p k, xs_S q p k = false → xc_S8 p k = false := by
  intro p k hp
  simp only [xs_S, xc_S8, Bool.or_eq_false_iff, Bool.and_eq_false_iff, beq_eq_false_iff_ne, decide_eq_false_iff_not] at hp ⊢
  omega
theorem xs_cx {I0 I : pI} {R : pR} {q L f : Nat} {ts : List (Nat × Nat × Nat × Nat)} (cx : xc_CX I0 R q ts L) (fs : xs_FS I0 I q ts L f) : xc_CX I R q ts L := xc_CX_fr cx fs.2.2.2 (xs_S_tk cx.2.2.2.2)
theorem xs_caps_lt : ∀ e, e ∈ xs_caps → (e.1 = 0 ∨ e.1 = 2 ∨ e.1 = 7 ∨ e.1 = 14) := by decide
theorem xs_w1 {I0 I : pI} {q L f a k : Nat} {v : Int32} {ts : List (Nat × Nat × Nat × Nat)} (hq : q = 54 ∨ q = 81) (fs : xs_FS I0 I q ts L f) (ha : a ≤ 26 ∧ a ≠ 0 ∧ a ≠ 2 ∧ a ≠ 7 ∧ a ≠ 14) : xs_FS I0 (pw_wI I (q + a) k v) q ts L f := by
  obtain ⟨h1, h2, h3, h4⟩ := fs
  refine ⟨h1, ?_, fun e he => ?_, xa_fr_t h4 (xa_fr_w (xa_fr_r _ _) (by simp only [xs_S, Bool.or_eq_true, Bool.and_eq_true, decide_eq_true_eq]; omega))⟩
  · unfold xs_K; rw [xa_p (by omega)]; exact h2
  · have := xs_caps_lt e he
    rw [xa_p (by omega)]; exact h3 e he
theorem xs_w2 {I0 I : pI} {q L f a k c s : Nat} {ts : List (Nat × Nat × Nat × Nat)} (hq : q = 54 ∨ q = 81) (fs : xs_FS I0 I q ts L f) (he : (a, k, c) ∈ xs_caps) (hs : s ≤ c) : xs_FS I0 (pw_wI I (q + a) k (nI s)) q ts L f := by
  obtain ⟨h1, h2, h3, h4⟩ := fs
  have ha := xs_caps_lt _ he
  simp only at ha
  refine ⟨h1, ?_, fun e he' => ?_, xa_fr_t h4 (xa_fr_w (xa_fr_r _ _) (by simp only [xs_S, Bool.or_eq_true, Bool.and_eq_true, decide_eq_true_eq]; omega))⟩
  · unfold xs_K; rw [xa_p (by omega)]; exact h2
  · rw [xa_w]
    by_cases hh : q + e.1 = q + a ∧ e.2.1 = k
    · rw [if_pos hh]
      refine ⟨s, ?_, rfl⟩
      have key : ∀ e1, e1 ∈ xs_caps → ∀ e2, e2 ∈ xs_caps → e1.1 = e2.1 → e1.2.1 = e2.2.1 → e1.2.2 = e2.2.2 := by decide
      have := key _ he' _ he (show e.1 = a by omega) hh.2
      rw [this]; exact hs
    · rw [if_neg hh]; exact h3 e he'
theorem xs_w8 {I0 I : pI} {q L f : Nat} {v : Int32} {ts : List (Nat × Nat × Nat × Nat)} (hq : q = 54 ∨ q = 81) (fs : xs_FS I0 I q ts L f) : xs_FS I0 (pw_wI I 108 4 v) q ts L f := by
  obtain ⟨h1, h2, h3, h4⟩ := fs
  refine ⟨h1, ?_, fun e he => ?_, xa_fr_t h4 (xa_fr_w (xa_fr_r _ _) rfl)⟩
  · unfold xs_K; rw [xa_w, if_neg (by decide), xa_w, if_neg (by decide)]; exact h2
  · have := xs_caps_lt e he
    rw [xa_p (by omega)]; exact h3 e he
theorem xs_pos {I0 I : pI} {q L f : Nat} {ts : List (Nat × Nat × Nat × Nat)} (fs : xs_FS I0 I q ts L f) : ∃ p, p ≤ ts.length ∧ I 108 2 = nI p ∧ (xt_kd ts L p = 256 ∨ xp_lev (xt_kd ts L p) = 2) ∧ (I 108 3 = nI (xt_pl ts L f) ∨ (I 108 3 = -1 ∧ xt_pl ts L p = xt_pl ts L f)) := by
  obtain ⟨h1, h2, h3, h4⟩ := fs
  rcases h2 with ⟨a, b⟩ | ⟨a, b, c⟩
  · refine ⟨ts.length, Nat.le_refl _, a, Or.inl ?_, Or.inl b⟩
    unfold xt_kd; rw [xt_at_ge (Nat.le_refl _)]
  · exact ⟨f, h1, a, Or.inr c, Or.inr ⟨b, rfl⟩⟩
theorem xs_fs8 {I0 I I' : pI} {q L f : Nat} {ts : List (Nat × Nat × Nat × Nat)} (hq : q = 54 ∨ q = 81) (fs : xs_FS I0 I q ts L f) (a1 : I' 108 2 = nI ts.length) (a2 : I' 108 3 = nI (xt_pl ts L f)) (fr : xa_fr xc_S8 I I') : xs_FS I0 I' q ts L f := by
  obtain ⟨h1, h2, h3, h4⟩ := fs
  refine ⟨h1, Or.inl ⟨a1, a2⟩, fun e he => ?_, xa_fr_t h4 (xa_fr_m fr xs_S8_of)⟩
  have := xs_caps_lt e he
  rw [fr _ _ ?_]; exact h3 e he
  simp only [xc_S8, Bool.and_eq_false_iff, beq_eq_false_iff_ne]; left; omega
theorem xs_fail {I0 I : pI} {R : pR} {q L f : Nat} {ts : List (Nat × Nat × Nat × Nat)} {Q : pI → pR → Prop} (cx : xc_CX I0 R q ts L) (fs : xs_FS I0 I q ts L f) (h : ∀ I', xs_FS I0 I' q ts L f → Q I' R) : w_ps_fail I R Q := by
  have cx1 := xs_cx cx fs
  have w := cx.2.2.1
  have hpb := xt_pl_b w (i := f)
  have := w.1
  obtain ⟨p, hp, hn, hbad, hw⟩ := xs_pos fs
  have fin : ∀ I', I' 108 2 = nI ts.length → I' 108 3 = nI (xt_pl ts L f) → xa_fr xc_S8 I I' → Q I' R := fun I' a1 a2 a3 => h I' (xs_fs8 cx.2.2.2.2 fs a1 a2 a3)
  rcases hw with hw | ⟨hw, hpv⟩
  · exact xc_fail2 cx1 hw (by omega) fin
  · rw [← hpv] at fin; exact xc_fail1 cx1 hn hp hw fin
theorem xs_take {I0 I : pI} {R : pR} {q L f : Nat} {ts : List (Nat × Nat × Nat × Nat)} {Q : Int32 → pI → pR → Prop} (k : Nat) (hk : k < 267 ∧ k ≠ 256 ∧ xp_lev k ≠ 2) (cx : xc_CX I0 R q ts L) (fs : xs_FS I0 I q ts L f) (h : Q 0 I R) : w_ps_take (nI k) I R Q := by
  have cx1 := xs_cx cx fs
  have w := cx.2.2.1
  have := w.1; have := w.2.1
  obtain ⟨p, hp, hn, hbad, hw⟩ := xs_pos fs
  have hkb := xt_kd_b w (i := p)
  unfold w_ps_take
  rw [hn, xc_kindAt cx1 (by omega)]
  refine xa_f (fun hh => ?_) h
  have e := (nI_eq (by omega) (by omega)).mp hh
  rw [e] at hbad; omega
theorem xs_need {I0 I : pI} {R : pR} {q L f : Nat} {ts : List (Nat × Nat × Nat × Nat)} {Q : pI → pR → Prop} (k : Nat) (hk : k < 267 ∧ k ≠ 256 ∧ xp_lev k ≠ 2) (cx : xc_CX I0 R q ts L) (fs : xs_FS I0 I q ts L f) (h : ∀ I', xs_FS I0 I' q ts L f → Q I' R) : w_ps_need (nI k) I R Q := by
  have cx1 := xs_cx cx fs
  have w := cx.2.2.1
  have := w.1; have := w.2.1
  obtain ⟨p, hp, hn, hbad, hw⟩ := xs_pos fs
  have hkb := xt_kd_b w (i := p)
  unfold w_ps_need
  rw [hn, xc_kindAt cx1 (by omega)]
  refine xa_f (fun hh => ?_) (xs_fail cx fs h)
  have e := (nI_eq (by omega) (by omega)).mp hh
  rw [e] at hbad; omega
theorem xs_number {I0 I : pI} {R : pR} {q L f : Nat} {ts : List (Nat × Nat × Nat × Nat)} {Q : Int32 → pI → pR → Prop} (cx : xc_CX I0 R q ts L) (fs : xs_FS I0 I q ts L f) (h : ∀ I', xs_FS I0 I' q ts L f → Q 0 I' R) : w_ps_number I R Q := by
  have cx1 := xs_cx cx fs
  have w := cx.2.2.1
  have := w.1; have := w.2.1
  obtain ⟨p, hp, hn, hbad, hw⟩ := xs_pos fs
  have hkb := xt_kd_b w (i := p)
  have hb := xp_lev2 hbad
  unfold w_ps_number
  rw [hn, xc_kindAt cx1 (by omega)]
  exact xa_f (xa_ne 258 (by omega)) (xs_fail cx fs h)
theorem xs_next {I0 I : pI} {R : pR} {q L f : Nat} {ts : List (Nat × Nat × Nat × Nat)} {Q : Int32 → pI → pR → Prop} (cx : xc_CX I0 R q ts L) (fs : xs_FS I0 I q ts L f) (h : ∀ k, k < 267 → (k = 256 ∨ k = 260 ∨ k = 261 ∨ k = 262 ∨ k = 263 ∨ k = 60 ∨ k = 62) → Q (nI k) I R) : w_ps_next I R Q := by
  have cx1 := xs_cx cx fs
  have w := cx.2.2.1
  have := w.1; have := w.2.1
  obtain ⟨p, hp, hn, hbad, hw⟩ := xs_pos fs
  rw [xc_next cx1 hn (by omega)]
  exact h _ (xt_kd_b w) (xp_lev2 hbad)
theorem xs_chain {I0 I : pI} {R : pR} {q L f : Nat} {ts : List (Nat × Nat × Nat × Nat)} {Q : pI → pR → Prop} (lv : Nat) (hlv : lv ≤ 4) (cx : xc_CX I0 R q ts L) (fs : xs_FS I0 I q ts L f) (h : ∀ I', xs_FS I0 I' q ts L f → Q I' R) : w_ps_chain (nI lv) (nI 0) I R Q := by
  have cx1 := xs_cx cx fs
  have w := cx.2.2.1
  have hpb := xt_pl_b w (i := f)
  have := w.1; have := w.2.1
  have hq := cx.2.2.2.2
  obtain ⟨p, hp, hn, hbad, hw⟩ := xs_pos fs
  unfold w_ps_chain
  refine xc_stk (v := xt_pl ts L f) (by omega) 64 0 lv 0 p I Q _ _ (by omega) (by omega) (by omega) (by unfold xc_mu; simp; omega) (fun _ => ⟨rfl, rfl⟩) (fun h => absurd rfl h) cx1 hn hp hbad hw ?_ (fun I' a1 a2 a3 a4 => h I' ?_)
  · have := fs.2.2.1 (2, 4, 120) (by decide)
    exact this
  · refine ⟨fs.1, Or.inl ⟨a1, a2⟩, fun e he => ?_, xa_fr_t fs.2.2.2 (xa_fr_m a4 xs_S_of)⟩
    by_cases h2 : e.1 = 2
    · have key : ∀ e, e ∈ xs_caps → e.1 = 2 → e = (2, 4, 120) := by decide
      rw [key e he h2]; exact a3
    · have := xs_caps_lt e he
      rw [a4 _ _ ?_]; exact fs.2.2.1 e he
      simp only [xc_S, Bool.or_eq_false_iff, Bool.and_eq_false_iff, beq_eq_false_iff_ne, decide_eq_false_iff_not]; omega
theorem xs_put {I0 I : pI} {R : pR} {q L f : Nat} {ts : List (Nat × Nat × Nat × Nat)} {Q : pI → pR → Prop} {i v : Int32} (a n : Nat) (ha : a ≤ 26 ∧ a ≠ 0 ∧ a ≠ 2 ∧ a ≠ 7 ∧ a ≠ 14) (hn : n < 2 ^ 31) (hq : q = 54 ∨ q = 81) (fs : xs_FS I0 I q ts L f) (h : ∀ I', xs_FS I0 I' q ts L f → Q I' R) : w_sr_put (q + a) n i v I R Q := by
  refine xc_put_any hn (fun I' hI => h I' ?_)
  rcases hI with rfl | ⟨k, rfl⟩
  · exact fs
  · exact xs_w1 hq fs ha
theorem xs_open {I0 I : pI} {R : pR} {q L f : Nat} {ts : List (Nat × Nat × Nat × Nat)} {Q : Int32 → pI → pR → Prop} {a b c : Int32} (hq : q = 54 ∨ q = 81) (fs : xs_FS I0 I q ts L f) (h : ∀ v I', xs_FS I0 I' q ts L f → Q v I' R) : w_st_open (q + 7) a b c I R Q := by
  obtain ⟨s, hs, e⟩ := fs.2.2.1 (7, 6, 61) (by decide)
  simp only at hs e
  have hc : (nI s).toNatClampNeg = s := nI_clamp (by omega)
  unfold w_st_open
  rw [e, hc]
  by_cases h61 : 61 ≤ s
  · exact xa_t ((xa_lle 61 (by omega) (by omega)).mpr h61) (h _ I fs)
  have hb : vp_in (nI s) 61 := vp_in_nI (by omega) (by decide)
  refine xa_f (fun hh => h61 ((xa_lle 61 (by omega) (by omega)).mp hh)) ⟨hb, fun I1 e1 => ?_⟩
  have s1 : I1 (q + 7) 6 = nI s := by rw [e1, xa_w]; simp [e]
  have f1 : xs_FS I0 I1 q ts L f := by rw [e1]; exact xs_w1 (a := 8) hq fs (by omega)
  rw [s1, hc]
  refine ⟨hb, fun I2 e2 => ?_⟩
  have s2 : I2 (q + 7) 6 = nI s := by rw [e2, xa_w]; simp [s1]
  have f2 : xs_FS I0 I2 q ts L f := by rw [e2]; exact xs_w1 (a := 9) hq f1 (by omega)
  rw [s2, hc]
  refine ⟨hb, fun I3 e3 => ?_⟩
  have s3 : I3 (q + 7) 6 = nI s := by rw [e3, xa_w]; simp [s2]
  have f3 : xs_FS I0 I3 q ts L f := by rw [e3]; exact xs_w1 (a := 11) hq f2 (by omega)
  rw [s3, hc]
  refine ⟨hb, fun I4 e4 => ?_⟩
  have s4 : I4 (q + 7) 6 = nI s := by rw [e4, xa_w]; simp [s3]
  have f4 : xs_FS I0 I4 q ts L f := by rw [e4]; exact xs_w1 (a := 12) hq f3 (by omega)
  rw [s4, hc]
  refine ⟨hb, fun I5 e5 => ?_⟩
  have s5 : I5 (q + 7) 6 = nI s := by rw [e5, xa_w]; simp [s4]
  have f5 : xs_FS I0 I5 q ts L f := by rw [e5]; exact xs_w1 (a := 13) hq f4 (by omega)
  rw [s5, nI_1]
  intro I6 e6
  refine h _ I6 ?_
  rw [e6]; exact xs_w2 (a := 7) (k := 6) (c := 61) hq f5 (by decide) (by omega)
theorem xs_rladd {I0 I : pI} {R : pR} {q L f : Nat} {ts : List (Nat × Nat × Nat × Nat)} {Q : Int32 → pI → pR → Prop} {a b : Int32} (hq : q = 54 ∨ q = 81) (fs : xs_FS I0 I q ts L f) (h : ∀ v I', xs_FS I0 I' q ts L f → Q v I' R) : w_rl_add (q + 14) a b I R Q := by
  obtain ⟨s, hs, e⟩ := fs.2.2.1 (14, 8, 22) (by decide)
  simp only at hs e
  have hc : (nI s).toNatClampNeg = s := nI_clamp (by omega)
  unfold w_rl_add
  rw [e, hc]
  by_cases h61 : 22 ≤ s
  · exact xa_t ((xa_lle 22 (by omega) (by omega)).mpr h61) (h _ I fs)
  have hb : vp_in (nI s) 22 := vp_in_nI (by omega) (by decide)
  refine xa_f (fun hh => h61 ((xa_lle 22 (by omega) (by omega)).mp hh)) ⟨hb, fun I1 e1 => ?_⟩
  have s1 : I1 (q + 14) 8 = nI s := by rw [e1, xa_w]; simp [e]
  have f1 : xs_FS I0 I1 q ts L f := by rw [e1]; exact xs_w1 (a := 15) hq fs (by omega)
  rw [s1, hc]
  refine ⟨hb, fun I2 e2 => ?_⟩
  have s2 : I2 (q + 14) 8 = nI s := by rw [e2, xa_w]; simp [s1]
  have f2 : xs_FS I0 I2 q ts L f := by rw [e2]; exact xs_w1 (a := 16) hq f1 (by omega)
  rw [s2, hc]
  refine ⟨hb, fun I3 e3 => ?_⟩
  have s3 : I3 (q + 14) 8 = nI s := by rw [e3, xa_w]; simp [s2]
  have f3 : xs_FS I0 I3 q ts L f := by rw [e3]; exact xs_w1 (a := 20) hq f2 (by omega)
  rw [s3, hc]
  refine ⟨hb, fun I4 e4 => ?_⟩
  have s4 : I4 (q + 14) 8 = nI s := by rw [e4, xa_w]; simp [s3]
  have f4 : xs_FS I0 I4 q ts L f := by rw [e4]; exact xs_w1 (a := 21) hq f3 (by omega)
  rw [s4, nI_1]
  intro I6 e6
  refine h _ I6 ?_
  rw [e6]; exact xs_w2 (a := 14) (k := 8) (c := 22) hq f4 (by decide) (by omega)
theorem xs_rlaim {I0 I : pI} {R : pR} {q L f : Nat} {ts : List (Nat × Nat × Nat × Nat)} {Q : pI → pR → Prop} {a b c d : Int32} (hq : q = 54 ∨ q = 81) (fs : xs_FS I0 I q ts L f) (h : ∀ I', xs_FS I0 I' q ts L f → Q I' R) : w_rl_aim (q + 14) a b c d I R Q := by
  unfold w_rl_aim
  exact xs_put 17 22 (by omega) (by omega) hq fs (fun I1 f1 => xs_put 18 22 (by omega) (by omega) hq f1 (fun I2 f2 => xs_put 19 22 (by omega) (by omega) hq f2 h))
theorem xs_answer {I0 I : pI} {R : pR} {q L f : Nat} {ts : List (Nat × Nat × Nat × Nat)} {Q : pI → pR → Prop} {a b : Int32} (hq : q = 54 ∨ q = 81) (fs : xs_FS I0 I q ts L f) (h : ∀ I', xs_FS I0 I' q ts L f → Q I' R) : w_rl_addAnswer (q + 14) a b I R Q := by
  obtain ⟨s, hs, e⟩ := fs.2.2.1 (14, 9, 61) (by decide)
  simp only at hs e
  have hc : (nI s).toNatClampNeg = s := nI_clamp (by omega)
  unfold w_rl_addAnswer
  rw [e, hc]
  by_cases h61 : 61 ≤ s
  · exact xa_t ((xa_lle 61 (by omega) (by omega)).mpr h61) (h I fs)
  have hb : vp_in (nI s) 61 := vp_in_nI (by omega) (by decide)
  refine xa_f (fun hh => h61 ((xa_lle 61 (by omega) (by omega)).mp hh)) ⟨hb, fun I1 e1 => ?_⟩
  have s1 : I1 (q + 14) 9 = nI s := by rw [e1, xa_w]; simp [e]
  have f1 : xs_FS I0 I1 q ts L f := by rw [e1]; exact xs_w1 (a := 22) hq fs (by omega)
  rw [s1, nI_1]
  intro I2 e2
  have f2 : xs_FS I0 I2 q ts L f := by rw [e2]; exact xs_w2 (a := 14) (k := 9) (c := 61) hq f1 (by decide) (by omega)
  exact xs_put 21 22 (by omega) (by omega) hq f2 h
theorem xs_close {I0 I : pI} {R : pR} {q L f : Nat} {ts : List (Nat × Nat × Nat × Nat)} {Q : pI → pR → Prop} {a b c : Int32} (hq : q = 54 ∨ q = 81) (fs : xs_FS I0 I q ts L f) (h : ∀ I', xs_FS I0 I' q ts L f → Q I' R) : w_st_close (q + 7) a b c I R Q := by
  unfold w_st_close
  exact xs_put 10 61 (by omega) (by omega) hq fs (fun I1 f1 => xs_put 12 61 (by omega) (by omega) hq f1 h)
theorem xs_rule166 {I0 I : pI} {R : pR} {q L f n : Nat} {ts : List (Nat × Nat × Nat × Nat)} {K : pI → pR → Prop} {Q : Int32 → pI → pR → Prop} {f4 x8 : Int32} (h : K I R) : l_ps_rule_166 q f4 K Q (n + 1) 0 x8 I R := by
  unfold l_ps_rule_166
  exact ⟨fun _ => h, fun _ => xa_t rfl h⟩
theorem xs_rule145 {I0 I : pI} {R : pR} {q L f : Nat} {ts : List (Nat × Nat × Nat × Nat)} {Q : Int32 → pI → pR → Prop} {a b c d x4 : Int32} (cx : xc_CX I0 R q ts L) (fs : xs_FS I0 I q ts L f) (h : ∀ v I', xs_FS I0 I' q ts L f → Q v I' R) : j_ps_rule_145 q Q x4 a b c d I R := by
  have hq := cx.2.2.2.2
  unfold j_ps_rule_145
  exact xs_rlaim hq fs (fun I1 f1 => xs_need 41 (by decide) cx f1 (fun I2 f2 => xs_take 266 (by decide) cx f2 ⟨1, xs_rule166 (I0 := I0) (L := L) (f := f) (ts := ts) (h _ I2 f2)⟩))
theorem xs_rule123 {I0 I : pI} {R : pR} {q L f : Nat} {ts : List (Nat × Nat × Nat × Nat)} {Q : Int32 → pI → pR → Prop} {x4 x5 s0 : Int32} (cx : xc_CX I0 R q ts L) (fs : xs_FS I0 I q ts L f) (h : ∀ v I', xs_FS I0 I' q ts L f → Q v I' R) : j_ps_rule_123 q Q x4 x5 s0 I R := by
  unfold j_ps_rule_123
  exact ⟨fun _ => xs_number cx fs (fun I1 f1 => xs_rule145 cx f1 h), fun _ => xs_rule145 cx fs h⟩
theorem xs_rule87 {I0 I : pI} {R : pR} {q L f : Nat} {ts : List (Nat × Nat × Nat × Nat)} {Q : Int32 → pI → pR → Prop} {x4 x5 : Int32} (k : Nat) (hk : k < 267 ∧ k ≠ 256 ∧ xp_lev k ≠ 2) (cx : xc_CX I0 R q ts L) (fs : xs_FS I0 I q ts L f) (h : ∀ v I', xs_FS I0 I' q ts L f → Q v I' R) : j_ps_rule_87 q Q x4 x5 (nI k) I R := by
  unfold j_ps_rule_87
  exact xs_need k hk cx fs (fun I1 f1 => xs_need 40 (by decide) cx f1 (fun I2 f2 => xs_take 95 (by decide) cx f2 (xa_t rfl (xs_take 33 (by decide) cx f2 (xa_t rfl (xs_rule123 cx f2 h))))))
theorem xs_rule71 {I0 I : pI} {R : pR} {q L f : Nat} {ts : List (Nat × Nat × Nat × Nat)} {Q : Int32 → pI → pR → Prop} {x4 s0 : Int32} (cx : xc_CX I0 R q ts L) (fs : xs_FS I0 I q ts L f) (h : ∀ v I', xs_FS I0 I' q ts L f → Q v I' R) : j_ps_rule_71 q Q x4 s0 I R := by
  unfold j_ps_rule_71
  exact ⟨fun _ => xs_rule87 77 (by decide) cx fs h, fun _ => xs_rule87 78 (by decide) cx fs h⟩
theorem xs_state235 {I0 I : pI} {R : pR} {q L f : Nat} {ts : List (Nat × Nat × Nat × Nat)} {Q : pI → pR → Prop} {x3 : Int32} (cx : xc_CX I0 R q ts L) (fs : xs_FS I0 I q ts L f) (h : ∀ I', xs_FS I0 I' q ts L f → Q I' R) : j_ps_statement_235 q Q x3 I R := by
  have hq := cx.2.2.2.2
  unfold j_ps_statement_235
  exact xc_endOf_any (fun v => ⟨q, cx.2.2.2.1, xc_sh hq, xs_close hq fs h⟩)
theorem xs_state229 {I0 I : pI} {R : pR} {q L f : Nat} {ts : List (Nat × Nat × Nat × Nat)} {Q : pI → pR → Prop} {x3 : Int32} (cx : xc_CX I0 R q ts L) (fs : xs_FS I0 I q ts L f) (h : ∀ I', xs_FS I0 I' q ts L f → Q I' R) : j_ps_statement_229 q Q x3 I R := by
  unfold j_ps_statement_229
  exact xs_chain 0 (by omega) cx fs (fun I1 f1 => xs_state235 cx f1 h)
theorem xs_state167 {I0 I : pI} {R : pR} {q L f : Nat} {ts : List (Nat × Nat × Nat × Nat)} {Q : pI → pR → Prop} {x1 x3 : Int32} (cx : xc_CX I0 R q ts L) (fs : xs_FS I0 I q ts L f) (h : ∀ I', xs_FS I0 I' q ts L f → Q I' R) : j_ps_statement_167 q Q x1 x3 I R := by
  unfold j_ps_statement_167
  exact ⟨fun _ => xs_state229 cx fs h, fun _ => xs_next cx fs (fun k hk hb => xa_f' (xa_ne 259 (by omega)) (xs_state229 cx fs h))⟩
theorem xs_state130 {I0 I : pI} {R : pR} {q L f : Nat} {ts : List (Nat × Nat × Nat × Nat)} {Q : pI → pR → Prop} {x1 x3 : Int32} (cx : xc_CX I0 R q ts L) (fs : xs_FS I0 I q ts L f) (h : ∀ I', xs_FS I0 I' q ts L f → Q I' R) : j_ps_statement_130 q Q x1 x3 I R := by
  unfold j_ps_statement_130
  refine ⟨fun _ => xs_state167 cx fs h, fun _ => ?_⟩
  unfold w_ps_ruleIsNext
  exact xs_next cx fs (fun k hk hb => xa_f (xa_ne 258 (by omega)) (xa_t rfl (xs_state167 cx fs h)))
theorem xs_state75 {I0 I : pI} {R : pR} {q L f : Nat} {ts : List (Nat × Nat × Nat × Nat)} {Q : pI → pR → Prop} {x1 x3 : Int32} (cx : xc_CX I0 R q ts L) (fs : xs_FS I0 I q ts L f) (h : ∀ I', xs_FS I0 I' q ts L f → Q I' R) : j_ps_statement_75 q Q x1 x3 I R := by
  unfold j_ps_statement_75
  exact ⟨fun _ => xs_state130 cx fs h, fun _ => xs_next cx fs (fun k hk hb => xa_f' (xa_ne 33 (by omega)) (xs_state130 cx fs h))⟩
theorem xs_statement {I0 I : pI} {R : pR} {q L f : Nat} {ts : List (Nat × Nat × Nat × Nat)} {Q : pI → pR → Prop} {a : Int32} (cx : xc_CX I0 R q ts L) (fs : xs_FS I0 I q ts L f) (h : ∀ I', xs_FS I0 I' q ts L f → Q I' R) : w_ps_statement a I R Q := by
  have hq := cx.2.2.2.2
  have cx1 := xs_cx cx fs
  have w := cx.2.2.1
  have := w.1; have := w.2.1
  obtain ⟨p, hp, hn, hbad, hw⟩ := xs_pos fs
  unfold w_ps_statement
  refine ⟨q, cx.2.2.2.1, xc_sh hq, ?_⟩
  rw [hn, xc_placeOf cx1 (by omega)]
  refine ⟨q, cx.2.2.2.1, xc_sh hq, xs_open hq fs (fun v I1 f1 => ?_)⟩
  have go : ∀ s1 : Int32, (s1 = 0 ∨ s1 = 1) → j_ps_statement_46 q Q a v s1 I1 R := by
    intro s1 hs1
    unfold j_ps_statement_46
    refine ⟨hs1, xa_a ?_⟩
    have f2 := xs_w8 (v := s1) hq f1
    exact ⟨fun _ => xs_state75 cx f2 h, fun _ => xs_take 88 (by decide) cx f2 (xa_t rfl (xs_state75 cx f2 h))⟩
  exact ⟨fun _ => go 0 (Or.inl rfl), fun _ => go 1 (Or.inr rfl)⟩
theorem xs_block {I0 I : pI} {R : pR} {q L f : Nat} {ts : List (Nat × Nat × Nat × Nat)} {Q : pI → pR → Prop} {a : Int32} (cx : xc_CX I0 R q ts L) (fs : xs_FS I0 I q ts L f) (h : ∀ I', xs_FS I0 I' q ts L f → Q I' R) : w_ps_block a I R Q := by
  unfold w_ps_block
  refine xs_need 58 (by decide) cx fs (fun I1 f1 => xs_statement cx f1 (fun I2 f2 => ⟨1, ?_⟩))
  unfold l_ps_block_13
  exact ⟨fun _ => h I2 f2, fun _ => xs_take 59 (by decide) cx f2 (xa_t rfl (h I2 f2))⟩
theorem xs_closePart {I0 I : pI} {R : pR} {q L f : Nat} {ts : List (Nat × Nat × Nat × Nat)} {Q : pI → pR → Prop} (hq : q = 54 ∨ q = 81) (fs : xs_FS I0 I q ts L f) (h : ∀ I', xs_FS I0 I' q ts L f → Q I' R) : w_ft_closePart q I R Q := by
  obtain ⟨s, hs, e⟩ := fs.2.2.1 (0, 8, 41) (by decide)
  simp only at hs e
  have e' : I q 8 = nI s := e
  unfold w_ft_closePart
  rw [e', nI_1]
  by_cases h61 : 41 ≤ s
  · exact xa_t ((xa_lle 41 (by omega) (by omega)).mpr h61) (h I fs)
  · refine xa_f (fun hh => h61 ((xa_lle 41 (by omega) (by omega)).mp hh)) (fun I1 e1 => ?_)
    have f1 : xs_FS I0 I1 q ts L f := by rw [e1]; exact xs_w2 (a := 0) (k := 8) (c := 41) hq fs (by decide) (by omega)
    exact xs_put 23 42 (by omega) (by omega) hq f1 h
theorem xs_part {I0 I : pI} {R : pR} {q L f : Nat} {ts : List (Nat × Nat × Nat × Nat)} {Q : pI → pR → Prop} (cx : xc_CX I0 R q ts L) (fs : xs_FS I0 I q ts L f) (h : ∀ I', xs_FS I0 I' q ts L f → Q I' R) : w_ps_part I R Q := by
  have hq := cx.2.2.2.2
  unfold w_ps_part w_ft_openPart
  refine ⟨q, cx.2.2.2.1, xc_sh hq, xs_put 23 42 (by omega) (by omega) hq fs (fun I1 f1 => xs_take 69 (by decide) cx f1 (xa_t rfl ?_))⟩
  exact xs_need 87 (by decide) cx f1 (fun I2 f2 => xs_block cx f2 (fun I3 f3 => xs_need 84 (by decide) cx f3 (fun I4 f4 => xs_block cx f4 (fun I5 f5 => ⟨q, cx.2.2.2.1, xc_sh hq, xs_closePart hq f5 h⟩))))
theorem xs_bar {I0 I : pI} {R : pR} {q L f : Nat} {ts : List (Nat × Nat × Nat × Nat)} {Q : Int32 → pI → pR → Prop} (cx : xc_CX I0 R q ts L) (fs : xs_FS I0 I q ts L f) (h : Q 0 I R) : w_ps_takeBar I R Q := by
  unfold w_ps_takeBar
  exact xs_take 124 (by decide) cx fs (xa_t' rfl (xs_take 265 (by decide) cx fs (xa_t rfl h)))
