/-! THE CLASS'S READER: expressions -/
theorem xa_ne {a : Nat} (k : Nat) (h : a ≠ k ∧ a < 2 ^ 31 ∧ k < 2 ^ 31) : ¬ nI a = (OfNat.ofNat k : Int32) := fun e => h.1 ((xa_eql k h.2.1 h.2.2).mp e)
theorem xa_e {a : Nat} (k : Nat) (h : a = k) : nI a = (OfNat.ofNat k : Int32) := by subst h; rfl
def xc_mu (k lv dp : Nat) : Nat := 9 * (4 - dp) + (if k = 0 then 9 - lv else if k = 1 then 3 else if k = 2 then 2 else 1)
def xc_OK (I : pI) (q : Nat) : Prop := ∃ s, s ≤ 120 ∧ I (q + 2) 4 = nI s
theorem xp_lev2 {k : Nat} (h : k = 256 ∨ xp_lev k = 2) : k = 256 ∨ k = 260 ∨ k = 261 ∨ k = 262 ∨ k = 263 ∨ k = 60 ∨ k = 62 := by
  rcases h with h | h
  · exact Or.inl h
  · unfold xp_lev at h
    split at h
    · omega
    · split at h
      · omega
      · split at h
        · rename_i h3; exact Or.inr h3
        · split at h
          · omega
          · split at h <;> omega
theorem xc_l_exit {W : Nat → Int32 → Int32 → pI → pR → (pI → pR → Prop) → Prop} {I : pI} {R : pR} {q L p lv n : Nat} {f2 f3 x4 : Int32} {ts : List (Nat × Nat × Nat × Nat)} {K Q : pI → pR → Prop} (cx : xc_CX I R q ts L) (hn : I 108 2 = nI p) (hp : p < 2 ^ 31) (hlv : lv ≤ 4) (hl : xp_lev (xt_kd ts L p) ≠ lv) (hK : K I R) : l_ps_chain_34 W (nI lv) f2 f3 K Q (n + 1) x4 I R := by
  unfold l_ps_chain_34
  refine ⟨fun _ => hK, fun _ => ?_⟩
  rw [xc_next cx hn hp, xc_levelOf (by have := xt_kd_b cx.2.2.1 (i := p); omega)]
  exact xa_f' (fun e => hl ((xc_lev_eq hlv).mp e)) hK
theorem xc_stk {R : pR} {q L v : Nat} {ts : List (Nat × Nat × Nat × Nat)} (hv : v < 2 ^ 31) : ∀ n k lv dp p I (Q : pI → pR → Prop) (a b : Int32), k ≤ 3 → lv ≤ 5 → dp ≤ 4 → xc_mu k lv dp ≤ n → (k = 0 → a = nI lv ∧ b = nI dp) → (k ≠ 0 → a = nI dp) → xc_CX I R q ts L → I 108 2 = nI p → p ≤ ts.length → (xt_kd ts L p = 256 ∨ xp_lev (xt_kd ts L p) = 2) → (I 108 3 = nI v ∨ (I 108 3 = -1 ∧ xt_pl ts L p = v)) → xc_OK I q → (∀ I', I' 108 2 = nI ts.length → I' 108 3 = nI v → xc_OK I' q → xa_fr (xc_S q 0) I I' → Q I' R) → w_pg n k a b I R Q := by
  intro n; induction n with
  | zero => intro k lv dp p I Q a b _ _ _ h; unfold xc_mu at h; split at h <;> (try split at h) <;> (try split at h) <;> omega
  | succ n ih =>
    intro k lv dp p I Q a b hk hlv hdp hmu ha hb cx hn hp hbad hw hok hQ
    have w := cx.2.2.1
    have hT := w.2.1
    have hL := w.1
    have hkb := xt_kd_b w (i := p)
    have hbd := xp_lev2 hbad
    rcases (show k = 0 ∨ k = 1 ∨ k = 2 ∨ k = 3 by omega) with rfl | rfl | rfl | rfl
    · obtain ⟨rfl, rfl⟩ := ha rfl
      show v_ps_chain (w_pg n) _ _ I R Q
      unfold v_ps_chain
      by_cases h4 : lv ≤ 4
      · refine xa_t ((xa_lel 4 (by omega) (by omega)).mpr h4) ?_
        refine ih 0 (lv + 1) dp p I _ _ _ (by omega) (by omega) hdp (by unfold xc_mu at hmu ⊢; simp at hmu ⊢; omega) (fun _ => ⟨nI_1 lv, rfl⟩) (fun h => absurd rfl h) cx hn hp hbad hw hok (fun I1 a1 a2 a3 a4 => ?_)
        have cx1 := xc_CX_fr cx a4 (xc_S_tk cx.2.2.2.2)
        have hl : xp_lev (xt_kd ts L ts.length) ≠ lv := by
          unfold xt_kd; rw [xt_at_ge (Nat.le_refl _)]; show xp_lev 256 ≠ lv; rw [show xp_lev 256 = 9 by decide]; omega
        exact ⟨fun _ => ⟨1, xc_l_exit cx1 a1 (by omega) h4 hl (hQ I1 a1 a2 a3 a4)⟩, fun _ => ⟨1, xc_l_exit cx1 a1 (by omega) h4 hl (hQ I1 a1 a2 a3 a4)⟩⟩
      · refine xa_f (fun h => h4 ((xa_lel 4 (by omega) (by omega)).mp h)) ?_
        exact ih 1 0 dp p I _ _ _ (by omega) (by omega) hdp (by unfold xc_mu at hmu ⊢; simp at hmu ⊢; omega) (fun h => by omega) (fun _ => rfl) cx hn hp hbad hw hok hQ
    · have ha' := hb (by decide); subst ha'
      show v_ps_unary (w_pg n) _ I R Q
      unfold v_ps_unary
      rw [xc_next cx hn (by omega)]
      refine xa_f (xa_ne 45 (by omega)) (xa_f (xa_ne 33 (by omega)) ?_)
      exact ih 2 0 dp p I _ _ _ (by omega) (by omega) hdp (by unfold xc_mu at hmu ⊢; simp at hmu ⊢; omega) (fun h => by omega) (fun _ => rfl) cx hn hp hbad hw hok hQ
    · have ha' := hb (by decide); subst ha'
      show v_ps_atom (w_pg n) _ I R Q
      unfold v_ps_atom
      rw [hn, xc_placeOf cx (by omega), xc_next cx hn (by omega)]
      refine xa_f' (xa_ne 258 (by omega)) (xa_f' (xa_ne 259 (by omega)) (xa_f (xa_ne 77 (by omega)) (xa_f' (xa_ne 78 (by omega)) (xa_f' (xa_ne 79 (by omega)) ?_))))
      exact ih 3 0 dp p I _ _ _ (by omega) (by omega) hdp (by unfold xc_mu at hmu ⊢; simp at hmu ⊢; omega) (fun h => by omega) (fun _ => rfl) cx hn hp hbad hw hok hQ
    · have ha' := hb (by decide); subst ha'
      show v_ps_group (w_pg n) _ I R Q
      unfold v_ps_group
      rw [xc_next cx hn (by omega)]
      refine xa_f' (xa_ne 40 (by omega)) ?_
      have hfin : ∀ I', I' 108 2 = nI ts.length → I' 108 3 = nI v → xa_fr xc_S8 I I' → Q I' R := by
        intro I' a1 a2 a3
        have a4 := xa_fr_m a3 (xc_S8_S (q := q) (s := 0))
        obtain ⟨s, h1, h2⟩ := hok
        refine hQ I' a1 a2 ⟨s, h1, ?_⟩ a4
        rw [a3 _ _ ?_]; exact h2
        simp only [xc_S8, Bool.and_eq_false_iff, beq_eq_false_iff_ne]; left; have := cx.2.2.2.2; omega
      rcases hw with hw | ⟨hw, hpv⟩
      · exact xc_fail2 cx hw hv hfin
      · subst hpv; exact xc_fail1 cx hn hp hw hfin
def xc_ST (I : pI) (q p s : Nat) (ok : Bool) : Prop := I 108 2 = nI p ∧ I 108 3 = -1 ∧ I 108 4 = (if ok = true then 1 else 0) ∧ I (q + 2) 4 = nI s
def xc_FL (I I' : pI) (q : Nat) (ts : List (Nat × Nat × Nat × Nat)) (L f : Nat) (cm : Prop) : Prop := f ≤ ts.length ∧ ((I' 108 2 = nI ts.length ∧ I' 108 3 = nI (xt_pl ts L f)) ∨ (cm ∧ I' 108 2 = nI f ∧ I' 108 3 = -1 ∧ xp_lev (xt_kd ts L f) = 2)) ∧ xc_OK I' q ∧ xa_fr (xc_S q 0) I I'
def xc_PO (I I' : pI) (q s p : Nat) (c : List xp_I) (ok : Bool) : Prop := xc_ST I' q p (s + c.length) ok ∧ xc_CD I' q s c ∧ xa_fr (xc_S q s) I I'
theorem xc_ST_now {I : pI} {q p s p' : Nat} {ok : Bool} (hq : q = 54 ∨ q = 81) (st : xc_ST I q p s ok) : xc_ST (pw_wI I 108 2 (nI p')) q p' s ok := by
  obtain ⟨h1, h2, h3, h4⟩ := st
  refine ⟨by rw [xa_w]; simp, by rw [xa_w]; simpa using h2, by rw [xa_w]; simpa using h3, ?_⟩
  rw [xa_w, if_neg (by omega)]; exact h4
theorem xc_fr_now {I : pI} {q s : Nat} {k : Nat} {v : Int32} : xa_fr (xc_S q s) I (pw_wI I 108 k v) := xa_fr_w (xa_fr_r _ _) (by simp [xc_S])
theorem xc_ST_S1 {I I' : pI} {q p s s' : Nat} {ok : Bool} (hq : q = 54 ∨ q = 81) (st : xc_ST I q p s ok) (fr : xa_fr (xc_S1 q s) I I') (hs : I' (q + 2) 4 = nI s') : xc_ST I' q p s' ok := by
  have f : ∀ k, I' 108 k = I 108 k := fun k => fr 108 k (by simp only [xc_S1, Bool.or_eq_false_iff, Bool.and_eq_false_iff, beq_eq_false_iff_ne]; omega)
  exact ⟨by rw [f]; exact st.1, by rw [f]; exact st.2.1, by rw [f]; exact st.2.2.1, hs⟩
theorem xc_PO_add {I I1 I' : pI} {q s p k d e : Nat} {c : List xp_I} {ok : Bool} (hq : q = 54 ∨ q = 81) (po : xc_PO I I1 q s p c ok) (h0 : I' (q + 2) 4 = nI (s + c.length + 1)) (h1 : I' (q + 3) (s + c.length) = nI k) (h2 : I' (q + 4) (s + c.length) = nI d) (h3 : I' (q + 5) (s + c.length) = nI (s + c.length + 1)) (h4 : I' (q + 6) (s + c.length) = nI e) (fr : xa_fr (xc_S1 q (s + c.length)) I1 I') : xc_PO I I' q s p (c ++ [(k, d, 1, e)]) ok := by
  obtain ⟨a, b, f⟩ := po
  refine ⟨?_, ?_, xa_fr_t f (xa_fr_m fr (xc_S1_S (by omega)))⟩
  · have := xc_ST_S1 hq a fr h0
    simpa [Nat.add_assoc] using this
  · exact xc_CD_app (xc_CD_fr hq b (xa_fr_m fr (xc_S1_S (Nat.le_refl _))) (Nat.le_refl _)) (xc_CD_one h1 h2 h3 h4)
theorem xc_need_stk {I I' : pI} {R : pR} {q L f k : Nat} {ts : List (Nat × Nat × Nat × Nat)} {cm : Prop} {Q : pI → pR → Prop} (cx : xc_CX I' R q ts L) (fl : xc_FL I I' q ts L f cm) (hk : k < 267 ∧ k ≠ 256 ∧ xp_lev k ≠ 2) (h : ∀ I2, xc_FL I I2 q ts L f False → xa_fr xc_S8 I' I2 → Q I2 R) : w_ps_need (nI k) I' R Q := by
  obtain ⟨hf, hst, ⟨s, hs1, hs2⟩, fr⟩ := fl
  have w := cx.2.2.1
  have hT := w.2.1
  have hL := w.1
  have hq := cx.2.2.2.2
  have hpb := xt_pl_b w (i := f)
  have fin : ∀ I2, I2 108 2 = nI ts.length → I2 108 3 = nI (xt_pl ts L f) → xa_fr xc_S8 I' I2 → Q I2 R := by
    intro I2 a1 a2 a3
    refine h I2 ⟨hf, Or.inl ⟨a1, a2⟩, ⟨s, hs1, ?_⟩, xa_fr_t fr (xa_fr_m a3 xc_S8_S)⟩ a3
    rw [a3 _ _ ?_]; exact hs2
    simp only [xc_S8, Bool.and_eq_false_iff, beq_eq_false_iff_ne]; left; omega
  unfold w_ps_need
  rcases hst with ⟨h1, h2⟩ | ⟨_, h1, h2, h3⟩
  · rw [h1, xc_kindAt cx (by omega)]
    have e : xt_kd ts L ts.length = 256 := by unfold xt_kd; rw [xt_at_ge (Nat.le_refl _)]
    rw [e]
    refine xa_f (fun hh => hk.2.1 ((nI_eq (by omega) (by omega)).mp hh).symm) ?_
    exact xc_fail2 cx h2 (by omega) fin
  · rw [h1, xc_kindAt cx (by omega)]
    have hkb := xt_kd_b w (i := f)
    refine xa_f (fun hh => hk.2.2 (by rw [← (nI_eq (by omega) (by omega)).mp hh]; exact h3)) ?_
    exact xc_fail1 cx h1 hf h2 fin
