section
variable (kd nm pl en : Nat → Nat)
def xk_feE3 (p : Nat) (a : List xi_I) : Option (Nat × Nat) := if kd p = 68 then xk_tbE kd nm pl en (p + 1) a (xk_ers none a) else xk_ers none a
def xk_feE2 (p : Nat) (a : List xi_I) : Option (Nat × Nat) := match xi_prs kd nm pl en 121 p a [] with
  | .inl _ => none
  | .inr (q, a', st) => if kd q = 67 then (match xi_blk kd nm pl en st.length 2 (q + 1) a' with
      | .inl _ => none
      | .inr (q2, a2) => xk_feE3 kd nm pl en q2 a2)
    else xk_feE3 kd nm pl en q a'
def xk_feE : Option (Nat × Nat) := if kd 0 = 71 then (match xi_blk kd nm pl en 0 0 1 [] with
    | .inl _ => none
    | .inr (q, a) => xk_feE2 kd nm pl en q a)
  else xk_feE2 kd nm pl en 0 []
end
theorem xi_rws_0 {kd nm pl en : Nat → Nat} : ∀ m p a rs q a' rs', xi_rws kd nm pl en m p a rs = .inr (q, a', rs') → ∃ t : List Nat, rs' = rs ++ t ∧ (m ≠ 0 → t[0]? = some a.length) := by
  intro m; induction m with
  | zero => intro p a rs q a' rs' h; cases h; exact ⟨[], by simp, fun h => absurd rfl h⟩
  | succ m ih =>
    intro p a rs q a' rs' h
    cases hc : xi_cel kd nm pl en rs.length 121 0 p a with
    | inl g => rw [xi_rws_l hc] at h; cases h
    | inr z =>
      obtain ⟨q1, a1⟩ := z
      rw [xi_rws_r hc] at h
      split at h
      · obtain ⟨t, h1, h2⟩ := ih _ _ _ _ _ _ h
        exact ⟨a.length :: t, by rw [h1]; simp, fun _ => rfl⟩
      · cases h; exact ⟨[a.length], rfl, fun _ => rfl⟩
theorem xi_tab_0 {kd nm pl en : Nat → Nat} {p q : Nat} {a a' : List xi_I} {h : List (Nat × Nat)} {rs : List Nat} (e : xi_tab kd nm pl en p a = .inr (q, a', h, rs)) : rs[0]? = some a.length := by
  unfold xi_tab at e
  split at e
  · cases e
  · split at e
    · cases e
    · split at e
      · cases e
      · split at e
        · cases e
        · rename_i hh
          cases e
          obtain ⟨t, h1, h2⟩ := xi_rws_0 _ _ _ _ _ _ _ hh
          rw [h1]; exact h2 (by decide)
/-- the reference has read a feature -/
def xk_OK (I : pI) (ts : List (Nat × Nat × Nat × Nat)) (L o : Nat) (F : xi_F) (er : Option (Nat × Nat)) : Prop := ∃ p its0 add, F.1 = its0 ++ add ∧ (∀ it, it ∈ its0 → xi_k it ≠ 8) ∧ ((F.2.2.2.2 = [] → add = []) ∧ ∀ s, F.2.2.2.2[0]? = some s → its0.length = s) ∧ xk_ST I ts L o p F.2.1.length F.2.2.2.2.length F.2.2.2.1 F.1 (xk_evs its0 ++ xk_hev F.2.2.2.1 ++ xk_evs add) er (-1)
theorem xk_end {I : pI} {R : pR} {L p : Nat} {ts : List (Nat × Nat × Nat × Nat)} {Q : Int32 → pI → pR → Prop} (tk : xr_TK I ts L) (hat : I 121 7 = nI p) (hp : p < ts.length + 6) (h1 : xt_kd ts L p = 256 → Q 1 (pw_wI I 121 7 (nI (p + 1))) R) (h2 : xt_kd ts L p ≠ 256 → ∀ I', I' 121 8 = nI (xt_pl ts L p) → (∀ b, xa_fr (xr_S b) I I') → Q 0 I' R) : w_md_want (0 : Int32) I R Q := by
  have a1 := tk.1.1; have a2 := tk.1.2.1
  have hkb := xt_ka_b (xt_kd_b tk.1 (i := p))
  have he := (xt_ka_1 tk.1 (p := p)).2.2
  unfold w_md_want
  rw [hat, nI_clamp (by omega), (tk.2 p hp).1, nI_1]
  refine ⟨vp_in_nI (by omega) (by omega), ?_⟩
  by_cases h : xt_kd ts L p = 256
  · exact xa_t (xa_e 0 (he.mpr h)) (xa_a (h1 h))
  · exact xa_f (xa_ne 0 (by omega)) (xr_fail tk hat hp (h2 h _ (by rw [xa_w]; simp) (fun b => xa_fr_w (xa_fr_r _ _) rfl)))
theorem xk_fea3 {I : pI} {R : pR} {L o p pe : Nat} {stt : List Nat} {ts : List (Nat × Nat × Nat × Nat)} {its : List xi_I} {Q : Int32 → pI → pR → Prop} (ho : o ≤ 1) (n : xk_N I ts L o p stt.length its)
    (h1 : ∀ F, xi_fea3 (xt_kd ts L) (xt_nm ts L) (xt_pl ts L) (xt_en ts L) p its stt pe = .inr F → ∀ I', xk_OK I' ts L o F (xk_feE3 (xt_kd ts L) (xt_nm ts L) (xt_pl ts L) (xt_en ts L) p its) → xa_fr (xk_S o) I I' → Q 1 I' R)
    (h2 : ∀ g, xi_fea3 (xt_kd ts L) (xt_nm ts L) (xt_pl ts L) (xt_en ts L) p its stt pe = .inl g → ∀ I', I' 121 8 = nI (xt_pl ts L g) → xa_fr (xk_S o) I I' → Q 0 I' R) : j_md_feature_154 Q I R := by
  have hn := n
  obtain ⟨st, hp, bd, nc⟩ := n
  have tk := st.1
  have w := tk.1
  have a1 := w.1; have a2 := w.2.1
  have kb := xt_ka_b (xt_kd_b w (i := p))
  have k68 := xt_ka_eq w (p := p) 68 (by decide)
  unfold j_md_feature_154
  rw [st.2.1.1, nI_clamp (by omega), (xr_tok tk hp).1]
  refine ⟨vp_in_nI (by omega) (by omega), ?_⟩
  by_cases h68 : xt_kd ts L p = 68
  · refine xa_t' (xa_e 68 (k68.mpr h68)) ?_
    refine xk_tab ho hn h68 (fun p' its' h rs e I' add ha st' hT fr' => xa_f' (by decide) ?_) (fun g hg I' f' fr' => xa_t' rfl (h2 g ?_ I' f' fr'))
    · refine xk_end st'.1 st'.2.1.1 (by omega) (fun hE => ?_) (fun hE I2 f2 fr2 => ?_)
      · obtain ⟨st2, fr2⟩ := xk_ST_at (p' + 1) st'
        refine h1 (its', stt, pe, h, rs) ?_ _ ⟨p' + 1, its, add, ha, nc, ⟨fun hn => absurd (xi_tab_0 e) (by rw [show rs = [] from hn]; simp), fun s hs => by have := xi_tab_0 e; rw [show rs[0]? = some s from hs] at this; exact (Option.some.inj this).symm⟩, ?_⟩ (xa_fr_t fr' fr2)
        · unfold xi_fea3; rw [if_pos h68, e]; simp [hE]
        · unfold xk_feE3; rw [if_pos h68]; exact st2
      · refine h2 p' ?_ I2 f2 (xa_fr_t fr' (xa_fr_m (fr2 (400 * o)) xk_S_r))
        unfold xi_fea3; rw [if_pos h68, e]; simp [hE]
    · unfold xi_fea3; rw [if_pos h68, hg]
  · refine xa_f' (xa_ne 68 (by omega)) ?_
    refine xk_end tk st.2.1.1 (by omega) (fun hE => ?_) (fun hE I2 f2 fr2 => ?_)
    · obtain ⟨st2, fr2⟩ := xk_ST_at (p + 1) st
      refine h1 (its, stt, pe, [], []) ?_ _ ⟨p + 1, its, [], by simp, nc, ⟨fun _ => rfl, fun s hs => by simp at hs⟩, ?_⟩ fr2
      · unfold xi_fea3; rw [if_neg h68, if_pos hE]
      · unfold xk_feE3; rw [if_neg h68]; simpa [xk_hev, xk_evs] using st2
    · refine h2 p ?_ I2 f2 (xa_fr_m (fr2 (400 * o)) xk_S_r)
      unfold xi_fea3; rw [if_neg h68, if_neg hE]
theorem xk_fea2 {I : pI} {R : pR} {L o p : Nat} {ts : List (Nat × Nat × Nat × Nat)} {its : List xi_I} {Q : Int32 → pI → pR → Prop} (ho : o ≤ 1) (n : xk_N I ts L o p 0 its)
    (h1 : ∀ F, xi_fea2 (xt_kd ts L) (xt_nm ts L) (xt_pl ts L) (xt_en ts L) p its = .inr F → ∀ I', xk_OK I' ts L o F (xk_feE2 (xt_kd ts L) (xt_nm ts L) (xt_pl ts L) (xt_en ts L) p its) → xa_fr (xk_S o) I I' → Q 1 I' R)
    (h2 : ∀ g, xi_fea2 (xt_kd ts L) (xt_nm ts L) (xt_pl ts L) (xt_en ts L) p its = .inl g → ∀ I', I' 121 8 = nI (xt_pl ts L g) → xa_fr (xk_S o) I I' → Q 0 I' R) : ∃ n1, l_md_feature_28 (fun I7 R6 => (vp_in (I7 121 7) 128 ∧ ((¬ (I7 123 (I7 121 7).toNatClampNeg) = (67 : Int32) → (j_md_feature_154 Q I7 R6)) ∧ ((I7 123 (I7 121 7).toNatClampNeg) = (67 : Int32) → (w_md_block (67 : Int32) (8 : Int32) I7 R6 (fun v7 I11 R10 => ((¬ v7 = 0 → (j_md_feature_154 Q I11 R10)) ∧ (v7 = 0 → Q (0 : Int32) I11 R10)))))))) Q n1 (1 : Int32) I R := by
  have w := n.1.1.1
  have a1 := w.1; have a2 := w.2.1
  refine ⟨122, xk_prs (ts := ts) (L := L) ho 121 p its [] I (by omega) n (fun q its' stt e I' n' fr' => ?_) (fun g hg I' f' fr' => h2 g ?_ I' f' fr')⟩
  · have kb := xt_ka_b (xt_kd_b w (i := q))
    have k67 := xt_ka_eq w (p := q) 67 (by decide)
    have hq := n'.2.1
    show vp_in (I' 121 7) 128 ∧ _
    rw [n'.1.2.1.1, nI_clamp (by omega), (xr_tok n'.1.1 hq).1]
    refine ⟨vp_in_nI (by omega) (by omega), ?_⟩
    by_cases h67 : xt_kd ts L q = 67
    · refine xa_t' (xa_e 67 (k67.mpr h67)) ?_
      refine xk_blk (k := 2) (c := 67) ho (by omega) (by omega) n' (fun q2 its2 _ h I2 n2 hpp fr2 => xa_f' (by decide) ?_) (fun g h I2 f2 fr2 => xa_t' rfl (h2 g ?_ I2 f2 (xa_fr_t fr' fr2)))
      · refine xk_fea3 (pe := its'.length) ho n2 (fun F hF I3 ok fr3 => h1 F ?_ I3 ?_ (xa_fr_t fr' (xa_fr_t fr2 fr3))) (fun g hg I3 f3 fr3 => h2 g ?_ I3 f3 (xa_fr_t fr' (xa_fr_t fr2 fr3)))
        · unfold xi_fea2; rw [e]; dsimp only; rw [if_pos h67, h]; exact hF
        · unfold xk_feE2; rw [e]; dsimp only; rw [if_pos h67, h]; exact ok
        · unfold xi_fea2; rw [e]; dsimp only; rw [if_pos h67, h]; exact hg
      · rcases h with ⟨h, _⟩ | ⟨_, h⟩
        · exact absurd h67 h
        · unfold xi_fea2; rw [e]; dsimp only; rw [if_pos h67, h]
    · refine xa_f' (xa_ne 67 (by omega)) ?_
      refine xk_fea3 (pe := its'.length) ho n' (fun F hF I3 ok fr3 => h1 F ?_ I3 ?_ (xa_fr_t fr' fr3)) (fun g hg I3 f3 fr3 => h2 g ?_ I3 f3 (xa_fr_t fr' fr3))
      · unfold xi_fea2; rw [e]; dsimp only; rw [if_neg h67]; exact hF
      · unfold xk_feE2; rw [e]; dsimp only; rw [if_neg h67]; exact ok
      · unfold xi_fea2; rw [e]; dsimp only; rw [if_neg h67]; exact hg
  · unfold xi_fea2; rw [hg]
theorem xk_fea {I : pI} {R : pR} {L o : Nat} {ts : List (Nat × Nat × Nat × Nat)} {Q : Int32 → pI → pR → Prop} (ho : o ≤ 1) (n : xk_N I ts L o 0 0 [])
    (h1 : ∀ F, xi_fea (xt_kd ts L) (xt_nm ts L) (xt_pl ts L) (xt_en ts L) = .inr F → ∀ I', xk_OK I' ts L o F (xk_feE (xt_kd ts L) (xt_nm ts L) (xt_pl ts L) (xt_en ts L)) → xa_fr (xk_S o) I I' → Q 1 I' R)
    (h2 : ∀ g, xi_fea (xt_kd ts L) (xt_nm ts L) (xt_pl ts L) (xt_en ts L) = .inl g → ∀ I', I' 121 8 = nI (xt_pl ts L g) → xa_fr (xk_S o) I I' → Q 0 I' R) : w_md_feature I R Q := by
  have tk := n.1.1
  have w := tk.1
  have a1 := w.1; have a2 := w.2.1
  have kb := xt_ka_b (xt_kd_b w (i := 0))
  have k71 := xt_ka_eq w (p := 0) 71 (by decide)
  unfold w_md_feature
  rw [n.1.2.1.1, nI_clamp (by omega), (xr_tok tk n.2.1).1]
  refine ⟨vp_in_nI (by omega) (by omega), ?_⟩
  by_cases h71 : xt_kd ts L 0 = 71
  · refine xa_t' (xa_e 71 (k71.mpr h71)) ?_
    refine xk_blk (k := 0) (c := 71) ho (by omega) (by omega) n (fun q2 its2 _ h I2 n2 hpp fr2 => xa_f' (by decide) ?_) (fun g h I2 f2 fr2 => xa_t' rfl (h2 g ?_ I2 f2 fr2))
    · refine xk_fea2 ho n2 (fun F hF I3 ok fr3 => h1 F ?_ I3 ?_ (xa_fr_t fr2 fr3)) (fun g hg I3 f3 fr3 => h2 g ?_ I3 f3 (xa_fr_t fr2 fr3))
      · unfold xi_fea; rw [if_pos h71, h]; exact hF
      · unfold xk_feE; rw [if_pos h71, h]; exact ok
      · unfold xi_fea; rw [if_pos h71, h]; exact hg
    · rcases h with ⟨h, _⟩ | ⟨_, h⟩
      · exact absurd h71 h
      · unfold xi_fea; rw [if_pos h71, h]
  · refine xa_f' (xa_ne 71 (by omega)) ?_
    refine xk_fea2 ho n (fun F hF I3 ok fr3 => h1 F ?_ I3 ?_ fr3) (fun g hg I3 f3 fr3 => h2 g ?_ I3 f3 fr3)
    · unfold xi_fea; rw [if_neg h71]; exact hF
    · unfold xk_feE; rw [if_neg h71]; exact ok
    · unfold xi_fea; rw [if_neg h71]; exact hg
