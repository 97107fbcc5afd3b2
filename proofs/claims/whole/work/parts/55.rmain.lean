theorem xp_lenu {ts : List (Nat × Nat × Nat × Nat)} {L : Nat} (w : xt_WF ts L) {n k lv dp p p' : Nat} {ok : Bool} {x : xp_X} (hlv : lv ≤ 5) (hk : k ≤ 3) (h : xp_P (xt_kd ts L) (xt_nm ts L) (xt_pl ts L) n k lv dp ok p = .inr (p', x)) : x.2.2.2.1.length + xt_pl ts L p ≤ xt_pl ts L p' := by
  have := xp_ind (kd := xt_kd ts L) (nm := xt_nm ts L) (pl := xt_pl ts L) (fun lv dp ok p p' x => x.2.2.2.1.length + xt_pl ts L p ≤ xt_pl ts L p')
    (fun dp ok p h => by
      have h2 := xt_pl_s w (i := p) (by omega)
      simp [xp_num]; omega)
    (fun dp ok p h => by
      have h2 := xt_pl_s w (i := p) (by omega)
      simp [xp_var]; omega)
    (fun dp ok p q x _ h a => by
      have h2 := xt_pl_s w (i := p) (by omega)
      simp [xp_neg]; omega)
    (fun dp ok p q x _ h a => by
      have h2 := xt_pl_s w (i := p) (by omega)
      simp [xp_not]; omega)
    (fun dp ok p q x _ h hq a => by
      have h2 := xt_pl_s w (i := p) (by omega)
      have h3 := xt_pl_s w (i := q) (by omega)
      omega)
    (fun dp ok p q x _ h h40 hq a => by
      have h2 := xt_pl_s w (i := p) (by omega)
      have h5 : xt_pl ts L (p + 1) + 1 ≤ xt_pl ts L (p + 2) := xt_pl_s w (i := p + 1) (by omega)
      have h3 := xt_pl_s w (i := q) (by omega)
      simp [xp_call]; omega)
    (fun dp p q x _ h h40 hq a => by
      have h2 := xt_pl_s w (i := p) (by omega)
      have h5 : xt_pl ts L (p + 1) + 1 ≤ xt_pl ts L (p + 2) := xt_pl_s w (i := p + 1) (by omega)
      have h3 := xt_pl_s w (i := q) (by omega)
      simp [xp_old]; omega)
    (fun lv dp ok p q x _ a => a)
    (fun lv dp ok p q q' x y _ h4 hl a b => by
      have h2 := xt_pl_s w (i := q) (xp_lev_ne (by omega))
      simp [xp_bin]; omega)
    (fun lv dp ok p q q' x y h4 hl a b => by
      have h2 := xt_pl_s w (i := q) (xp_lev_ne (by omega))
      simp [xp_lg]; omega)
    n k lv dp ok p p' x hlv h
  rcases (show k = 0 ∨ (k = 1 ∨ k = 2) ∨ k = 3 by omega) with hk | hk | hk
  · exact this.1 hk
  · exact this.2.1 hk
  · obtain ⟨_, h40, q, e, h41, a⟩ := this.2.2 hk
    subst e
    have h2 := xt_pl_s w (i := p) (by omega)
    have h3 := xt_pl_s w (i := q) (by omega)
    omega
theorem xr_uv_app (rc : Int32) (u v : List (Nat × Nat)) : xr_uv rc (u ++ v) = xr_uv rc u ++ xr_uv rc v := List.map_append
theorem xr_uv_len (rc : Int32) (u : List (Nat × Nat)) : (xr_uv rc u).length = u.length := List.length_map _
theorem xr_red_lg {b f pl ka : Nat} {o : Nat} {A : List xp_I} {x y : xp_X} {G : List xp_I} (hk : xr_rk (xt_ka o) < 3) (hf : f = b + (G ++ x.2.1).length) : xr_red b [(xt_ka o, pl, f)] (G ++ x.2.1 ++ [(205, 0, 0, pl)] ++ y.2.1) = G ++ (xp_lg o x y pl).2.1 := by
  subst hf
  show (if xr_rk (xt_ka o) < 3 then xr_pt (b + (G ++ x.2.1).length - b) (G ++ x.2.1 ++ [(205, 0, 0, pl)] ++ y.2.1) else _) ++ [(xt_ka o, 0, 0, pl)] = _
  rw [if_pos hk, show b + (G ++ x.2.1).length - b = (G ++ x.2.1).length by omega]
  rw [show G ++ x.2.1 ++ [(205, 0, 0, pl)] ++ y.2.1 = (G ++ x.2.1) ++ (205, 0, 0, pl) :: y.2.1 by simp]
  rw [xr_pt_mid]
  simp [xp_lg]
theorem xr_red_bin {b f pl : Nat} {o : Nat} {x y : xp_X} {G : List xp_I} (hk : ¬ xr_rk (xt_ka o) < 3) : xr_red b [(xt_ka o, pl, f)] (G ++ x.2.1 ++ [] ++ y.2.1) = G ++ (xp_bin o x y pl).2.1 := by
  show (if xr_rk (xt_ka o) < 3 then _ else (G ++ x.2.1 ++ [] ++ y.2.1)) ++ [(xt_ka o, 0, 0, pl)] = _
  rw [if_neg hk]
  simp [xp_bin]
def xr_OP (R : pR) (ts : List (Nat × Nat × Nat × Nat)) (L b F1 : Nat) (f2 rc : Int32) (K : pI → pR → Prop) (Q : Int32 → pI → pR → Prop) (dp mk ib lv : Nat) (f : Nat → Nat ⊕ (Nat × xp_X)) : Prop :=
  ∀ p W' G ev I, xr_TK I ts L → I 121 52 = rc → xr_ST I b p W' G dp mk ib 1 ev → p ≤ ts.length → G.length + W'.length ≤ xt_pl ts L p → ev.length ≤ xt_pl ts L p → W'.length ≤ 6 * dp + lv → xr_HW lv W' →
   (∀ p' x, f p = .inr (p', x) → ∀ I' E G', xr_ST I' b p' (E ++ W') G' dp mk ib 0 (ev ++ xr_uv rc x.2.2.2.1) → xr_EO (lv + 1) b G'.length E → xr_red b E G' = G ++ x.2.1 → E.length + lv ≤ 5 → G.length ≤ G'.length → xa_fr (xr_S b) I I' → xr_LP (nI F1) f2 K Q R ts.length p' I') →
   (∀ g, f p = .inl g → ∀ I', I' 121 8 = nI (xt_pl ts L g) → xa_fr (xr_S b) I I' → Q 0 I' R) → xr_LP (nI F1) f2 K Q R ts.length p I
theorem xr_S_52 {b : Nat} : xr_S b 121 52 = false := by simp [xr_S]
theorem xr_ns {o : Nat} (h : xr_rk o ≠ 0) : o ≠ 203 ∧ o ≠ 204 := ⟨fun e => h (by subst e; rfl), fun e => h (by subst e; rfl)⟩
theorem xr_loop {R : pR} {ts : List (Nat × Nat × Nat × Nat)} {L b F1 dp mk ib lv : Nat} {f2 rc : Int32} {K : pI → pR → Prop} {Q : Int32 → pI → pR → Prop} {f : Nat → Nat ⊕ (Nat × xp_X)} {W : List (Nat × Nat × Nat)} (hlv : lv ≤ 4) (h2 : lv ≠ 2) (hb4 : b ≤ 400) (hF : F1 ≤ 10) (hmk : mk ≤ 10) (hdp : dp ≤ 4) (hop : xr_OP R ts L b F1 f2 rc K Q dp mk ib (lv + 1) f)
    (hlen : ∀ p p' x, f p = .inr (p', x) → p < p' ∧ p' ≤ ts.length ∧ x.2.1.length + xt_pl ts L p ≤ xt_pl ts L p' ∧ x.2.2.2.1.length + xt_pl ts L p ≤ xt_pl ts L p')
    (hWl : W.length ≤ 6 * dp + lv) (hW : xr_HW lv W) (hm : 0 < mk ∨ F1 ≤ lv + 1) :
    ∀ m0 p x G E G' ev I0 I, ts.length < p + m0 → p ≤ ts.length → xr_TK I ts L → I 121 52 = rc → xr_ST I b p (E ++ W) G' dp mk ib 0 (ev ++ xr_uv rc x.2.2.2.1) → xr_EO (lv + 1) b G'.length E → xr_red b E G' = G ++ x.2.1 → E.length + lv ≤ 5 → G.length ≤ G'.length → xa_fr (xr_S b) I0 I → (G ++ x.2.1).length + W.length ≤ xt_pl ts L p → ev.length + x.2.2.2.1.length ≤ xt_pl ts L p →
     (∀ p' x', xp_L (xt_kd ts L) (xt_pl ts L) f lv m0 p x = .inr (p', x') → ∀ I' E G', xr_ST I' b p' (E ++ W) G' dp mk ib 0 (ev ++ xr_uv rc x'.2.2.2.1) → xr_EO (lv + 1) b G'.length E → xr_red b E G' = G ++ x'.2.1 → E.length + lv ≤ 5 → G.length ≤ G'.length → xa_fr (xr_S b) I0 I' → xr_LP (nI F1) f2 K Q R ts.length p' I') →
     (∀ g, xp_L (xt_kd ts L) (xt_pl ts L) f lv m0 p x = .inl g → ∀ I', I' 121 8 = nI (xt_pl ts L g) → xa_fr (xr_S b) I0 I' → Q 0 I' R) → xr_LP (nI F1) f2 K Q R ts.length p I := by
  intro m0; induction m0 with
  | zero => intro p x G E G' ev I0 I h1 h3; omega
  | succ m0 ih =>
    intro p x G E G' ev I0 I h1 h3 tk hrc st eo hred hE hG fr hs hev hK hFl
    have w := tk.1
    have hT := w.2.1
    have hL := w.1
    have hpb := xt_pl_b w (i := p)
    have hrl := xr_red_len b E G'
    have hgl : (G ++ x.2.1).length = G'.length + E.length := by rw [← hred]; exact hrl
    by_cases hl : xp_lev (xt_kd ts L p) = lv
    · have hpT : p < ts.length := xt_kd_lt w (xp_lev_ne (by omega))
      have hr : xr_rk (xt_ka (xt_kd ts L p)) = lv + 1 := by rw [xr_rk_ka w, hl, if_neg (by omega)]
      have hkb := xt_ka_b (xt_kd_b w (i := p))
      have hpb1 := xt_pl_b w (i := p + 1)
      have hpl : xt_pl ts L p + 1 + (if lv < 2 then 1 else 0) ≤ xt_pl ts L (p + 1) := by
        by_cases h : lv < 2
        · rw [if_pos h]; have := xt_pl_s2 w (i := p) (by have := xp_lev_lg (k := xt_kd ts L p) (by omega); omega); omega
        · rw [if_neg h]; have := xt_pl_s w (i := p) (xp_lev_ne (by omega)); omega
      intro m hm'
      obtain ⟨m, rfl⟩ : ∃ m1, m = m1 + 1 := ⟨m - 1, by omega⟩
      refine xr_opstep hb4 tk st hl hlv (by rw [if_neg h2]; exact eo) hW (by rw [List.length_append]; omega) (by omega) (by omega) hF hm hmk (fun I1 st1 fr1 => ?_)
      rw [hred] at st1
      have tk1 := xr_TK_fr tk fr1 xr_S_tk
      have hrc1 : I1 121 52 = rc := by rw [fr1 121 52 xr_S_52]; exact hrc
      refine hop (p + 1) _ _ _ I1 tk1 hrc1 st1 (by omega) ?_ ?_ ?_ ?_ ?_ ?_ m (by omega)
      · by_cases h : lv < 2
        · rw [if_pos h] at hpl ⊢; simp at hs ⊢; omega
        · rw [if_neg h] at hpl ⊢; simp at hs ⊢; omega
      · rw [List.length_append, xr_uv_len]; omega
      · simp; omega
      · intro e W' he; cases he
        have := xr_ns (o := xt_ka (xt_kd ts L p)) (by omega)
        exact ⟨by rw [hr]; exact Nat.le_refl _, this.1, this.2, hkb⟩
      · intro p' y hy I2 E2 G2 st2 eo2 hred2 hE2 hG2 fr2
        have hly := hlen _ _ _ hy
        have hpb2 := xt_pl_b w (i := p')
        have tk2 := xr_TK_fr tk1 fr2 xr_S_tk
        have hrc2 : I2 121 52 = rc := by rw [fr2 121 52 xr_S_52]; exact hrc1
        have e : xp_L (xt_kd ts L) (xt_pl ts L) f lv (m0 + 1) p x = xp_L (xt_kd ts L) (xt_pl ts L) f lv m0 p' (if lv < 2 then xp_lg (xt_kd ts L p) x y (xt_pl ts L p) else xp_bin (xt_kd ts L p) x y (xt_pl ts L p)) := by
          show (if _ then _ else _) = _
          rw [if_pos hl, hy]; simp [h2]
        rw [e] at hK hFl
        have hu : (if lv < 2 then xp_lg (xt_kd ts L p) x y (xt_pl ts L p) else xp_bin (xt_kd ts L p) x y (xt_pl ts L p)).2.2.2.1 = x.2.2.2.1 ++ y.2.2.2.1 := by split <;> rfl
        have hrr : xr_red b (E2 ++ [(xt_ka (xt_kd ts L p), xt_pl ts L p, b + (G ++ x.2.1).length)]) G2 = G ++ (if lv < 2 then xp_lg (xt_kd ts L p) x y (xt_pl ts L p) else xp_bin (xt_kd ts L p) x y (xt_pl ts L p)).2.1 := by
          rw [xr_red_app, hred2]
          by_cases h : lv < 2
          · rw [if_pos h, if_pos h]; exact xr_red_lg (ka := 0) (A := []) (by omega) rfl
          · rw [if_neg h, if_neg h]; exact xr_red_bin (by omega)
        have hG1 : (G ++ x.2.1).length ≤ G2.length := by simp at hG2 ⊢; omega
        have hrl2 := xr_red_len b (E2 ++ [(xt_ka (xt_kd ts L p), xt_pl ts L p, b + (G ++ x.2.1).length)]) G2
        have hlen2 : (G ++ (if lv < 2 then xp_lg (xt_kd ts L p) x y (xt_pl ts L p) else xp_bin (xt_kd ts L p) x y (xt_pl ts L p)).2.1).length = (G ++ x.2.1).length + y.2.1.length + 1 + (if lv < 2 then 1 else 0) := by
          by_cases h : lv < 2
          · rw [if_pos h, if_pos h]; simp [xp_lg]; omega
          · rw [if_neg h, if_neg h]; simp [xp_bin]; omega
        refine ih p' _ G (E2 ++ [(xt_ka (xt_kd ts L p), xt_pl ts L p, b + (G ++ x.2.1).length)]) G2 ev I0 I2 (by omega) hly.2.1 tk2 hrc2 ?_ ?_ hrr ?_ ?_ (xa_fr_t fr (xa_fr_t fr1 fr2)) ?_ ?_ hK hFl
        · rw [hu, xr_uv_app, ← List.append_assoc, List.append_assoc E2]; exact st2
        · intro e' he'
          rcases List.mem_append.mp he' with h | h
          · have := eo2 e' h; exact ⟨by omega, this.2⟩
          · rw [List.mem_singleton] at h
            subst h
            refine ⟨by show lv + 1 ≤ xr_rk (xt_ka (xt_kd ts L p)); omega, fun h3 => ⟨Nat.le_add_right _ _, ?_⟩, hkb⟩
            show b + (G ++ x.2.1).length < b + G2.length
            have hlt : lv < 2 := by
              have h3' : xr_rk (xt_ka (xt_kd ts L p)) < 3 := h3
              omega
            rw [if_pos hlt] at hG2
            simp at hG2 ⊢; omega
        · simp; omega
        · simp at hG1; omega
        · omega
        · rw [hu, List.length_append]; have := hly.2.2.2; omega
      · intro g hg I2 e2 fr2
        refine hFl g ?_ I2 e2 (xa_fr_t fr (xa_fr_t fr1 fr2))
        show (if _ then _ else _) = _
        rw [if_pos hl, hg]
    · refine hK p x ?_ I E G' st eo hred hE hG fr
      show (if _ then _ else _) = _
      rw [if_neg hl]
theorem xr_loop2 {R : pR} {ts : List (Nat × Nat × Nat × Nat)} {L b F1 dp mk ib : Nat} {f2 rc : Int32} {K : pI → pR → Prop} {Q : Int32 → pI → pR → Prop} {f : Nat → Nat ⊕ (Nat × xp_X)} {W : List (Nat × Nat × Nat)} (hb4 : b ≤ 400) (hF : F1 ≤ 10) (hmk : mk ≤ 10) (hdp : dp ≤ 4) (hop : xr_OP R ts L b F1 f2 rc K Q dp mk ib 3 f)
    (hlen : ∀ p p' x, f p = .inr (p', x) → p < p' ∧ p' ≤ ts.length ∧ x.2.1.length + xt_pl ts L p ≤ xt_pl ts L p' ∧ x.2.2.2.1.length + xt_pl ts L p ≤ xt_pl ts L p')
    (hWl : W.length ≤ 6 * dp + 2) (hW : xr_HW 2 W) (hm : 0 < mk ∨ F1 ≤ 3)
    {p : Nat} {x : xp_X} {G : List xp_I} {E : List (Nat × Nat × Nat)} {G' : List xp_I} {ev : List (Nat × Nat × Nat × Int32)} {I0 I : pI} (h3 : p ≤ ts.length) (tk : xr_TK I ts L) (hrc : I 121 52 = rc) (st : xr_ST I b p (E ++ W) G' dp mk ib 0 (ev ++ xr_uv rc x.2.2.2.1)) (eo : xr_EO 4 b G'.length E) (hred : xr_red b E G' = G ++ x.2.1) (hE : E.length + 3 ≤ 5) (hG : G.length ≤ G'.length) (fr : xa_fr (xr_S b) I0 I) (hs : (G ++ x.2.1).length + W.length ≤ xt_pl ts L p) (hev : ev.length + x.2.2.2.1.length ≤ xt_pl ts L p)
     (hK : ∀ p' x', xp_L (xt_kd ts L) (xt_pl ts L) f 2 121 p x = .inr (p', x') → ∀ I' E G', xr_ST I' b p' (E ++ W) G' dp mk ib 0 (ev ++ xr_uv rc x'.2.2.2.1) → xr_EO 3 b G'.length E → xr_red b E G' = G ++ x'.2.1 → E.length + 2 ≤ 5 → G.length ≤ G'.length → xa_fr (xr_S b) I0 I' → xr_LP (nI F1) f2 K Q R ts.length p' I')
     (hFl : ∀ g, xp_L (xt_kd ts L) (xt_pl ts L) f 2 121 p x = .inl g → ∀ I', I' 121 8 = nI (xt_pl ts L g) → xa_fr (xr_S b) I0 I' → Q 0 I' R) : xr_LP (nI F1) f2 K Q R ts.length p I := by
  have w := tk.1
  have hT := w.2.1
  have hL := w.1
  have hpb := xt_pl_b w (i := p)
  have hrl := xr_red_len b E G'
  have hgl : (G ++ x.2.1).length = G'.length + E.length := by rw [← hred]; exact hrl
  by_cases hl : xp_lev (xt_kd ts L p) = 2
  · have hpT : p < ts.length := xt_kd_lt w (xp_lev_ne (by omega))
    have hr : xr_rk (xt_ka (xt_kd ts L p)) = 3 := by rw [xr_rk_ka w, hl]; rfl
    have hkb := xt_ka_b (xt_kd_b w (i := p))
    have hpb1 := xt_pl_b w (i := p + 1)
    have hpl := xt_pl_s w (i := p) (xp_lev_ne (by omega))
    intro m hm'
    obtain ⟨m, rfl⟩ : ∃ m1, m = m1 + 1 := ⟨m - 1, by omega⟩
    refine xr_opstep hb4 (lv := 2) tk st hl (by omega) (by rw [if_pos rfl]; exact eo) hW (by rw [List.length_append]; omega) (by omega) (by omega) hF hm hmk (fun I1 st1 fr1 => ?_)
    rw [hred, if_neg (by omega)] at st1
    have tk1 := xr_TK_fr tk fr1 xr_S_tk
    have hrc1 : I1 121 52 = rc := by rw [fr1 121 52 xr_S_52]; exact hrc
    refine hop (p + 1) _ _ _ I1 tk1 hrc1 st1 (by omega) ?_ ?_ ?_ ?_ ?_ ?_ m (by omega)
    · simp at hs ⊢; omega
    · rw [List.length_append, xr_uv_len]; omega
    · simp; omega
    · intro e W' he; cases he
      have := xr_ns (o := xt_ka (xt_kd ts L p)) (by omega)
      exact ⟨by rw [hr]; exact Nat.le_refl _, this.1, this.2, hkb⟩
    · intro p' y hy I2 E2 G2 st2 eo2 hred2 hE2 hG2 fr2
      have hly := hlen _ _ _ hy
      have hpb2 := xt_pl_b w (i := p')
      have tk2 := xr_TK_fr tk1 fr2 xr_S_tk
      have hrl2 := xr_red_len b E2 G2
      by_cases hl2 : xp_lev (xt_kd ts L p') = 2
      · have e : xp_L (xt_kd ts L) (xt_pl ts L) f 2 121 p x = .inl p' := by
          show (if _ then _ else _) = _
          rw [if_pos hl, hy]; simp [hl2]
        intro m2 hm2
        obtain ⟨m2, rfl⟩ : ∃ m1, m2 = m1 + 1 := ⟨m2 - 1, by omega⟩
        refine xr_cmpfail hb4 tk2 st2 hl2 eo2 ⟨hr, hkb⟩ ?_ ?_ hF hm hmk (fun I3 e3 fr3 => hFl p' e I3 e3 (xa_fr_t fr (xa_fr_t fr1 (xa_fr_t fr2 fr3))))
        · simp; omega
        · have h9 := hrl2; rw [hred2] at h9; simp at h9 hs; omega
      · have e : xp_L (xt_kd ts L) (xt_pl ts L) f 2 121 p x = .inr (p', xp_bin (xt_kd ts L p) x y (xt_pl ts L p)) := by
          show (if _ then _ else _) = _
          rw [if_pos hl, hy]; simp [hl2]
        refine hK p' _ e I2 (E2 ++ [(xt_ka (xt_kd ts L p), xt_pl ts L p, b + (G ++ x.2.1).length)]) G2 ?_ ?_ ?_ ?_ ?_ (xa_fr_t fr (xa_fr_t fr1 fr2))
        · have hu : (xp_bin (xt_kd ts L p) x y (xt_pl ts L p)).2.2.2.1 = x.2.2.2.1 ++ y.2.2.2.1 := rfl
          rw [hu, xr_uv_app, ← List.append_assoc, List.append_assoc E2]; exact st2
        · intro e' he'
          rcases List.mem_append.mp he' with h | h
          · have := eo2 e' h; exact ⟨by omega, this.2⟩
          · rw [List.mem_singleton] at h
            subst h
            exact ⟨by show 3 ≤ xr_rk (xt_ka (xt_kd ts L p)); omega, fun h3 => by have h3' : xr_rk (xt_ka (xt_kd ts L p)) < 3 := h3; omega, hkb⟩
        · rw [xr_red_app, hred2]; exact xr_red_bin (by omega)
        · simp; omega
        · simp at hG2; omega
    · intro g hg I2 e2 fr2
      refine hFl g ?_ I2 e2 (xa_fr_t fr (xa_fr_t fr1 fr2))
      show (if _ then _ else _) = _
      rw [if_pos hl, hg]
  · refine hK p x ?_ I E G' st (fun e he => by have := eo e he; exact ⟨by omega, this.2⟩) hred (by omega) hG fr
    show (if _ then _ else _) = _
    rw [if_neg hl]
