/-! A FEATURE IN ITS PIECES -/
def yq_r1 (it : xi_I) : List (Nat × Nat) := if xi_k it = 7 then (match xi_mo (xi_ru it) with
    | some m => if m < xi_le (xi_ru it) then [(5, xi_fi it)] else []
    | none => []) else []
def yq_ru (its : List xi_I) : List (Nat × Nat) := its.flatMap yq_r1
theorem yq_ers : ∀ (its : List xi_I) er, xk_ers er its = xq_fo er (yq_ru its) := by
  intro its; induction its with
  | nil => intro er; rfl
  | cons it its ih =>
    intro er
    show xk_ers (xk_eri er it) its = xq_fo er (yq_r1 it ++ yq_ru its)
    rw [ih, xq_fo_app]
    congr 1
    unfold xk_eri yq_r1
    cases hm : xi_mo (xi_ru it) with
    | none =>
      by_cases h7 : xi_k it = 7
      · rw [if_pos h7]; rfl
      · rw [if_neg h7]; rfl
    | some m =>
      by_cases h7 : xi_k it = 7
      · by_cases hl : m < xi_le (xi_ru it)
        · simp only [h7, hl]; rfl
        · simp only [h7, hl]; rfl
      · rw [if_neg h7]; simp only [h7, false_and, if_false]; rfl
/-- the pieces -/
def yg_DC (ts : List (Nat × Nat × Nat × Nat)) (L : Nat) (F : xi_F) (G : List xi_I) (Ps : List (List xi_I)) (C : List xi_I) (Rs : List (List xi_I)) : Prop :=
  (F.1 = G ++ Ps.flatten ++ C ++ Rs.flatten) ∧
  (F.2.1 = yg_sta G.length Ps) ∧
  (F.2.2.1 = (G ++ Ps.flatten).length) ∧
  (F.2.2.2.2 = yg_sta (G ++ Ps.flatten ++ C).length Rs) ∧
  (∀ it, it ∈ G → xi_k it = 0) ∧
  (yg_PKs Ps) ∧
  (∀ it, it ∈ C → xi_k it = 2) ∧
  (yg_RKs Rs) ∧
  (∃ p, yg_P ts L F.2.2.2.1.length p F.1) ∧
  (Ps.length ≤ 40) ∧
  (Rs.length ≤ 60) ∧
  (∀ e, e ∈ F.2.2.2.1 → e.1 < 26 ∧ e.2 < 120) ∧
  (F.2.2.2.1.length ≤ 60) ∧
  (∀ it, it ∈ G ∨ it ∈ C → xi_pt it < 1000)
theorem yg_DC.its {ts : List (Nat × Nat × Nat × Nat)} {L : Nat} {F : xi_F} {G : List xi_I} {Ps : List (List xi_I)} {C : List xi_I} {Rs : List (List xi_I)} (d : yg_DC ts L F G Ps C Rs) : F.1 = G ++ Ps.flatten ++ C ++ Rs.flatten := d.1
theorem yg_DC.st {ts : List (Nat × Nat × Nat × Nat)} {L : Nat} {F : xi_F} {G : List xi_I} {Ps : List (List xi_I)} {C : List xi_I} {Rs : List (List xi_I)} (d : yg_DC ts L F G Ps C Rs) : F.2.1 = yg_sta G.length Ps := d.2.1
theorem yg_DC.pe {ts : List (Nat × Nat × Nat × Nat)} {L : Nat} {F : xi_F} {G : List xi_I} {Ps : List (List xi_I)} {C : List xi_I} {Rs : List (List xi_I)} (d : yg_DC ts L F G Ps C Rs) : F.2.2.1 = (G ++ Ps.flatten).length := d.2.2.1
theorem yg_DC.rs {ts : List (Nat × Nat × Nat × Nat)} {L : Nat} {F : xi_F} {G : List xi_I} {Ps : List (List xi_I)} {C : List xi_I} {Rs : List (List xi_I)} (d : yg_DC ts L F G Ps C Rs) : F.2.2.2.2 = yg_sta (G ++ Ps.flatten ++ C).length Rs := d.2.2.2.1
theorem yg_DC.g {ts : List (Nat × Nat × Nat × Nat)} {L : Nat} {F : xi_F} {G : List xi_I} {Ps : List (List xi_I)} {C : List xi_I} {Rs : List (List xi_I)} (d : yg_DC ts L F G Ps C Rs) : ∀ it, it ∈ G → xi_k it = 0 := d.2.2.2.2.1
theorem yg_DC.p {ts : List (Nat × Nat × Nat × Nat)} {L : Nat} {F : xi_F} {G : List xi_I} {Ps : List (List xi_I)} {C : List xi_I} {Rs : List (List xi_I)} (d : yg_DC ts L F G Ps C Rs) : yg_PKs Ps := d.2.2.2.2.2.1
theorem yg_DC.c {ts : List (Nat × Nat × Nat × Nat)} {L : Nat} {F : xi_F} {G : List xi_I} {Ps : List (List xi_I)} {C : List xi_I} {Rs : List (List xi_I)} (d : yg_DC ts L F G Ps C Rs) : ∀ it, it ∈ C → xi_k it = 2 := d.2.2.2.2.2.2.1
theorem yg_DC.r {ts : List (Nat × Nat × Nat × Nat)} {L : Nat} {F : xi_F} {G : List xi_I} {Ps : List (List xi_I)} {C : List xi_I} {Rs : List (List xi_I)} (d : yg_DC ts L F G Ps C Rs) : yg_RKs Rs := d.2.2.2.2.2.2.2.1
theorem yg_DC.P {ts : List (Nat × Nat × Nat × Nat)} {L : Nat} {F : xi_F} {G : List xi_I} {Ps : List (List xi_I)} {C : List xi_I} {Rs : List (List xi_I)} (d : yg_DC ts L F G Ps C Rs) : ∃ p, yg_P ts L F.2.2.2.1.length p F.1 := d.2.2.2.2.2.2.2.2.1
theorem yg_DC.pl {ts : List (Nat × Nat × Nat × Nat)} {L : Nat} {F : xi_F} {G : List xi_I} {Ps : List (List xi_I)} {C : List xi_I} {Rs : List (List xi_I)} (d : yg_DC ts L F G Ps C Rs) : Ps.length ≤ 40 := d.2.2.2.2.2.2.2.2.2.1
theorem yg_DC.rl {ts : List (Nat × Nat × Nat × Nat)} {L : Nat} {F : xi_F} {G : List xi_I} {Ps : List (List xi_I)} {C : List xi_I} {Rs : List (List xi_I)} (d : yg_DC ts L F G Ps C Rs) : Rs.length ≤ 60 := d.2.2.2.2.2.2.2.2.2.2.1
theorem yg_DC.h {ts : List (Nat × Nat × Nat × Nat)} {L : Nat} {F : xi_F} {G : List xi_I} {Ps : List (List xi_I)} {C : List xi_I} {Rs : List (List xi_I)} (d : yg_DC ts L F G Ps C Rs) : ∀ e, e ∈ F.2.2.2.1 → e.1 < 26 ∧ e.2 < 120 := d.2.2.2.2.2.2.2.2.2.2.2.1
theorem yg_DC.hl {ts : List (Nat × Nat × Nat × Nat)} {L : Nat} {F : xi_F} {G : List xi_I} {Ps : List (List xi_I)} {C : List xi_I} {Rs : List (List xi_I)} (d : yg_DC ts L F G Ps C Rs) : F.2.2.2.1.length ≤ 60 := d.2.2.2.2.2.2.2.2.2.2.2.2.1
theorem yg_DC.gc {ts : List (Nat × Nat × Nat × Nat)} {L : Nat} {F : xi_F} {G : List xi_I} {Ps : List (List xi_I)} {C : List xi_I} {Rs : List (List xi_I)} (d : yg_DC ts L F G Ps C Rs) : ∀ it, it ∈ G ∨ it ∈ C → xi_pt it < 1000 := d.2.2.2.2.2.2.2.2.2.2.2.2.2
section
variable {ts : List (Nat × Nat × Nat × Nat)} {L : Nat}
theorem yg_fea3 (w : xt_WF ts L) {p : Nat} {G C : List xi_I} {Ps : List (List xi_I)} {F : xi_F} (hP : yg_P ts L 0 p (G ++ Ps.flatten ++ C)) (h3 : 3 * Ps.length ≤ p) (hg : ∀ it, it ∈ G → xi_k it = 0) (hps : yg_PKs Ps) (hc : ∀ it, it ∈ C → xi_k it = 2) (hgc : ∀ it, it ∈ G ∨ it ∈ C → xi_pt it < 1000) (h : xi_fea3 (xt_kd ts L) (xt_nm ts L) (xt_pl ts L) (xt_en ts L) p (G ++ Ps.flatten ++ C) (yg_sta G.length Ps) (G ++ Ps.flatten).length = .inr F) : ∃ Rs, yg_DC ts L F G Ps C Rs ∧ xk_feE3 (xt_kd ts L) (xt_nm ts L) (xt_pl ts L) (xt_en ts L) p (G ++ Ps.flatten ++ C) = xq_fo none (yq_ru (G ++ Ps.flatten ++ C) ++ yq_rw F.2.2.2.1.length 0 Rs) := by
  have hts := w.1; have hts2 := w.2.1
  have hp := hP.1
  unfold xi_fea3 at h
  unfold xk_feE3
  split at h
  · rename_i h68
    rw [if_pos h68]
    have hlt := xt_kd_lt w (i := p) (by omega)
    split at h
    · cases h
    · rename_i q a' hd rs ht
      split at h
      · cases h
        unfold xi_tab at ht
        split at ht
        · cases ht
        · rename_i h58
          have hlt1 := xt_kd_lt w (i := p + 1) (by omega)
          cases hh : xi_hd (xt_kd ts L) (xt_nm ts L) (xt_pl ts L) 121 (p + 1 + 1) [] with
          | inl g => rw [hh] at ht; cases ht
          | inr z =>
            obtain ⟨q1, h1⟩ := z
            rw [hh] at ht
            simp only at ht
            split at ht
            · cases ht
            · rename_i h59
              have hlt2 := xt_kd_lt w (i := q1) (by omega)
              cases hr : xi_rws (xt_kd ts L) (xt_nm ts L) (xt_pl ts L) (xt_en ts L) 121 (q1 + 1) (G ++ Ps.flatten ++ C) [] with
              | inl g => rw [hr] at ht; cases ht
              | inr z =>
                obtain ⟨q2, a2, r2⟩ := z
                rw [hr] at ht
                cases ht
                obtain ⟨g1, g2, g3, g4, g5⟩ := yg_hd w 121 (p + 1 + 1) [] q1 hd (by omega) (by omega) (fun e he => by cases he) hh
                simp only [List.length_nil] at g4 g5
                have m1 := xt_pl_mono w p (p + 1 + 1) (by omega)
                have m2 := xt_pl_mono w q1 (q1 + 1) (by omega)
                have hP1 : yg_P ts L hd.length (q1 + 1) (G ++ Ps.flatten ++ C) := by
                  have hP0 := yg_P_m w hP (by omega : p ≤ q1 + 1) (by omega)
                  refine ⟨hP0.1, hP0.2.1, hP0.2.2.1, hP0.2.2.2.1, hP0.2.2.2.2.1, ?_⟩
                  have := hP.2.2.2.2.2
                  omega
                have hb := hP.2.2.2.1.2.1
                obtain ⟨Rs2, e1, e2, e3, e4, e5, e6, e7⟩ := yg_rws w (h := hd) (n := hd.length) (B := G ++ Ps.flatten ++ C) 121 (q1 + 1) (G ++ Ps.flatten ++ C) [] [] q a' rs (by omega) hP1 (by omega) (by simp) (by simp) rfl (fun r W hW => by simp at hW) hr
                rw [List.nil_append] at e1 e2 e3 e5
                have hq4 := e4.1
                refine ⟨Rs2, ⟨e1, rfl, rfl, e2, hg, hps, hc, e3, ⟨q, e4⟩, by omega, by omega, g1, by show hd.length ≤ 60; omega, hgc⟩, ?_⟩
                unfold xk_tbE
                rw [hh]
                simp only
                rw [e7, yq_ers, ← xq_fo_app]; rfl
      · cases h
  · rename_i h68
    rw [if_neg h68]
    split at h
    · cases h
      refine ⟨[], ⟨by simp, rfl, rfl, rfl, hg, hps, hc, fun r W hW => by simp at hW, ⟨p, hP⟩, by omega, by simp, fun e he => (by cases he), by simp, hgc⟩, ?_⟩
      rw [yq_ers]
      show _ = xq_fo none (_ ++ [])
      rw [List.append_nil]
    · cases h
theorem yg_fea2 (w : xt_WF ts L) {p : Nat} {G : List xi_I} {F : xi_F} (hP : yg_P ts L 0 p G) (hg : ∀ it, it ∈ G → xi_k it = 0) (hgp : ∀ it, it ∈ G → xi_pt it < 1000) (h : xi_fea2 (xt_kd ts L) (xt_nm ts L) (xt_pl ts L) (xt_en ts L) p G = .inr F) : ∃ Ps C Rs, yg_DC ts L F G Ps C Rs ∧ xk_feE2 (xt_kd ts L) (xt_nm ts L) (xt_pl ts L) (xt_en ts L) p G = xq_fo none (yq_ru (G ++ Ps.flatten ++ C) ++ yq_rw F.2.2.2.1.length 0 Rs) := by
  have hts := w.1; have hts2 := w.2.1
  have hp := hP.1
  unfold xi_fea2 at h
  unfold xk_feE2
  cases hps : xi_prs (xt_kd ts L) (xt_nm ts L) (xt_pl ts L) (xt_en ts L) 121 p G [] with
  | inl g => rw [hps] at h; cases h
  | inr z =>
    obtain ⟨q, a', st⟩ := z
    rw [hps] at h
    simp only at h ⊢
    obtain ⟨Ps, e1, e2, e3, e4, e5, e6⟩ := yg_prs w (G := G) 121 p G [] [] q a' st (by omega) hP (by simp) (by simp) rfl (fun i P hP => by simp at hP) hps
    subst e1
    split at h
    · rename_i h67
      rw [if_pos h67]
      have hlt := xt_kd_lt w (i := q) (by omega)
      cases hb : xi_blk (xt_kd ts L) (xt_nm ts L) (xt_pl ts L) (xt_en ts L) st.length 2 (q + 1) (G ++ Ps.flatten) with
      | inl g => rw [hb] at h; cases h
      | inr z =>
        obtain ⟨q2, a2⟩ := z
        rw [hb] at h
        simp only at h ⊢
        obtain ⟨C, g1, g2, g3, g4, g5⟩ := yg_blk w (k := 2) (by omega) (yg_P_m w e4 (by omega : q ≤ q + 1) (by omega)) hb
        subst g1
        rw [e2] at h
        obtain ⟨Rs, d1, d2⟩ := yg_fea3 w g3 (by omega) hg e3 (fun it hi => (g5 it hi).2.1 (by omega)) (fun it hi => by
          rcases hi with hi | hi
          · exact hgp it hi
          · rw [(g5 it hi).1, e2, yg_sta_len]; omega) h
        exact ⟨Ps, C, Rs, d1, d2⟩
    · rename_i h67
      rw [if_neg h67]
      rw [e2] at h
      have e4' : yg_P ts L 0 q (G ++ Ps.flatten ++ []) := by rw [List.append_nil]; exact e4
      obtain ⟨Rs, d1, d2⟩ := yg_fea3 w (C := []) e4' (by omega) hg e3 (fun it hi => by cases hi) (fun it hi => by
          rcases hi with hi | hi
          · exact hgp it hi
          · cases hi) (by rw [List.append_nil]; exact h)
      refine ⟨Ps, [], Rs, d1, ?_⟩
      rw [List.append_nil] at d2
      rw [List.append_nil]; exact d2
theorem yg_fea (w : xt_WF ts L) {F : xi_F} (h : xi_fea (xt_kd ts L) (xt_nm ts L) (xt_pl ts L) (xt_en ts L) = .inr F) : ∃ G Ps C Rs, yg_DC ts L F G Ps C Rs ∧ xk_feE (xt_kd ts L) (xt_nm ts L) (xt_pl ts L) (xt_en ts L) = xq_fo none (yq_ru (G ++ Ps.flatten ++ C) ++ yq_rw F.2.2.2.1.length 0 Rs) := by
  have h0 : yg_P ts L 0 0 [] := ⟨Nat.zero_le _, fun it hi => (by cases hi), List.Pairwise.nil, ⟨Nat.zero_le _, by simp, by simp [xi_rs], by simp [xi_rs]⟩, Nat.zero_le _, Nat.zero_le _⟩
  unfold xi_fea at h
  unfold xk_feE
  split at h
  · rename_i h71
    rw [if_pos h71]
    have hlt := xt_kd_lt w (i := 0) (by omega)
    cases hb : xi_blk (xt_kd ts L) (xt_nm ts L) (xt_pl ts L) (xt_en ts L) 0 0 1 [] with
    | inl g => rw [hb] at h; cases h
    | inr z =>
      obtain ⟨q, a⟩ := z
      rw [hb] at h
      simp only at h ⊢
      obtain ⟨G, g1, g2, g3, g4, g5⟩ := yg_blk w (k := 0) (by omega) (yg_P_m w h0 (by omega : 0 ≤ 1) (by omega)) hb
      rw [List.nil_append] at g1
      subst g1
      obtain ⟨Ps, C, Rs, d1, d2⟩ := yg_fea2 w g3 (fun it hi => (g5 it hi).2.1 (by omega)) (fun it hi => by rw [(g5 it hi).1]; omega) h
      exact ⟨a, Ps, C, Rs, d1, d2⟩
  · rename_i h71
    rw [if_neg h71]
    obtain ⟨Ps, C, Rs, d1, d2⟩ := yg_fea2 w h0 (fun it hi => by cases hi) (fun it hi => by cases hi) h
    exact ⟨[], Ps, C, Rs, d1, d2⟩
variable {F : xi_F} {G C : List xi_I} {Ps Rs : List (List xi_I)}
theorem yg_Wf (w : xt_WF ts L) (d : yg_DC ts L F G Ps C Rs) : xg_W ts L F.1 := by
  obtain ⟨p, h1, h2, h3, h4, h5, h6⟩ := d.P
  have hp := xt_pl_b w (i := p)
  have hts := w.1; have hts2 := w.2.1
  obtain ⟨b1, b2, b3, b4⟩ := h4
  exact ⟨w, by omega, by omega, by omega, by omega, by omega, fun it hi => (h2 it hi).1⟩
theorem yg_os_in (w : xt_WF ts L) {it : xi_I} (iw : xg_IW ts L it) : (∀ u, u ∈ (xi_x it).2.2.2.2 → xi_fi it ≤ u.1 ∧ u.1 < xi_la it) ∧ (xi_x it).2.2.2.2.Pairwise (fun a b => a.1 < b.1) := by
  by_cases hk : xi_k it ≤ 4 ∨ xi_k it = 8
  · obtain ⟨lv, p, p', hlv, hD, hfi, hla⟩ := iw.2.2.1 hk
    have a := xf_all w (by omega) hD
    have h1 := a.1
    refine ⟨fun u hu => ?_, a.2.2.2.2.2.2.1.2⟩
    obtain ⟨i, i1, i2, i3⟩ := a.2.2.2.2.2.2.1.1 u hu
    have m1 := xt_pl_mono w p i i1
    have m2 := xt_pl_mono w i (p' - 1) (by omega)
    have m3 := w.2.2 (p' - 1) (by omega)
    omega
  · have := iw.1
    rw [(iw.2.2.2.1 (by omega)).1]
    exact ⟨fun u hu => (by cases hu), List.Pairwise.nil⟩
theorem yg_osP (w : xt_WF ts L) : ∀ its : List xi_I, (∀ it, it ∈ its → xg_IW ts L it) → its.Pairwise (fun u v => xi_la u ≤ xi_fi v) → (xg_os its).Pairwise (fun a b => a.1 < b.1) := by
  intro its; induction its with
  | nil => intro _ _; exact List.Pairwise.nil
  | cons it its ih =>
    intro h1 h2
    obtain ⟨p1, p2⟩ := List.pairwise_cons.mp h2
    have e : xg_os (it :: its) = (xi_x it).2.2.2.2 ++ xg_os its := by simp [xg_os]
    obtain ⟨o1, o2⟩ := yg_os_in w (h1 it (by simp))
    rw [e]
    refine List.pairwise_append.mpr ⟨o2, ih (fun u hu => h1 u (by simp [hu])) p2, fun u hu v hv => ?_⟩
    obtain ⟨jt, hj, hv'⟩ := List.mem_flatMap.mp hv
    have a := o1 u hu
    have b := (yg_os_in w (h1 jt (by simp [hj]))).1 v hv'
    have c := p1 jt hj
    omega
end
/-! LEAST FINDINGS -/
def yq_le (a b : Nat × Nat) : Prop := a.2 < b.2 ∨ (a.2 = b.2 ∧ a.1 ≤ b.1)
theorem yq_fo_s : ∀ (l : List (Nat × Nat)) e, ∃ m, xq_fo (some e) l = some m ∧ (m = e ∨ m ∈ l) ∧ yq_le m e ∧ ∀ u, u ∈ l → yq_le m u := by
  intro l; induction l with
  | nil => intro e; exact ⟨e, rfl, Or.inl rfl, Or.inr ⟨rfl, Nat.le_refl _⟩, fun u hu => by cases hu⟩
  | cons x l ih =>
    intro e
    show ∃ m, xq_fo (xk_fd x.1 x.2 (some e)) l = some m ∧ _
    unfold xk_fd
    simp only
    split
    · rename_i h
      obtain ⟨m, h1, h2, h3, h4⟩ := ih (x.1, x.2)
      refine ⟨m, h1, ?_, ?_, fun u hu => ?_⟩
      · rcases h2 with h2 | h2
        · exact Or.inr (by rw [h2]; simp)
        · exact Or.inr (by simp [h2])
      · unfold yq_le at h3 ⊢; simp only at h3; omega
      · rcases List.mem_cons.mp hu with rfl | hu
        · exact h3
        · exact h4 u hu
    · rename_i h
      obtain ⟨m, h1, h2, h3, h4⟩ := ih e
      refine ⟨m, h1, ?_, h3, fun u hu => ?_⟩
      · rcases h2 with h2 | h2
        · exact Or.inl h2
        · exact Or.inr (by simp [h2])
      · rcases List.mem_cons.mp hu with rfl | hu
        · unfold yq_le at h3 ⊢; omega
        · exact h4 u hu
theorem yq_fo_m (l : List (Nat × Nat)) : (l = [] ∧ xq_fo none l = none) ∨ ∃ m, xq_fo none l = some m ∧ m ∈ l ∧ ∀ u, u ∈ l → yq_le m u := by
  cases l with
  | nil => exact Or.inl ⟨rfl, rfl⟩
  | cons x l =>
    obtain ⟨m, h1, h2, h3, h4⟩ := yq_fo_s l x
    refine Or.inr ⟨m, h1, ?_, fun u hu => ?_⟩
    · rcases h2 with h2 | h2
      · rw [h2]; simp
      · simp [h2]
    · rcases List.mem_cons.mp hu with rfl | hu
      · exact h3
      · exact h4 u hu
theorem yq_min {a b : List (Nat × Nat)} (h1 : ∀ u, u ∈ a → ∃ v, v ∈ b ∧ yq_le v u) (h2 : ∀ u, u ∈ b → ∃ v, v ∈ a ∧ yq_le v u) : xq_fo none a = xq_fo none b := by
  rcases yq_fo_m a with ⟨a1, a2⟩ | ⟨m, a1, a2, a3⟩
  · rcases yq_fo_m b with ⟨b1, b2⟩ | ⟨n, b1, b2, b3⟩
    · rw [a2, b2]
    · obtain ⟨v, v1, v2⟩ := h2 n b2
      rw [a1] at v1; cases v1
  · rcases yq_fo_m b with ⟨b1, b2⟩ | ⟨n, b1, b2, b3⟩
    · obtain ⟨v, v1, v2⟩ := h1 m a2
      rw [b1] at v1; cases v1
    · obtain ⟨v, v1, v2⟩ := h1 m a2
      obtain ⟨u, u1, u2⟩ := h2 n b2
      have c1 := a3 u u1
      have c2 := b3 v v1
      rw [a1, b1]
      have : m = n := by
        obtain ⟨m1, m2⟩ := m
        obtain ⟨n1, n2⟩ := n
        unfold yq_le at v2 u2 c1 c2
        simp only at v2 u2 c1 c2
        have : m1 = n1 := by omega
        have : m2 = n2 := by omega
        simp [*]
      rw [this]
