/-! WHERE THE ITEMS LIE, AND WHAT IS KNOWN OF A FEATURE -/
section
variable {ts : List (Nat × Nat × Nat × Nat)} {L : Nat} {F : xi_F} {G C : List xi_I} {Ps Rs : List (List xi_I)}
theorem yg_pos {its X P Y : List xi_I} {j : Nat} {it : xi_I} (h : its = X ++ (P ++ Y)) (hj : its[j]? = some it) : (j < X.length ∧ it ∈ X) ∨ (X.length ≤ j ∧ j < X.length + P.length ∧ P[j - X.length]? = some it) ∨ (X.length + P.length ≤ j ∧ it ∈ Y) := by
  rw [h] at hj
  by_cases h1 : j < X.length
  · rw [List.getElem?_append_left h1] at hj; exact Or.inl ⟨h1, List.mem_of_getElem? hj⟩
  · rw [List.getElem?_append_right (by omega)] at hj
    by_cases h2 : j - X.length < P.length
    · rw [List.getElem?_append_left h2] at hj; exact Or.inr (Or.inl ⟨by omega, by omega, hj⟩)
    · rw [List.getElem?_append_right (by omega)] at hj; exact Or.inr (Or.inr ⟨by omega, List.mem_of_getElem? hj⟩)
theorem yg_segP {its X P Y : List xi_I} (h : its = X ++ (P ++ Y)) : xg_seg its X.length (X.length + P.length) = P := by
  unfold xg_seg
  rw [h, List.drop_left, Nat.add_sub_cancel_left, List.take_left]
theorem yg_pe (d : yg_DC ts L F G Ps C Rs) (p : Nat) : xg_pe F p = G.length + (Ps.take p).flatten.length := by
  unfold xg_pe
  by_cases hp : p < Ps.length
  · rw [d.st, yg_sta_ix Ps _ p hp]; rfl
  · rw [d.st, List.getElem?_eq_none (by rw [yg_sta_len]; omega), List.take_of_length_le (by omega), d.pe, List.length_append]; rfl
theorem yg_PK_k {i : Nat} {P : List xi_I} (h : yg_PK i P) : P ≠ [] ∧ ∀ it, it ∈ P → (xi_k it = 1 ∨ xi_k it = 3 ∨ (4 ≤ xi_k it ∧ xi_k it ≤ 7)) ∧ xi_pt it = i := by
  obtain ⟨h1, ⟨A, B, rfl, a1, a2, a3, a4⟩ | ⟨a1, a2⟩⟩ := h
  · refine ⟨by simp [a1], fun it hi => ⟨?_, h1 it hi⟩⟩
    rcases List.mem_append.mp hi with hi | hi
    · exact Or.inl (a3 it hi)
    · exact Or.inr (Or.inr (a4 it hi))
  · exact ⟨a1, fun it hi => ⟨Or.inr (Or.inl (a2 it hi)), h1 it hi⟩⟩
theorem yg_memP {Ps : List (List xi_I)} {it : xi_I} (h : it ∈ Ps.flatten) : ∃ (i : Nat) (P : List xi_I), Ps[i]? = some P ∧ it ∈ P := by
  obtain ⟨P, hP, hi⟩ := List.mem_flatten.mp h
  obtain ⟨i, hlt, e⟩ := List.getElem_of_mem hP
  exact ⟨i, P, by rw [List.getElem?_eq_getElem hlt, e], hi⟩
theorem yg_rowk (d : yg_DC ts L F G Ps C Rs) {it : xi_I} (h : it ∈ Rs.flatten) : xi_k it = 8 := by
  obtain ⟨r, W, hW, hi⟩ := yg_memP h
  obtain ⟨j, hlt, e⟩ := List.getElem_of_mem hi
  exact ((d.r r W hW).2 j it (by rw [List.getElem?_eq_getElem hlt, e])).1
/-- around a part -/
theorem yg_part (d : yg_DC ts L F G Ps C Rs) {p : Nat} {P : List xi_I} (h : Ps[p]? = some P) : ∃ X Y, F.1 = X ++ (P ++ Y) ∧ xg_pe F p = X.length ∧ xg_pe F (p + 1) = X.length + P.length ∧ (∀ it, it ∈ X → xi_k it = 0 ∨ xi_pt it ≠ p) ∧ (∀ it, it ∈ Y → xi_pt it ≠ p ∨ xi_k it = 2 ∨ xi_k it = 8) := by
  obtain ⟨f1, f2⟩ := yg_flat_ix h
  refine ⟨G ++ (Ps.take p).flatten, (Ps.drop (p + 1)).flatten ++ C ++ Rs.flatten, by rw [d.its, f1]; simp, by rw [yg_pe d, List.length_append], by rw [yg_pe d, f2, List.length_append, List.length_append]; omega, fun it hi => ?_, fun it hi => ?_⟩
  · rcases List.mem_append.mp hi with hi | hi
    · exact Or.inl (d.g it hi)
    · obtain ⟨i, Q, hQ, hi'⟩ := yg_memP hi
      have hlt := xa_some_lt hQ
      rw [List.length_take] at hlt
      rw [List.getElem?_take_of_lt (by omega)] at hQ
      have := ((yg_PK_k (d.p i Q hQ)).2 it hi').2
      exact Or.inr (by omega)
  · rcases List.mem_append.mp hi with hi | hi
    · rcases List.mem_append.mp hi with hi | hi
      · obtain ⟨i, Q, hQ, hi'⟩ := yg_memP hi
        rw [List.getElem?_drop] at hQ
        have := ((yg_PK_k (d.p _ Q hQ)).2 it hi').2
        exact Or.inl (by omega)
      · exact Or.inr (Or.inl (d.c it hi))
    · exact Or.inr (Or.inr (yg_rowk d hi))
theorem yg_partL (d : yg_DC ts L F G Ps C Rs) {p : Nat} {P : List xi_I} (h : Ps[p]? = some P) : ((∃ c, yg_WP F.1 p (xg_pe F p) c (xg_pe F (p + 1))) ∨ (xg_pe F p < xg_pe F (p + 1) ∧ xg_pe F (p + 1) ≤ F.1.length ∧ (∀ j it, F.1[j]? = some it → ((xi_k it = 3 ∧ xi_pt it = p) ↔ (xg_pe F p ≤ j ∧ j < xg_pe F (p + 1)))) ∧ (∀ it, it ∈ F.1 → ¬ (xi_k it = 1 ∧ xi_pt it = p)))) ∧ xg_PO F.1 (xg_pe F p) (xg_pe F (p + 1)) := by
  obtain ⟨X, Y, e, p1, p2, hX, hY⟩ := yg_part d h
  obtain ⟨hP1, hP2⟩ := d.p p P h
  have hlen : F.1.length = X.length + P.length + Y.length := by rw [e]; simp; omega
  have hseg : xg_seg F.1 (xg_pe F p) (xg_pe F (p + 1)) = P := by rw [p1, p2]; exact yg_segP e
  rw [p1, p2] at hseg ⊢
  rcases hP2 with ⟨A, B, rfl, a1, a2, a3, a4⟩ | ⟨a1, a2⟩
  · have hA : 0 < A.length := List.length_pos_iff.mpr a1
    have hB : 0 < B.length := List.length_pos_iff.mpr a2
    rw [List.length_append] at hlen
    refine ⟨Or.inl ⟨X.length + A.length, by omega, by rw [List.length_append]; omega, by rw [List.length_append]; omega, fun j it hj => ?_, fun j it hj h1 h2 => ?_, fun it hj => ?_, fun j it hj h1 h2 h3 => ?_⟩, by rw [List.length_append]; omega, by rw [List.length_append]; omega, Or.inl ⟨?_, fun it hi => ?_⟩⟩
    · rcases yg_pos e hj with ⟨b1, b2⟩ | ⟨b1, b2, b3⟩ | ⟨b1, b2⟩
      · have := hX it b2; exact ⟨fun h => by omega, fun h => by omega⟩
      · by_cases hc : j - X.length < A.length
        · rw [List.getElem?_append_left hc] at b3
          exact ⟨fun _ => by omega, fun _ => ⟨a3 it (List.mem_of_getElem? b3), hP1 it (List.mem_append_left _ (List.mem_of_getElem? b3))⟩⟩
        · rw [List.getElem?_append_right (by omega)] at b3
          have := a4 it (List.mem_of_getElem? b3)
          exact ⟨fun h => by omega, fun h => by omega⟩
      · have := hY it b2
        rw [List.length_append] at b1
        exact ⟨fun h => by omega, fun h => by omega⟩
    · rcases yg_pos e hj with ⟨b1, b2⟩ | ⟨b1, b2, b3⟩ | ⟨b1, b2⟩
      · omega
      · rw [List.getElem?_append_right (by omega)] at b3
        exact ⟨a4 it (List.mem_of_getElem? b3), hP1 it (List.mem_append_right _ (List.mem_of_getElem? b3))⟩
      · omega
    · rcases yg_pos e hj with ⟨b1, b2⟩ | ⟨b1, b2, b3⟩ | ⟨b1, b2⟩
      · omega
      · omega
      · exact hY it b2
    · rcases yg_pos e hj with ⟨b1, b2⟩ | ⟨b1, b2, b3⟩ | ⟨b1, b2⟩
      · have := hX it b2; omega
      · by_cases hc : j - X.length < A.length
        · rw [List.getElem?_append_left hc] at b3
          have := a3 it (List.mem_of_getElem? b3); omega
        · exact ⟨by omega, b2⟩
      · have := hY it b2; omega
    · rw [hseg]
      cases A with
      | nil => exact absurd rfl a1
      | cons x A => simp [a3 x (by simp)]
    · rw [hseg] at hi
      rcases List.mem_append.mp hi with hi | hi
      · have := a3 it hi; omega
      · have := a4 it hi; omega
  · have hP : 0 < P.length := List.length_pos_iff.mpr a1
    refine ⟨Or.inr ⟨by omega, by omega, fun j it hj => ?_, fun it hi => ?_⟩, by omega, by omega, Or.inr (fun it hi => ?_)⟩
    · rcases yg_pos e hj with ⟨b1, b2⟩ | ⟨b1, b2, b3⟩ | ⟨b1, b2⟩
      · have := hX it b2; exact ⟨fun h => by omega, fun h => by omega⟩
      · exact ⟨fun _ => ⟨b1, b2⟩, fun _ => ⟨a2 it (List.mem_of_getElem? b3), hP1 it (List.mem_of_getElem? b3)⟩⟩
      · have := hY it b2; exact ⟨fun h => by omega, fun h => by omega⟩
    · obtain ⟨j, hj, ej⟩ := List.getElem_of_mem hi
      rcases yg_pos e (show F.1[j]? = some it by rw [List.getElem?_eq_getElem hj, ej]) with ⟨b1, b2⟩ | ⟨b1, b2, b3⟩ | ⟨b1, b2⟩
      · have := hX it b2; omega
      · have := a2 it (List.mem_of_getElem? b3); omega
      · have := hY it b2; omega
    · rw [hseg] at hi; exact a2 it hi
theorem yg_rows (h : xq_fo none (yq_ru (G ++ Ps.flatten ++ C) ++ yq_rw F.2.2.2.1.length 0 Rs ++ xl_fs F.2.2.2.1 [] (xk_evs (G ++ Ps.flatten ++ C) ++ xk_hev F.2.2.2.1 ++ xk_evs Rs.flatten)) = none) : ∀ (r : Nat) (W : List xi_I), Rs[r]? = some W → W.length = F.2.2.2.1.length ∧ r < 6 := by
  intro r W hW
  rcases yq_fo_m (yq_ru (G ++ Ps.flatten ++ C) ++ yq_rw F.2.2.2.1.length 0 Rs ++ xl_fs F.2.2.2.1 [] (xk_evs (G ++ Ps.flatten ++ C) ++ xk_hev F.2.2.2.1 ++ xk_evs Rs.flatten)) with ⟨a, b⟩ | ⟨m, a, b⟩
  · by_cases hc : W.length ≠ F.2.2.2.1.length ∨ 6 ≤ 0 + r
    · have hm : (4, (W.head?.map xi_fi).getD 0) ∈ yq_ru (G ++ Ps.flatten ++ C) ++ yq_rw F.2.2.2.1.length 0 Rs ++ xl_fs F.2.2.2.1 [] (xk_evs (G ++ Ps.flatten ++ C) ++ xk_hev F.2.2.2.1 ++ xk_evs Rs.flatten) := by
        rw [List.mem_append, List.mem_append]
        exact Or.inl (Or.inr ((yq_rw_m _ Rs 0).mpr ⟨r, W, hW, hc, rfl⟩))
      rw [a] at hm; cases hm
    · exact ⟨Decidable.not_not.mp (fun h => hc (Or.inl h)), by omega⟩
  · rw [a] at h; cases h
/-- around a row -/
theorem yg_rowA (d : yg_DC ts L F G Ps C Rs) {r : Nat} {W : List xi_I} (h : Rs[r]? = some W) : ∃ X Y, F.1 = X ++ (W ++ Y) ∧ F.2.2.2.2[r]? = some X.length ∧ (∀ it, it ∈ X → xi_k it ≠ 8 ∨ xi_pt it ≠ r) ∧ (∀ it, it ∈ Y → xi_pt it ≠ r) := by
  obtain ⟨f1, f2⟩ := yg_flat_ix h
  have rk : ∀ (i : Nat) Q it, Rs[i]? = some Q → it ∈ Q → xi_pt it = i := fun i Q it hQ hi => by
    obtain ⟨j, hlt, e⟩ := List.getElem_of_mem hi
    exact ((d.r i Q hQ).2 j it (by rw [List.getElem?_eq_getElem hlt, e])).2.1
  refine ⟨G ++ Ps.flatten ++ C ++ (Rs.take r).flatten, (Rs.drop (r + 1)).flatten, by rw [d.its, f1]; simp, by rw [(yg_row d h).1, List.length_append (as := G ++ Ps.flatten ++ C)], fun it hi => ?_, fun it hi => ?_⟩
  · rcases List.mem_append.mp hi with hi | hi
    · left
      rcases List.mem_append.mp hi with hi | hi
      · rcases List.mem_append.mp hi with hi | hi
        · rw [d.g it hi]; decide
        · obtain ⟨i, P, hP, hi'⟩ := yg_memP hi
          have := ((yg_PK_k (d.p i P hP)).2 it hi').1; omega
      · rw [d.c it hi]; decide
    · right
      obtain ⟨i, Q, hQ, hi'⟩ := yg_memP hi
      have hlt := xa_some_lt hQ
      rw [List.length_take] at hlt
      rw [List.getElem?_take_of_lt (by omega)] at hQ
      rw [rk i Q it hQ hi']; omega
  · obtain ⟨i, Q, hQ, hi'⟩ := yg_memP hi
    rw [List.getElem?_drop] at hQ
    rw [rk _ Q it hQ hi']; omega
theorem yg_LYf (w : xt_WF ts L) (d : yg_DC ts L F G Ps C Rs) (hr : ∀ (r : Nat) (W : List xi_I), Rs[r]? = some W → W.length = F.2.2.2.1.length ∧ r < 6) : yg_LY F := by
  have hpk : ∀ it, it ∈ Ps.flatten → (xi_k it = 1 ∨ xi_k it = 3 ∨ (4 ≤ xi_k it ∧ xi_k it ≤ 7)) ∧ xi_pt it < 40 := fun it hi => by
    obtain ⟨i, P, hP, hi'⟩ := yg_memP hi
    have := (yg_PK_k (d.p i P hP)).2 it hi'
    have hlt := xa_some_lt hP
    have := d.pl
    exact ⟨by omega, by omega⟩
  have hrl : F.2.2.2.2.length = Rs.length := by rw [d.rs, yg_sta_len]
  have hRs : ∀ r a, F.2.2.2.2[r]? = some a → ∃ W, Rs[r]? = some W := fun r a ha => ⟨_, List.getElem?_eq_getElem (by have := xa_some_lt ha; omega)⟩
  have hroww : ∀ it, it ∈ Rs.flatten → xi_k it = 8 ∧ xi_pt it < Rs.length := fun it hi => by
    obtain ⟨i, Q, hQ, hi'⟩ := yg_memP hi
    obtain ⟨j, hlt, e⟩ := List.getElem_of_mem hi'
    have := (d.r i Q hQ).2 j it (by rw [List.getElem?_eq_getElem hlt, e])
    have := xa_some_lt hQ
    exact ⟨by omega, by omega⟩
  refine ⟨fun j it hj => ?_, fun j it hj => ?_, fun p hp => ?_, fun r a ha => ?_, fun r a j it ha hj hjc => ?_, fun r hrn it hi => ?_, fun it hi => ?_⟩
  · have e0 : xg_pe F 0 = G.length := by rw [yg_pe d]; simp
    rw [e0]
    have e : F.1 = [] ++ (G ++ (Ps.flatten ++ C ++ Rs.flatten)) := by rw [d.its]; simp
    rcases yg_pos e hj with ⟨b1, b2⟩ | ⟨b1, b2, b3⟩ | ⟨b1, b2⟩
    · cases b2
    · exact ⟨fun _ => by simpa using b2, fun _ => d.g it (List.mem_of_getElem? b3)⟩
    · have hk : xi_k it ≠ 0 := by
        rcases List.mem_append.mp b2 with hi | hi
        · rcases List.mem_append.mp hi with hi | hi
          · have := (hpk it hi).1; omega
          · rw [d.c it hi]; decide
        · rw [yg_rowk d hi]; decide
      exact ⟨fun h => absurd h hk, fun h => by simp at b1; omega⟩
  · rw [d.pe]
    have e : F.1 = [] ++ ((G ++ Ps.flatten) ++ (C ++ Rs.flatten)) := by rw [d.its]; simp
    rcases yg_pos e hj with ⟨b1, b2⟩ | ⟨b1, b2, b3⟩ | ⟨b1, b2⟩
    · cases b2
    · have hk : xi_k it ≠ 2 ∧ xi_k it ≠ 8 := by
        rcases List.mem_append.mp (List.mem_of_getElem? b3) with hi | hi
        · rw [d.g it hi]; decide
        · have := (hpk it hi).1; omega
      simp only [List.length_nil, Nat.zero_add] at b2
      exact ⟨fun h => by omega, fun h => by omega⟩
    · simp only [List.length_nil, Nat.zero_add] at b1
      refine ⟨fun _ => b1, fun _ => ?_⟩
      rcases List.mem_append.mp b2 with hi | hi
      · exact Or.inl (d.c it hi)
      · exact Or.inr (yg_rowk d hi)
  · rw [d.st, yg_sta_len] at hp
    exact (yg_partL d (List.getElem?_eq_getElem hp)).1
  · obtain ⟨W, hW⟩ := hRs r a ha
    obtain ⟨X, Y, e, h1, h2, h3⟩ := yg_rowA d hW
    rw [h1] at ha; cases ha
    have hl := (hr r W hW).1
    refine ⟨by rw [e, ← hl]; simp, fun j it hj => ?_⟩
    rw [← hl]
    rcases yg_pos e hj with ⟨b1, b2⟩ | ⟨b1, b2, b3⟩ | ⟨b1, b2⟩
    · have := h2 it b2; exact ⟨fun h => by omega, fun h => by omega⟩
    · have := (d.r r W hW).2 _ it b3
      exact ⟨fun _ => ⟨b1, b2⟩, fun _ => ⟨this.1, this.2.1⟩⟩
    · have := h3 it b2; exact ⟨fun h => by omega, fun h => by omega⟩
  · obtain ⟨W, hW⟩ := hRs r a ha
    obtain ⟨X, Y, e, h1, h2, h3⟩ := yg_rowA d hW
    rw [h1] at ha; cases ha
    have hl := (hr r W hW).1
    rw [e, List.getElem?_append_right (by omega), Nat.add_sub_cancel_left, List.getElem?_append_left (by omega)] at hj
    have := ((d.r r W hW).2 j it hj).2.2
    rw [this, Nat.zero_add]
  · intro ⟨h8, hpt⟩
    rw [d.its] at hi
    rcases List.mem_append.mp hi with hi | hi
    · rcases List.mem_append.mp hi with hi | hi
      · rcases List.mem_append.mp hi with hi | hi
        · have := d.g it hi; omega
        · have := (hpk it hi).1; omega
      · have := d.c it hi; omega
    · have := (hroww it hi).2; omega
  · rw [d.its] at hi
    have := d.rl
    rcases List.mem_append.mp hi with hi | hi
    · rcases List.mem_append.mp hi with hi | hi
      · rcases List.mem_append.mp hi with hi | hi
        · exact d.gc it (Or.inl hi)
        · have := (hpk it hi).2; omega
      · exact d.gc it (Or.inr hi)
    · have := (hroww it hi).2; omega
theorem yg_FOf (w : xt_WF ts L) (d : yg_DC ts L F G Ps C Rs) (hr : ∀ (r : Nat) (W : List xi_I), Rs[r]? = some W → W.length = F.2.2.2.1.length ∧ r < 6) : xg_FO ts L F := by
  obtain ⟨p, hP⟩ := d.P
  have hW := yg_Wf w d
  have hrl : F.2.2.2.2.length = Rs.length := by rw [d.rs, yg_sta_len]
  have hpl : F.2.1.length = Ps.length := by rw [d.st, yg_sta_len]
  have hpe : ∀ p, xg_pe F p ≤ F.1.length := fun p => by
    rw [yg_pe d, d.its]
    have : (Ps.take p).flatten.length ≤ Ps.flatten.length := by
      have hf : Ps.flatten = (Ps.take p).flatten ++ (Ps.drop p).flatten := by rw [← List.flatten_append, List.take_append_drop]
      rw [hf, List.length_append]; omega
    simp only [List.length_append]; omega
  refine ⟨hW, yg_osP w F.1 (fun it hi => (hP.2.1 it hi).1) hP.2.2.1, fun p hp => ?_, by rw [hpl]; exact d.pl, hpe, by rw [d.pe, d.its]; simp only [List.length_append]; omega, d.hl, fun e he => (d.h e he).1, by rw [hrl]; exact d.rl, fun r a ha => ?_⟩
  · exact (yg_partL d (List.getElem?_eq_getElem (by omega))).2
  · obtain ⟨W, hW⟩ : ∃ W, Rs[r]? = some W := ⟨_, List.getElem?_eq_getElem (by have := xa_some_lt ha; omega)⟩
    obtain ⟨X, Y, e, h1, h2, h3⟩ := yg_rowA d hW
    rw [h1] at ha; cases ha
    have hl := (hr r W hW).1
    refine ⟨by rw [e, ← hl]; simp, fun j it j1 j2 hj => ?_⟩
    rw [← hl] at j2
    rcases yg_pos e hj with ⟨b1, b2⟩ | ⟨b1, b2, b3⟩ | ⟨b1, b2⟩
    · omega
    · exact ((d.r r W hW).2 _ it b3).1
    · omega
theorem yg_FWf (w : xt_WF ts L) (d : yg_DC ts L F G Ps C Rs) : xq_FW F := by
  obtain ⟨p, hP⟩ := d.P
  have hW := yg_Wf w d
  have hrl : F.2.2.2.2.length = Rs.length := by rw [d.rs, yg_sta_len]
  refine ⟨hW.2.1, hW.2.2.1, hW.2.2.2.2.1, d.hl, by rw [hrl]; exact d.rl, fun i e hi => by have := d.h e (List.mem_of_getElem? hi); omega, fun it hi => ?_, fun r s hs => ?_⟩
  · have iw := hP.2.1 it hi
    obtain ⟨i1, i2, i3, i4, i5, i6, i7, i8⟩ := iw.1
    refine ⟨i1, by omega, fun e he => ?_, i5, fun h8 => ?_, ?_, ?_⟩
    · by_cases hk : xi_k it ≤ 4 ∨ xi_k it = 8
      · have c := (xg_CI w (i3 hk)).1 e he
        exact ⟨by omega, c.2.1, by omega, c.2.2.2.1⟩
      · rw [(i4 (by omega)).1] at he; cases he
    · have hi' : it ∈ Rs.flatten := by
        rw [d.its] at hi
        rcases List.mem_append.mp hi with hi | hi
        · rcases List.mem_append.mp hi with hi | hi
          · rcases List.mem_append.mp hi with hi | hi
            · have := d.g it hi; omega
            · obtain ⟨i, P, hP, hi'⟩ := yg_memP hi
              have := ((yg_PK_k (d.p i P hP)).2 it hi').1; omega
          · have := d.c it hi; omega
        · exact hi
      obtain ⟨r, W, hW', hi2⟩ := yg_memP hi'
      obtain ⟨j, hlt, e⟩ := List.getElem_of_mem hi2
      have := ((d.r r W hW').2 j it (by rw [List.getElem?_eq_getElem hlt, e])).2.2
      refine ⟨j, by rw [this, Nat.zero_add], ?_⟩
      obtain ⟨X, Y, e, _, _, _⟩ := yg_rowA d hW'
      have h60 := hW.2.1
      rw [e] at h60
      simp only [List.length_append] at h60
      omega
    · by_cases h7 : xi_k it = 7
      · exact (i2 h7).1
      · rw [iw.2.2 h7]; decide
    · by_cases h7 : xi_k it = 7
      · exact (i2 h7).2.1
      · rw [iw.2.2 h7]; intro m hm; cases hm; decide
  · obtain ⟨W, hW'⟩ : ∃ W, Rs[r]? = some W := ⟨_, List.getElem?_eq_getElem (by have := xa_some_lt hs; omega)⟩
    obtain ⟨g1, g2, g3⟩ := yg_row d hW'
    have hne := List.length_pos_iff.mpr (d.r r W hW').1
    rw [g1] at hs; cases hs
    obtain ⟨f1, f2⟩ := yg_flat_ix hW'
    refine ⟨?_, fun s' hs' => ?_⟩
    · rw [d.its, f1]; simp only [List.length_append]; omega
    · rw [hs'] at g2
      simp only [Option.getD_some] at g2
      omega
theorem yg_evW (w : xt_WF ts L) (d : yg_DC ts L F G Ps C Rs) : (xk_evs (G ++ Ps.flatten ++ C) ++ xk_hev F.2.2.2.1 ++ xk_evs Rs.flatten).length ≤ 170 ∧ ∀ e, e ∈ xk_evs (G ++ Ps.flatten ++ C) ++ xk_hev F.2.2.2.1 ++ xk_evs Rs.flatten → xl_W e := by
  obtain ⟨p, hP⟩ := d.P
  have hp := xt_pl_b w (i := p)
  have hL := w.1
  have fw := yg_FWf w d
  have e1 : xk_evs F.1 = xk_evs (G ++ Ps.flatten ++ C) ++ xk_evs Rs.flatten := by rw [d.its]; simp [xk_evs]
  have h6 := hP.2.2.2.2.2
  rw [e1, List.length_append] at h6
  refine ⟨by rw [List.length_append, List.length_append, xk_hev_len]; omega, fun e he => ?_⟩
  have item : ∀ it, it ∈ F.1 → ∀ e, e ∈ xk_evi it → xl_W e := by
    intro it hi e he
    have iw := (hP.2.1 it hi).1
    have qw := fw.2.2.2.2.2.2.1 it hi
    have us : ∀ rc : Int32, (rc < 0 ∨ ∃ c, c < 1000 ∧ rc = nI c) → ∀ e, e ∈ xr_uv rc (xi_x it).2.2.2.1 → xl_W e := by
      intro rc hrc e he
      obtain ⟨u, hu, rfl⟩ := List.mem_map.mp he
      rw [← yq_ld w iw] at hu
      obtain ⟨c, hc, hcu⟩ := List.mem_filterMap.mp hu
      split at hcu
      · rename_i h1
        cases hcu
        have ci := qw.2.2.1 c hc
        refine ⟨by split <;> omega, by show c.2.2.2 < 1000; exact ci.2.2.1, by show c.2.1 < 26; exact ci.2.2.2 h1, fun _ => ?_⟩
        rcases hrc with hrc | hrc
        · rename_i hh
          simp only [if_pos hrc] at hh; omega
        · exact hrc
      · cases hcu
    unfold xk_evi at he
    split at he
    · rename_i h8
      obtain ⟨c, hc, hcb⟩ := qw.2.2.2.2.1 h8
      rw [hc] at he
      exact us (nI c) (Or.inr ⟨c, hcb, rfl⟩) e he
    · rcases List.mem_append.mp he with he | he
      · exact us (-1) (Or.inl (by decide)) e he
      · cases ht : xi_tg it with
        | none => rw [ht] at he; cases he
        | some v =>
          rw [ht] at he
          rw [List.mem_singleton.mp he]
          have hk2 : xi_k it ≤ 2 := by
            rename_i h8
            by_cases hk : xi_k it ≤ 2
            · exact hk
            · exfalso
              have := iw.1
              by_cases h34 : xi_k it = 3 ∨ xi_k it = 4
              · rw [iw.2.2.2.2.2.1 h34] at ht; cases ht
              · rw [(iw.2.2.2.1 (by omega)).2] at ht; cases ht
          exact ⟨by show 2 < 4; decide, by show xi_fi it < 1000; exact qw.2.1, by show v < 26; exact qw.2.2.2.1 hk2 v ht, fun h => by simp at h⟩
  rcases List.mem_append.mp he with he | he
  · rcases List.mem_append.mp he with he | he
    · obtain ⟨it, hi, he'⟩ := List.mem_flatMap.mp he
      exact item it (by rw [d.its]; exact List.mem_append_left _ hi) e he'
    · unfold xk_hev at he
      obtain ⟨⟨a, i⟩, ha, rfl⟩ := List.mem_map.mp he
      have hi := List.mem_zipIdx_iff_getElem?.mp ha
      have hh := d.h a (List.mem_of_getElem? hi)
      have hlt := xa_some_lt hi
      have := d.hl
      exact ⟨by show 3 < 4; decide, by show a.2 < 1000; omega, hh.1, fun _ => ⟨i, by show i < 1000; omega, rfl⟩⟩
  · obtain ⟨it, hi, he'⟩ := List.mem_flatMap.mp he
    exact item it (by rw [d.its]; exact List.mem_append_right _ hi) e he'
end
