theorem xf_mem1 {α : Type} {P : α → Prop} {l : List α} {a : α} (h : ∀ e, e ∈ l → P e) (ha : P a) : ∀ e, e ∈ l ++ [a] → P e := fun e he => by
  rcases List.mem_append.mp he with h' | h'
  · exact h e h'
  · simp at h'; rw [h']; exact ha
theorem xf_memA {α : Type} {P : α → Prop} {l m : List α} (h : ∀ e, e ∈ l → P e) (h2 : ∀ e, e ∈ m → P e) : ∀ e, e ∈ l ++ m → P e := fun e he => by
  rcases List.mem_append.mp he with h' | h'
  · exact h e h'
  · exact h2 e h'
theorem xf_memC {α : Type} {P : α → Prop} {l : List α} {a : α} (ha : P a) (h : ∀ e, e ∈ l → P e) : ∀ e, e ∈ a :: l → P e := fun e he => by
  rcases List.mem_cons.mp he with h' | h'
  · rw [h']; exact ha
  · exact h e h'
theorem xf_all {ts : List (Nat × Nat × Nat × Nat)} {L : Nat} (w : xt_WF ts L) {lv dp p p' : Nat} {ok : Bool} {x : xp_X} (hdp : dp ≤ 4) (h : xf_D (xt_kd ts L) (xt_nm ts L) (xt_pl ts L) lv dp ok p p' x) : xf_X (xt_kd ts L) (xt_pl ts L) (xf_P (xt_kd ts L) (xt_nm ts L) (xt_pl ts L)) ts.length ok p p' x := by
  have hm : ∀ i j, i < j → j ≤ ts.length → xt_pl ts L i < xt_pl ts L j := fun i j a b => xt_pl_sm w b a
  have cl := xf_D_cl (xt_kd ts L) (xt_nm ts L) (xt_pl ts L)
  refine (h (fun lv dp ok p p' x => dp ≤ 4 → (xf_D (xt_kd ts L) (xt_nm ts L) (xt_pl ts L) lv dp ok p p' x ∧ xf_X (xt_kd ts L) (xt_pl ts L) (xf_P (xt_kd ts L) (xt_nm ts L) (xt_pl ts L)) ts.length ok p p' x)) ⟨?_, ?_, ?_, ?_, ?_, ?_, ?_, ?_, ?_, ?_⟩ hdp).2
  · intro dp ok p h hdp
    have h1 := xt_kd_lt w (i := p) (by omega)
    have h2 := xt_nm_b w (i := p) (by omega)
    refine ⟨cl.1 dp ok p h, ⟨by omega, by omega⟩, ?_, ?_, rfl, fun _ => ⟨?_, ?_, rfl⟩, ⟨⟨fun e => absurd e (by simp), fun _ => rfl⟩, ⟨fun e => absurd e (by simp), fun _ => rfl⟩⟩, ⟨?_, List.Pairwise.nil⟩, fun A V O s => ⟨?_, List.Pairwise.nil⟩⟩
    · refine xf_memC ⟨⟨?_, ?_, ?_, ?_⟩, p, by omega, by omega, rfl⟩ (fun e he => by simp at he)
      · show 0 < 8; omega
      · show xt_nm ts L p < 20000; omega
      · intro e; exact absurd e (by simp)
      · intro e; exact absurd e (by simp)
    · refine xf_memC ⟨⟨?_, ?_, ?_, ?_⟩, p, by omega, by omega, rfl⟩ (fun e he => by simp at he)
      · show 1 < 300; omega
      · show xt_nm ts L p < 20000; omega
      · intro e; exact absurd e (by simp)
      · intro e; exact absurd e (by simp)
    · exact xf_memC (by show (0 : Nat) ≠ 5; decide) (fun e he => by simp at he)
    · exact xf_memC (by show (1 : Nat) ≠ 202; decide) (fun e he => by simp at he)
    · intro e he; cases he
    · intro e he; cases he
  · intro dp ok p h hdp
    have h1 := xt_kd_lt w (i := p) (by omega)
    have h2 := xt_var_b w h
    refine ⟨cl.2.1 dp ok p h, ⟨by omega, by omega⟩, ?_, ?_, rfl, fun _ => ⟨?_, ?_, rfl⟩, ⟨⟨fun e => absurd e (by simp), fun _ => rfl⟩, ⟨fun e => absurd e (by simp), fun _ => rfl⟩⟩, ⟨?_, List.Pairwise.nil⟩, fun A V O s => ⟨?_, by show xf_dis [_]; simp [xf_dis]⟩⟩
    · refine xf_memC ⟨⟨?_, ?_, ?_, ?_⟩, p, by omega, by omega, rfl⟩ (fun e he => by simp at he)
      · show 1 < 8; omega
      · show xt_nm ts L p < 20000; omega
      · intro e; exact h2
      · intro e; exact absurd e (by simp)
    · refine xf_memC ⟨⟨?_, ?_, ?_, ?_⟩, p, by omega, by omega, rfl⟩ (fun e he => by simp at he)
      · show 2 < 300; omega
      · show xt_nm ts L p < 20000; omega
      · intro e; exact h2
      · intro e; exact absurd e (by simp)
    · exact xf_memC (by show (1 : Nat) ≠ 5; decide) (fun e he => by simp at he)
    · exact xf_memC (by show (2 : Nat) ≠ 202; decide) (fun e he => by simp at he)
    · intro e he; cases he
    · exact xf_memC ⟨p, by omega, by omega, rfl⟩ (fun e he => by simp at he)
  · intro dp ok p q x h4 h45 ih hdp
    obtain ⟨hd, a, b, c, d, e, f, g, k⟩ := ih (by omega)
    refine ⟨cl.2.2.1 dp ok p q x h4 h45 hd, ⟨by omega, by omega⟩, xf_mem1 (fun e he => ⟨(b e he).1, xf_in_m (b e he).2 (by omega) (by omega)⟩) ?_, xf_mem1 (fun e he => ⟨(c e he).1, xf_in_m (c e he).2 (by omega) (by omega)⟩) ?_, ?_, fun ho => ⟨xf_mem1 (e ho).1 (by show (2 : Nat) ≠ 5; decide), xf_mem1 (e ho).2.1 (by show (203 : Nat) ≠ 202; decide), (e ho).2.2⟩, ⟨?_, ?_⟩, ⟨fun e he => xf_in_m (g.1 e he) (by omega) (by omega), g.2⟩, fun A V O s => ?_⟩
    · exact ⟨⟨by show (2 : Nat) < 8; omega, by show (0 : Nat) < 20000; omega, fun e => absurd e (by simp), fun e => absurd e (by simp)⟩, p, by omega, by omega, rfl⟩
    · exact ⟨⟨by show (203 : Nat) < 300; omega, by show (0 : Nat) < 20000; omega, fun e => absurd e (by simp), fun e => absurd e (by simp)⟩, p, by omega, by omega, rfl⟩
    · show xq_ld (x.1 ++ [(2, 0, 1, xt_pl ts L p)]) = x.2.2.2.1
      rw [xq_ld_app, d]; simp [xq_ld]
    · have := xo_C_app _ _ _ _ f.1 (xo_C_n (P := xf_P (xt_kd ts L) (xt_nm ts L) (xt_pl ts L)) [(2, 0, 1, xt_pl ts L p)] (by simp))
      rw [List.append_nil] at this; exact this
    · have := xo_G_app _ _ _ _ f.2 (xo_G_n (P := xf_P (xt_kd ts L) (xt_nm ts L) (xt_pl ts L)) [(203, 0, 0, xt_pl ts L p)] (by simp))
      rw [List.append_nil] at this; exact this
    · show (∀ e, e ∈ (xp_un1 _ x.2.2.1 (xt_pl ts L p) A V O s).2.1 → _) ∧ xf_dis (xp_un1 _ x.2.2.1 (xt_pl ts L p) A V O s).2.1
      rcases xf_un1 (f := fun v => -v) (d := x.2.2.1) (p := xt_pl ts L p) (A := A) (V := V) (O := O) (s := s) with h | ⟨v, h⟩
      · rw [h]; exact xf_wide (k A V O s) (by omega) (by omega)
      · rw [h]; exact xf_grow hm (k A V O s) (by omega) (by omega) (by omega) (by omega) (by omega)
  · intro dp ok p q x h4 h45 ih hdp
    obtain ⟨hd, a, b, c, d, e, f, g, k⟩ := ih (by omega)
    refine ⟨cl.2.2.2.1 dp ok p q x h4 h45 hd, ⟨by omega, by omega⟩, xf_mem1 (fun e he => ⟨(b e he).1, xf_in_m (b e he).2 (by omega) (by omega)⟩) ?_, xf_mem1 (fun e he => ⟨(c e he).1, xf_in_m (c e he).2 (by omega) (by omega)⟩) ?_, ?_, fun ho => ⟨xf_mem1 (e ho).1 (by show (3 : Nat) ≠ 5; decide), xf_mem1 (e ho).2.1 (by show (204 : Nat) ≠ 202; decide), (e ho).2.2⟩, ⟨?_, ?_⟩, ⟨fun e he => xf_in_m (g.1 e he) (by omega) (by omega), g.2⟩, fun A V O s => ?_⟩
    · exact ⟨⟨by show (3 : Nat) < 8; omega, by show (0 : Nat) < 20000; omega, fun e => absurd e (by simp), fun e => absurd e (by simp)⟩, p, by omega, by omega, rfl⟩
    · exact ⟨⟨by show (204 : Nat) < 300; omega, by show (0 : Nat) < 20000; omega, fun e => absurd e (by simp), fun e => absurd e (by simp)⟩, p, by omega, by omega, rfl⟩
    · show xq_ld (x.1 ++ [(3, 0, 1, xt_pl ts L p)]) = x.2.2.2.1
      rw [xq_ld_app, d]; simp [xq_ld]
    · have := xo_C_app _ _ _ _ f.1 (xo_C_n (P := xf_P (xt_kd ts L) (xt_nm ts L) (xt_pl ts L)) [(3, 0, 1, xt_pl ts L p)] (by simp))
      rw [List.append_nil] at this; exact this
    · have := xo_G_app _ _ _ _ f.2 (xo_G_n (P := xf_P (xt_kd ts L) (xt_nm ts L) (xt_pl ts L)) [(204, 0, 0, xt_pl ts L p)] (by simp))
      rw [List.append_nil] at this; exact this
    · show (∀ e, e ∈ (xp_un1 _ x.2.2.1 (xt_pl ts L p) A V O s).2.1 → _) ∧ xf_dis (xp_un1 _ x.2.2.1 (xt_pl ts L p) A V O s).2.1
      rcases xf_un1 (f := fun v => xp_tr (v = 0)) (d := x.2.2.1) (p := xt_pl ts L p) (A := A) (V := V) (O := O) (s := s) with h | ⟨v, h⟩
      · rw [h]; exact xf_wide (k A V O s) (by omega) (by omega)
      · rw [h]; exact xf_grow hm (k A V O s) (by omega) (by omega) (by omega) (by omega) (by omega)
  · intro dp ok p q x h4 h40 h41 ih hdp
    obtain ⟨hd, a, b, c, d, e, f, g, k⟩ := ih (by omega)
    have h1 := xt_kd_lt w (i := q) (by omega)
    exact ⟨cl.2.2.2.2.1 dp ok p q x h4 h40 h41 hd, ⟨by omega, by omega⟩, fun e he => ⟨(b e he).1, xf_in_m (b e he).2 (by omega) (by omega)⟩, fun e he => ⟨(c e he).1, xf_in_m (c e he).2 (by omega) (by omega)⟩, d, e, f, ⟨fun e he => xf_in_m (g.1 e he) (by omega) (by omega), g.2⟩, fun A V O s => xf_wide (k A V O s) (by omega) (by omega)⟩
  · intro dp ok p q x h4 hmn h40 h41 ih hdp
    obtain ⟨hd, a, b, c, d, e, f, g, k⟩ := ih (by omega)
    have h1 := xt_kd_lt w (i := q) (by omega)
    have hm1 : (if xt_kd ts L p = 78 then 1 else 0) ≤ 1 := by split <;> omega
    refine ⟨cl.2.2.2.2.2.1 dp ok p q x h4 hmn h40 h41 hd, ⟨by omega, by omega⟩, xf_mem1 (fun e he => ⟨(b e he).1, xf_in_m (b e he).2 (by omega) (by omega)⟩) ?_, xf_mem1 (fun e he => ⟨(c e he).1, xf_in_m (c e he).2 (by omega) (by omega)⟩) ?_, ?_, fun ho => ⟨xf_mem1 (e ho).1 (by show (4 : Nat) ≠ 5; decide), xf_mem1 (e ho).2.1 (by show (201 : Nat) ≠ 202; decide), (e ho).2.2⟩, ⟨?_, ?_⟩, ⟨fun e he => xf_in_m (g.1 e he) (by omega) (by omega), g.2⟩, fun A V O s => ?_⟩
    · exact ⟨⟨by show (4 : Nat) < 8; omega, by show (if xt_kd ts L p = 78 then 1 else 0) < 20000; omega, fun e => absurd e (by simp), fun e => hm1⟩, p, by omega, by omega, rfl⟩
    · exact ⟨⟨by show (201 : Nat) < 300; omega, by show (if xt_kd ts L p = 78 then 1 else 0) < 20000; omega, fun e => absurd e (by simp), fun e => hm1⟩, p, by omega, by omega, rfl⟩
    · show xq_ld (x.1 ++ [(4, _, 1, xt_pl ts L p)]) = x.2.2.2.1
      rw [xq_ld_app, d]; simp [xq_ld]
    · have := xo_C_app _ _ _ _ f.1 (xo_C_n (P := xf_P (xt_kd ts L) (xt_nm ts L) (xt_pl ts L)) [(4, (if xt_kd ts L p = 78 then 1 else 0), 1, xt_pl ts L p)] (by simp))
      rw [List.append_nil] at this; exact this
    · have := xo_G_app _ _ _ _ f.2 (xo_G_n (P := xf_P (xt_kd ts L) (xt_nm ts L) (xt_pl ts L)) [(201, (if xt_kd ts L p = 78 then 1 else 0), 0, xt_pl ts L p)] (by simp))
      rw [List.append_nil] at this; exact this
    · show (∀ e, e ∈ (xp_call1 _ x.2.2.1 (xt_pl ts L p) A V O s).2.1 → _) ∧ xf_dis (xp_call1 _ x.2.2.1 (xt_pl ts L p) A V O s).2.1
      rcases xf_call1 (m := (if xt_kd ts L p = 78 then 1 else 0)) (d := x.2.2.1) (p := xt_pl ts L p) (A := A) (V := V) (O := O) (s := s) with h | ⟨v, h⟩
      · rw [h]; exact xf_wide (k A V O s) (by omega) (by omega)
      · rw [h]; exact xf_grow hm (k A V O s) (by omega) (by omega) (by omega) (by omega) (by omega)
  · intro dp p q x h4 h79 h40 h41 ih hdp
    obtain ⟨hd, a, b, c, d, e, f, g, k⟩ := ih (by omega)
    have h1 := xt_kd_lt w (i := q) (by omega)
    have e' := e rfl
    have hp120 := fun i (hi : i < ts.length) => xt_pl_lt w hi
    have hPx : xf_P (xt_kd ts L) (xt_nm ts L) (xt_pl ts L) x := by
      refine ⟨dp + 1, p + 2, q, by omega, hd, fun u hu => ⟨e'.1 u hu, (b u hu).1, ?_⟩, fun u hu => ⟨e'.2.1 u hu, (c u hu).1, ?_⟩⟩
      · obtain ⟨i, i1, i2, i3⟩ := (b u hu).2; rw [i3]; exact hp120 i (by omega)
      · obtain ⟨i, i1, i2, i3⟩ := (c u hu).2; rw [i3]; exact hp120 i (by omega)
    refine ⟨cl.2.2.2.2.2.2.1 dp p q x h4 h79 h40 h41 hd, ⟨by omega, by omega⟩, xf_memC ?_ (fun e he => ⟨(b e he).1, xf_in_m (b e he).2 (by omega) (by omega)⟩), ?_, ?_, fun ho => absurd ho (by decide), ⟨⟨fun _ => ⟨x, [], [], hPx, rfl, (List.append_nil _).symm, rfl, by rw [← e'.2.2]; exact f.1⟩, fun hn => absurd rfl hn⟩, ?_⟩, ⟨xf_memC ⟨p, by omega, by omega, rfl⟩ (fun e he => by simp at he), by show [_].Pairwise _; simp⟩, fun A V O s => ⟨xf_memC ⟨p, by omega, by omega, rfl⟩ (fun e he => by simp at he), by show xf_dis [_]; simp [xf_dis]⟩⟩
    · exact ⟨⟨by show (5 : Nat) < 8; omega, by show (0 : Nat) < 20000; omega, fun e => absurd e (by simp), fun e => absurd e (by simp)⟩, p, by omega, by omega, rfl⟩
    · show ∀ e, e ∈ (202, 0, x.2.1.length + 1, xt_pl ts L p) :: x.2.1 ++ [(206, 0, 0, xt_pl ts L p)] → _
      refine xf_mem1 (xf_memC ?_ (fun e he => ⟨(c e he).1, xf_in_m (c e he).2 (by omega) (by omega)⟩)) ?_
      · exact ⟨⟨by show (202 : Nat) < 300; omega, by show (0 : Nat) < 20000; omega, fun e => absurd e (by simp), fun e => absurd e (by simp)⟩, p, by omega, by omega, rfl⟩
      · exact ⟨⟨by show (206 : Nat) < 300; omega, by show (0 : Nat) < 20000; omega, fun e => absurd e (by simp), fun e => absurd e (by simp)⟩, p, by omega, by omega, rfl⟩
    · show xq_ld ((5, 0, x.1.length + 1, xt_pl ts L p) :: x.1) = x.2.2.2.1
      rw [← d]; simp [xq_ld]
    · show xo_G _ ((202, 0, x.2.1.length + 1, xt_pl ts L p) :: (x.2.1 ++ [(206, 0, 0, xt_pl ts L p)])) [(xt_pl ts L p, x.2.2.1)]
      refine ⟨fun _ => ⟨x, [], [(206, 0, 0, xt_pl ts L p)], hPx, rfl, rfl, rfl, ?_⟩, fun hn => absurd rfl hn⟩
      have := xo_G_app _ _ _ _ f.2 (xo_G_n (P := xf_P (xt_kd ts L) (xt_nm ts L) (xt_pl ts L)) [(206, 0, 0, xt_pl ts L p)] (by simp))
      rw [e'.2.2] at this; exact this
  · intro lv dp ok p q x h4 ih hdp
    exact ⟨cl.2.2.2.2.2.2.2.1 lv dp ok p q x h4 (ih hdp).1, (ih hdp).2⟩
  · intro lv dp ok p q q' x y h2 h4 hl ihx ihy hdp
    obtain ⟨hd, a, b, c, d, e, f, g, k⟩ := ihx hdp
    obtain ⟨hd2, a2, b2, c2, d2, e2, f2, g2, k2⟩ := ihy hdp
    have hka := xf_ka_b hl h4
    refine ⟨cl.2.2.2.2.2.2.2.2.1 lv dp ok p q q' x y h2 h4 hl hd hd2, ⟨by omega, by omega⟩, xf_mem1 (xf_memA (fun e he => ⟨(b e he).1, xf_in_m (b e he).2 (by omega) (by omega)⟩) (fun e he => ⟨(b2 e he).1, xf_in_m (b2 e he).2 (by omega) (by omega)⟩)) ?_, xf_mem1 (xf_memA (fun e he => ⟨(c e he).1, xf_in_m (c e he).2 (by omega) (by omega)⟩) (fun e he => ⟨(c2 e he).1, xf_in_m (c2 e he).2 (by omega) (by omega)⟩)) ?_, ?_, fun ho => ⟨xf_mem1 (xf_memA (e ho).1 (e2 ho).1) (by show (7 : Nat) ≠ 5; decide), xf_mem1 (xf_memA (e ho).2.1 (e2 ho).2.1) hka.2.2.2.1, ?_⟩, ⟨?_, ?_⟩, xf_pw hm g g2 (by omega) (by omega) (by omega), fun A V O s => ?_⟩
    · exact ⟨⟨by show (7 : Nat) < 8; omega, by show xt_kd ts L q < 20000; omega, fun e => absurd e (by simp), fun e => absurd e (by simp)⟩, q, by omega, by omega, rfl⟩
    · exact ⟨⟨hka.1, by show (0 : Nat) < 20000; omega, fun e => absurd e hka.2.1, fun e => absurd e hka.2.2.1⟩, q, by omega, by omega, rfl⟩
    · show xq_ld (x.1 ++ y.1 ++ [(7, _, 1, _)]) = x.2.2.2.1 ++ y.2.2.2.1
      rw [xq_ld_app, xq_ld_app, d, d2]; simp [xq_ld]
    · show x.2.2.2.2 ++ y.2.2.2.2 = []
      rw [(e ho).2.2, (e2 ho).2.2]; rfl
    · have := xo_C_app _ _ _ _ (xo_C_app _ _ _ _ f.1 f2.1) (xo_C_n (P := xf_P (xt_kd ts L) (xt_nm ts L) (xt_pl ts L)) [(7, xt_kd ts L q, 1, xt_pl ts L q)] (by simp))
      rw [List.append_nil] at this; exact this
    · have := xo_G_app _ _ _ _ (xo_G_app _ _ _ _ f.2 f2.2) (xo_G_n (P := xf_P (xt_kd ts L) (xt_nm ts L) (xt_pl ts L)) [(xt_ka (xt_kd ts L q), 0, 0, xt_pl ts L q)] (xf_memC hka.2.2.2.1 (fun e he => by simp at he)))
      rw [List.append_nil] at this; exact this
    · show (∀ e, e ∈ (xp_bin1 _ x.2.2.1 y.2.2.1 _ A V O s).2.1 → _) ∧ xf_dis (xp_bin1 _ x.2.2.1 y.2.2.1 _ A V O s).2.1
      have k' := k A V O s
      unfold xp_bin1
      rcases hx : x.2.2.1 A V O s with ⟨s1, D, f | v⟩
      · rw [hx] at k'; exact xf_wide k' (by omega) (by omega)
      · rw [hx] at k'
        have k3 := k2 A V O s1
        simp only
        rcases hy : y.2.2.1 A V O s1 with ⟨s2, D2, f | v2⟩
        · rw [hy] at k3
          have := xf_two hm k' k3 (by omega) (by omega) (by omega)
          exact ⟨this.1, this.2.1⟩
        · rw [hy] at k3
          have := xf_two hm k' k3 (by omega) (by omega) (by omega)
          simp only
          cases xp_op (xt_kd ts L q) v v2 with
          | none => exact ⟨this.1, this.2.1⟩
          | some u => exact this.2.2 u
  · intro lv dp ok p q q' x y h2 hl ihx ihy hdp
    obtain ⟨hd, a, b, c, d, e, f, g, k⟩ := ihx hdp
    obtain ⟨hd2, a2, b2, c2, d2, e2, f2, g2, k2⟩ := ihy hdp
    have hka := xf_ka_b hl (by omega)
    refine ⟨cl.2.2.2.2.2.2.2.2.2 lv dp ok p q q' x y h2 hl hd hd2, ⟨by omega, by omega⟩, ?_, ?_, ?_, fun ho => ⟨?_, ?_, ?_⟩, ⟨?_, ?_⟩, xf_pw hm g g2 (by omega) (by omega) (by omega), fun A V O s => ?_⟩
    · show ∀ e, e ∈ x.1 ++ (6, xt_kd ts L q, y.1.length + 2, xt_pl ts L q) :: y.1 ++ [(7, xt_kd ts L q, 1, xt_pl ts L q)] → _
      refine xf_mem1 (xf_memA (fun e he => ⟨(b e he).1, xf_in_m (b e he).2 (by omega) (by omega)⟩) (xf_memC ?_ (fun e he => ⟨(b2 e he).1, xf_in_m (b2 e he).2 (by omega) (by omega)⟩))) ?_
      · exact ⟨⟨by show (6 : Nat) < 8; omega, by show xt_kd ts L q < 20000; omega, fun e => absurd e (by simp), fun e => absurd e (by simp)⟩, q, by omega, by omega, rfl⟩
      · exact ⟨⟨by show (7 : Nat) < 8; omega, by show xt_kd ts L q < 20000; omega, fun e => absurd e (by simp), fun e => absurd e (by simp)⟩, q, by omega, by omega, rfl⟩
    · show ∀ e, e ∈ x.2.1 ++ (205, 0, y.2.1.length + 1, xt_pl ts L q) :: y.2.1 ++ [(xt_ka (xt_kd ts L q), 0, 0, xt_pl ts L q)] → _
      refine xf_mem1 (xf_memA (fun e he => ⟨(c e he).1, xf_in_m (c e he).2 (by omega) (by omega)⟩) (xf_memC ?_ (fun e he => ⟨(c2 e he).1, xf_in_m (c2 e he).2 (by omega) (by omega)⟩))) ?_
      · exact ⟨⟨by show (205 : Nat) < 300; omega, by show (0 : Nat) < 20000; omega, fun e => absurd e (by simp), fun e => absurd e (by simp)⟩, q, by omega, by omega, rfl⟩
      · exact ⟨⟨hka.1, by show (0 : Nat) < 20000; omega, fun e => absurd e hka.2.1, fun e => absurd e hka.2.2.1⟩, q, by omega, by omega, rfl⟩
    · show xq_ld (x.1 ++ (6, _, _, _) :: y.1 ++ [(7, _, 1, _)]) = x.2.2.2.1 ++ y.2.2.2.1
      rw [← d, ← d2]; simp [xq_ld]
    · show ∀ e, e ∈ x.1 ++ (6, xt_kd ts L q, y.1.length + 2, xt_pl ts L q) :: y.1 ++ [(7, xt_kd ts L q, 1, xt_pl ts L q)] → _
      exact xf_mem1 (xf_memA (e ho).1 (xf_memC (by show (6 : Nat) ≠ 5; decide) (e2 ho).1)) (by show (7 : Nat) ≠ 5; decide)
    · show ∀ e, e ∈ x.2.1 ++ (205, 0, y.2.1.length + 1, xt_pl ts L q) :: y.2.1 ++ [(xt_ka (xt_kd ts L q), 0, 0, xt_pl ts L q)] → _
      exact xf_mem1 (xf_memA (e ho).2.1 (xf_memC (by show (205 : Nat) ≠ 202; decide) (e2 ho).2.1)) hka.2.2.2.1
    · show x.2.2.2.2 ++ y.2.2.2.2 = []
      rw [(e ho).2.2, (e2 ho).2.2]; rfl
    · show xo_C _ (x.1 ++ (6, xt_kd ts L q, y.1.length + 2, xt_pl ts L q) :: y.1 ++ [(7, xt_kd ts L q, 1, xt_pl ts L q)]) (x.2.2.2.2 ++ y.2.2.2.2)
      have h6 : xo_C (xf_P (xt_kd ts L) (xt_nm ts L) (xt_pl ts L)) ((6, xt_kd ts L q, y.1.length + 2, xt_pl ts L q) :: y.1) y.2.2.2.2 := ⟨fun e => absurd e (by simp), fun _ => f2.1⟩
      have := xo_C_app _ _ _ _ (xo_C_app _ _ _ _ f.1 h6) (xo_C_n (P := xf_P (xt_kd ts L) (xt_nm ts L) (xt_pl ts L)) [(7, xt_kd ts L q, 1, xt_pl ts L q)] (by simp))
      rw [List.append_nil] at this; exact this
    · show xo_G _ (x.2.1 ++ (205, 0, y.2.1.length + 1, xt_pl ts L q) :: y.2.1 ++ [(xt_ka (xt_kd ts L q), 0, 0, xt_pl ts L q)]) (x.2.2.2.2 ++ y.2.2.2.2)
      have h6 : xo_G (xf_P (xt_kd ts L) (xt_nm ts L) (xt_pl ts L)) ((205, 0, y.2.1.length + 1, xt_pl ts L q) :: y.2.1) y.2.2.2.2 := ⟨fun e => absurd e (by simp), fun _ => f2.2⟩
      have := xo_G_app _ _ _ _ (xo_G_app _ _ _ _ f.2 h6) (xo_G_n (P := xf_P (xt_kd ts L) (xt_nm ts L) (xt_pl ts L)) [(xt_ka (xt_kd ts L q), 0, 0, xt_pl ts L q)] (xf_memC hka.2.2.2.1 (fun e he => by simp at he)))
      rw [List.append_nil] at this; exact this
    · show (∀ e, e ∈ (xp_lg1 _ x.2.2.1 y.2.2.1 _ A V O s).2.1 → _) ∧ xf_dis (xp_lg1 _ x.2.2.1 y.2.2.1 _ A V O s).2.1
      have k' := k A V O s
      unfold xp_lg1
      rcases hx : x.2.2.1 A V O s with ⟨s1, D, f | v⟩
      · rw [hx] at k'; exact xf_wide k' (by omega) (by omega)
      · rw [hx] at k'
        have k3 := k2 A V O s1
        simp only
        split
        · exact xf_grow hm k' (by omega) (by omega) (by omega) (by omega) (by omega)
        · rcases hy : y.2.2.1 A V O s1 with ⟨s2, D2, f | v2⟩
          · rw [hy] at k3
            have := xf_two hm k' k3 (by omega) (by omega) (by omega)
            exact ⟨this.1, this.2.1⟩
          · rw [hy] at k3
            have := xf_two hm k' k3 (by omega) (by omega) (by omega)
            exact this.2.2 _
