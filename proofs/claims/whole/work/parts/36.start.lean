/-! THE CLAIM OUT OF ONE WALK OF THE LAW'S BODY. Your part is whole_start (and what it stands on); all else here is the same for every law, but numbers. -/
def R_law : String := "SpecRunnerLaw"
def lw_P (b : Addr) (xs : List Int32) (args : Array Value) (s : State) : Prop := args = #[.ref b] ∧ s.IntsAt b xs ∧ xs.length ≤ 2048 ∧ (Jvm.Cond.and given_1 narrow_1).before args s = true
def lw_Q (_ : Array Value) (s : State) (o : Outcome) (t : State) : Prop := o = .returned (some (.int 1)) ∧ Framed s o t [] 600000 7302250
def lw_Z (below : List Frame) (a : Array Value) (s : State) : State → Prop := fun t => ∃ o, t.status = .running ∧ Ended t below o ∧ lw_Q a s o t
/-- the law's own end, with 1 on the stack, nothing written that was there before, its room as the claim has it -/
theorem lw_ret {p : Program} {l : Launch} {e : Env} {s : State} {m : MethodId} {below : List Frame} {meth : Method} {c : Code} {b : Nat} (hx : p.tables.exec = Jvm.exec) (hb : c.code = code) (hr : meth.sig.returnType = ret) (hlocks : meth.locks = false) {pc : Nat} {H : Heap} {ls : Array Slot} (hdg : decode code pc = .ok (.ireturn, 1)) : W p l e room_1 s m #[Value.ref b] below meth c H [] 600000 7302250 (lw_Z below #[Value.ref b] s) (F0 m pc ls [.int 1]) := by
  intro T hT X
  obtain ⟨fs, hret, hrun, hended, hW, hframe⟩ := X.leave (v := some (.int 1)) (hlocks := hlocks) (fun h => by rw [hr] at h; cases h)
  have hmeth' : T.vm.method? m = some meth := X.method'
  refine ⟨T.setFrames fs, ?_, .returned (some (.int 1)), hrun, hended, rfl, ⟨_, rfl⟩, hW, hframe⟩
  jvm_step X.here [X.here.top, hx, hb, hdg, hmeth', hr, ret, narrow_b1]
  (try refine ⟨rfl, ?_⟩); (try refine ⟨rfl, ?_⟩)
  first | (intro acts; rw [hret _ acts rfl rfl rfl]) | rw [hret _ _ rfl rfl rfl]
  exact Steps.refl _
/-- what holds at the law's entry: the machine, the code, the tables' words (any of lw_tbl by 'hts w (by decide +kernel)'), the script of L ints xs at the cell b, what the Statement gives of the start (any of its parts by flat_of_before) -/
def lw_At (p : Program) (s : State) (m : MethodId) (meth : Method) (c : Code) (b L : Nat) (xs : Nat → Int32) : Prop :=
  p.tables.exec = Jvm.exec ∧ c.code = code ∧ meth.sig.returnType = ret ∧ c.maxLocals = 4 ∧ s.vm.findClass R_law = some m.cls ∧ (∀ w ∈ lw_tbl, w.before #[Value.ref b] s = true) ∧ va_X b L xs s s.heap ∧ b < s.heap.size ∧ meth.locks = false ∧ (Jvm.Cond.and given_1 narrow_1).before #[Value.ref b] s = true
set_option maxHeartbeats 4000000 in
set_option maxRecDepth 100000 in
/-- the numbers of the classes, of the arrays' classes, and the cells that are none of ours, as the start has them -/
theorem start_B {args : Array Value} {s : State} (hts : ∀ w ∈ lw_tbl, w.before args s = true) (hgv : (Jvm.Cond.and given_1 narrow_1).before args s = true) (b : Nat) : ∃ B : pB, B.1 = s.heap.size ∧ B.2.2 102 = b ∧ va_K B.2.1 vwCl (pw_tys B) s ∧ pw_jd B s := by
  have hGW : ∀ w ∈ pw_GW, w.before args s = true := fun w h => hts w (List.mem_filter.mp h).1
  have hq := flat_of_before _ hgv
  have hcls : ∀ k : Nat, ∃ q : ClassId × (Nat → Nat), ∀ r, vwCl[k]? = some r → u_Kn s r.1 r.2.1 r.2.2 q.1 q.2 := by
    intro k
    match k with
    | 0 =>
      obtain ⟨c_, i_, h_⟩ := u_known hGW ck_sr.2.1 (hGW (.instantiable n_sr 11) (pw_gw 121 (by decide +kernel) (by decide +kernel)))
      exact ⟨(c_, i_), fun r hr => by cases hr; exact h_⟩
    | 1 =>
      obtain ⟨c_, i_, h_⟩ := u_known hGW ck_ck.2.1 (hGW (.instantiable n_ck 4) (pw_gw 129 (by decide +kernel) (by decide +kernel)))
      exact ⟨(c_, i_), fun r hr => by cases hr; exact h_⟩
    | 2 =>
      obtain ⟨c_, i_, h_⟩ := u_known hGW ck_cd.2.1 (hGW (.instantiable n_cd 5) (pw_gw 224 (by decide +kernel) (by decide +kernel)))
      exact ⟨(c_, i_), fun r hr => by cases hr; exact h_⟩
    | 3 =>
      obtain ⟨c_, i_, h_⟩ := u_known hGW ck_dr.2.1 (hGW (.instantiable n_dr 7) (pw_gw 159 (by decide +kernel) (by decide +kernel)))
      exact ⟨(c_, i_), fun r hr => by cases hr; exact h_⟩
    | 4 =>
      obtain ⟨c_, i_, h_⟩ := u_known hGW ck_ev.2.1 (hGW (.instantiable n_ev 13) (pw_gw 456 (by decide +kernel) (by decide +kernel)))
      exact ⟨(c_, i_), fun r hr => by cases hr; exact h_⟩
    | 5 =>
      obtain ⟨c_, i_, h_⟩ := u_known hGW ck_ft.2.1 (hGW (.instantiable n_ft 11) (pw_gw 218 (by decide +kernel) (by decide +kernel)))
      exact ⟨(c_, i_), fun r hr => by cases hr; exact h_⟩
    | 6 =>
      obtain ⟨c_, i_, h_⟩ := u_known hGW ck_oc.2.1 (hGW (.instantiable n_oc 6) (pw_gw 153 (by decide +kernel) (by decide +kernel)))
      exact ⟨(c_, i_), fun r hr => by cases hr; exact h_⟩
    | 7 =>
      obtain ⟨c_, i_, h_⟩ := u_known hGW ck_ps.2.1 (hGW (.instantiable n_ps 5) (pw_gw 400 (by decide +kernel) (by decide +kernel)))
      exact ⟨(c_, i_), fun r hr => by cases hr; exact h_⟩
    | 8 =>
      obtain ⟨c_, i_, h_⟩ := u_known hGW ck_rl.2.1 (hGW (.instantiable n_rl 10) (pw_gw 298 (by decide +kernel) (by decide +kernel)))
      exact ⟨(c_, i_), fun r hr => by cases hr; exact h_⟩
    | 9 =>
      obtain ⟨c_, i_, h_⟩ := u_known hGW ck_rn.2.1 (hGW (.instantiable n_rn 3) (pw_gw 450 (by decide +kernel) (by decide +kernel)))
      exact ⟨(c_, i_), fun r hr => by cases hr; exact h_⟩
    | 10 =>
      obtain ⟨c_, i_, h_⟩ := u_known hGW ck_st.2.1 (hGW (.instantiable n_st 7) (pw_gw 257 (by decide +kernel) (by decide +kernel)))
      exact ⟨(c_, i_), fun r hr => by cases hr; exact h_⟩
    | 11 =>
      obtain ⟨c_, i_, h_⟩ := u_known hGW ck_tk.2.1 (hGW (.instantiable n_tk 6) (pw_gw 406 (by decide +kernel) (by decide +kernel)))
      exact ⟨(c_, i_), fun r hr => by cases hr; exact h_⟩
    | 12 =>
      obtain ⟨c_, i_, h_⟩ := u_known hGW ck_md.2.1 (hGW (.instantiable n_md 83) (pw_gw 1115 (by decide +kernel) (by decide +kernel)))
      exact ⟨(c_, i_), fun r hr => by cases hr; exact h_⟩
    | k + 13 => exact ⟨(0, fun _ => 0), fun r hr => by simp [vwCl] at hr⟩
  obtain ⟨dd, hdd⟩ := Classical.axiomOfChoice hcls
  obtain ⟨c1, k1, o1, f1, g1, h1⟩ := Cond.arrayClass_spec (hGW (.arrayClass .int) (pw_gw 150 (by decide +kernel) (by decide +kernel)))
  obtain ⟨c2, k2, o2, f2, g2, h2⟩ := Cond.arrayClass_spec (hGW (.arrayClass .char) (pw_gw 149 (by decide +kernel) (by decide +kernel)))
  obtain ⟨c3, k3, o3, f3, g3, h3⟩ := Cond.arrayClass_spec (hGW (.arrayClass .boolean) (pw_gw 1370 (by decide +kernel) (by decide +kernel)))
  have hov := hts (.arrayOver (.object "SpecRunner$Outcome")) (List.mem_of_getElem? (i := 152) (by decide +kernel))
  obtain ⟨o4, c4, k4, p4, -, g4, h4, f4⟩ := Cond.arrayOver_spec hov
  have hA : ∀ a : Nat, a < s.heap.size → ¬ s.heap.size ≤ a := fun a h => Nat.not_le.mpr h
  have hel : ∀ j, j < 28 → Cond.eq (.elem (.field (.string "SpecRunner" 159) "java/lang/String" "value" "[B") (.int (Int32.ofNat j))) (.int (pw_by.getD j 0)) ∈ flatC (Jvm.Cond.and given_1 narrow_1) := by decide +kernel
  obtain ⟨adK, adV, hS, hev⟩ := vk_Sof (N := 1) (tm := fun _ => .string "SpecRunner" 159) (len := [28]) (byt := [pw_by]) (A := fun q => s.heap.size ≤ q) (args := args) (s := s)
    (fun i hi => by have : i = 0 := by omega
                    subst this; decide) (fun i hi => hq _ (by decide +kernel)) (fun i hi => hq _ (by decide +kernel)) (fun i hi => hq _ (by decide +kernel))
    (fun i hi => by have : i = 0 := by omega
                    subst this; exact hq _ (by decide +kernel))
    (fun i hi j hj => by have : i = 0 := by omega
                         subst this; exact hq _ (hel j hj))
    (fun i j hi hj hne => absurd (by omega) hne) hA
  refine ⟨(s.heap.size, (fun k => (dd k).1, fun k => (dd k).2), fun k => if k = 1 then c1 else if k = 2 then c2 else if k = 3 then c3 else if k = 10 then c4 else if k = 100 then adK 0 else if k = 101 then adV 0 else b), rfl, rfl, ⟨fun c q hc => hdd c q hc, fun k q hk => ?_⟩, ?_, ?_, ?_, va_AO.of hov⟩
  · match k, hk with
    | 0, hk => cases hk; exact ⟨fun n z => ⟨fun k h => (by cases h), k1, g1, o1, h1⟩, f1⟩
    | 1, hk => cases hk; exact ⟨fun n z => ⟨fun k h => (by cases h), k2, g2, o2, h2⟩, f2⟩
    | 2, hk => cases hk; exact ⟨fun n z => ⟨fun k h => (by cases h), k3, g3, o3, h3⟩, f3⟩
    | 3, hk => cases hk; exact ⟨fun n z => ⟨fun k h => (by cases h), k4, g4, o4, h4⟩, ⟨k4, o4, g4, h4, p4, f4⟩⟩
    | k + 4, hk => simp [pw_tys] at hk
  · exact vk_R.of (hts (.stringRef "SpecRunner" 159 pw_tx) (List.mem_of_getElem? (i := 569) (by decide +kernel))) (hev 0 (by decide))
  · refine ⟨fun i hi => ?_, fun i j hi hj _ => by omega⟩
    have : i = 0 := by omega
    subst this
    exact hS.1 0 (by decide)
  · exact va_Zof (hts (.laysStatic "java/lang/String" "COMPACT_STRINGS" "Z") (List.mem_of_getElem? (i := 583) (by decide +kernel))) (hGW (.initialized "java/lang/String") (pw_gw 113 (by decide +kernel) (by decide +kernel))) (va_eqi (hq _ (by decide +kernel))) hA
/-- what the two constructors leave -/
def st_I : pI := kI_md (pw_zI (kI_sr (pw_zI (fun _ _ => 0) 0)) 121)
def st_R : pR := kR_md (pw_zR (kR_sr (pw_zR (fun _ _ => none) 0)) 121)
theorem st_sh : ((([] ++ [(0, 0)]) ++ ks_sr) ++ [(0, 12)]) ++ ks_md = pSH := by decide +kernel
theorem st_Lay : pw_Lay st_R := by
  have key : (List.range 175).all (fun t => match pSH[t]? with
    | some (0, ci) => (List.range 90).all (fun k => pw_off ci k == 0 || st_R t k == some (t + pw_off ci k))
    | _ => true) = true := by decide +kernel
  intro t ci k h hk
  have hl : t < 175 := Nat.lt_of_lt_of_le (List.getElem?_eq_some_iff.mp h).1 (by decide +kernel)
  have h1 := List.all_eq_true.mp key t (List.mem_range.mpr hl)
  rw [h] at h1
  have h2 := List.all_eq_true.mp h1 k (List.mem_range.mpr (pw_off_lt hk))
  simp only [Bool.or_eq_true, beq_iff_eq] at h2
  rcases h2 with h2 | h2
  · exact absurd h2 hk
  · exact h2
set_option maxHeartbeats 4000000 in
set_option maxRecDepth 100000 in
/-- THE LAW from its entry, out of the pure statement alone -/
theorem whole_open (hpure : ∀ (Ls : Nat) (xs : Nat → Int32), Ls ≤ 2048 → ∃ n, l_lw_law_18 Ls xs (fun _ _ => True) (fun _ _ _ => True) n (0 : Int32) st_I st_R) {p : Program} {e : Env} {s : State} {m : MethodId} {below : List Frame} {meth : Method} {c : Code} (l : Launch) {b L : Nat} {xs : Nat → Int32} (hL : L ≤ 2048) (C0 : lw_At p s m meth c b L xs) : W p l e room_1 s m #[Value.ref b] below meth c s.heap [] 0 0 (lw_Z below #[Value.ref b] s) (entryFrame m ([Value.ref b] : List Value).toArray 4) := by
  obtain ⟨hx, hb, hr, hml, hown, hts, hX, hbl, hlocks, hgv⟩ := id C0
  obtain ⟨B, hB1, hB2, hK, hJ⟩ := start_B hts hgv b
  obtain ⟨E, hE⟩ : ∃ E : pE, E = (p, l, e, room_1, s, m, #[Value.ref b], below, meth, c, lw_Z below #[Value.ref b] s) := ⟨_, rfl⟩
  have g : pw_G m_lw_law 1000 175 18037 E B := by
    subst hE
    exact ⟨hx, hb, hml, hr, hown, fun w h => hts w (List.mem_filter.mp h).1, hlocks, fun h => absurd h (by decide), hK, fun w hw => va_Nw.of (pw_NW_tab w hw) (hts w (List.mem_filter.mp hw).1), by rw [hB1]; exact Nat.le_refl _, show 1000 ≤ room_1.frames by decide, show 80 * 1000 ≤ room_1.locals by decide, show 175 ≤ room_1.cells by decide, show 18037 ≤ room_1.slots by decide, hJ⟩
  have hX2 : va_X (B.2.2 102) L xs E.2.2.2.2.1 E.2.2.2.2.1.heap := by subst hE; rw [hB2]; exact hX
  have hbl2 : B.2.2 102 < E.2.2.2.2.1.heap.size := by subst hE; rw [hB2]; exact hbl
  have hbA : ¬ B.1 ≤ B.2.2 102 := by rw [hB1, hB2]; exact Nat.not_le.mpr hbl
  have hret : ∀ pc L I R, decode code pc = .ok (.ireturn, 1) → PY 175 18037 0 E B 4 pc L [.int 1] I R := by
    intro pc L I R dg
    subst hE
    intro H locs ls cells slots h1 h2 h3 h4 h5 h6
    refine W.widen (k := 600000) (n := 7302250) (by omega) (by omega) ?_
    refine va_forget (fun q hq => by rw [← hB1]; exact h5.2.2 q hq) ?_
    exact lw_ret hx hb hr hlocks dg
  obtain ⟨n, hn⟩ := hpure L xs hL
  have main : PW E B 4 175 18037 175 18037 0 [some (.retAddr 2), none, none, none] [] (fun _ _ => 0) (fun _ _ => none) [] := by
    refine PW.newo (nc := 174) (ns := 18026) g 0 ck_sr dv_sr (pw_gw 120 (by decide +kernel) (by decide +kernel)) (pw_gw 121 (by decide +kernel) (by decide +kernel)) (pw_gw 100 (by decide +kernel) (by decide +kernel)) rfl d_lw_law_0 ?_
    refine PW.dup g rfl d_lw_law_3 ?_
    refine PW.callI (mc2 := 120) (ms2 := 7195) (nc := 54) (ns := 10831) [] [.ref 0] g (k_sr_init 0 rfl rfl) cl_lw_9 (by decide) (by decide) rfl rfl (Nat.le_of_ble_eq_true rfl) d_lw_law_4 (fun r_ I_ R_ sh_ hh => ?_)
    obtain ⟨rfl, rfl, rfl, rfl⟩ := hh
    refine PW.astore_n g rfl (L' := [some (.retAddr 2), some (.ref 0), none, none]) (by decide) rfl rfl d_lw_law_7 ?_
    refine PW.newo (nc := 53) (ns := 10748) g 121 ck_md dv_md (pw_gw 1114 (by decide +kernel) (by decide +kernel)) (pw_gw 1115 (by decide +kernel) (by decide +kernel)) (pw_gw 112 (by decide +kernel) (by decide +kernel)) rfl d_lw_law_8 ?_
    refine PW.dup g rfl d_lw_law_11 ?_
    refine PW.callI (mc2 := 53) (ms2 := 10748) (nc := 0) (ns := 0) [] [.ref 121] g (k_md_init 0 (by decide +kernel) (by decide +kernel)) cl_lw_12 (by decide) (by decide) rfl rfl (Nat.le_of_ble_eq_true rfl) d_lw_law_12 (fun r_ I_ R_ sh_ hh => ?_)
    obtain ⟨rfl, rfl, rfl, rfl⟩ := hh
    refine PW.astore_n g rfl (L' := [some (.retAddr 2), some (.ref 0), some (.ref 121), none]) (by decide) rfl rfl d_lw_law_15 ?_
    refine PW.iconst g 0 (by decide) d_lw_law_16 ?_
    refine PW.istore_n g rfl (L' := [some (.retAddr 2), some (.ref 0), some (.ref 121), some (.int 0)]) (by decide) rfl rfl d_lw_law_17 ?_
    rw [st_sh]
    refine L_lw_law_18 (1000 - 72) g hX2 hbl2 hbA hret (fun I1 R1 hL h => ?_) n (0 : Int32) st_I st_R st_Lay hn
    refine PW.iconst g 1 (by decide) d_lw_law_534 ?_
    exact hret _ _ _ _ d_lw_law_535
  subst hE
  have hl := lv_entry ([Value.ref b]) (n := 4) (Nat.le_of_ble_eq_true rfl)
  rw [lg_entry_eq]
  refine main s.heap [] _ 0 0 rfl (by omega) (fun k q h => by simp [pw_ws] at h) (by rw [hB1]; rfl) va_S.rf ?_
  have e1 : pw_lv B 0 [some (.retAddr 2), none, none, none] = [(0, Value.ref b)] := by
    show [(0, Value.ref (B.2.2 (100 + 2)))] = _
    rw [show (100 + 2) = 102 from rfl, hB2]
  rw [e1]
  exact hl
