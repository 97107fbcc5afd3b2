section PWN
variable {y : pM} {d0 : Nat} {E : pE} {B : pB} {nL mc ms nc ns pc : Nat} {L : List (Option Value)} {S : List Value} {I : pI} {R : pR} {sh : pS}
def pw_zI (I : pI) (p : Nat) : pI := fun p' => if p' = p then (fun _ => 0) else I p'
def pw_zR (R : pR) (p : Nat) : pR := fun p' => if p' = p then (fun _ => none) else R p'
theorem pw_size {H : Heap} {locs : List Loc} {cells : Nat} (g : pw_G y d0 mc ms E B) (h3 : va_P B.2.1 vwCl (pw_ws B I R sh) H) (h4 : E.2.2.2.2.1.heap.size + cells = B.1 + sh.length) (h5 : va_S (fun q => B.1 ≤ q) E.2.2.2.2.1.heap H locs) (hz : H.size ≤ E.2.2.2.2.1.heap.size + cells) : H.size = B.1 + sh.length := by
  have hlow : B.1 + sh.length ≤ H.size := by
    cases hn : sh.length with
    | zero =>
      have := g.low
      have := h5.1
      omega
    | succ n =>
      have hlt : n < sh.length := by omega
      have := (h3 n _ (pw_ws_at (List.getElem?_eq_getElem hlt))).lt
      simp only at this
      omega
  omega
theorem pw_cell_congr {I' : pI} {R' : pR} {p : Nat} {q : Nat × Nat} (e1 : I' p = I p) (e2 : R' p = R p) : pw_cell B I' R' p q = pw_cell B I R p q := by
  have e3 : ∀ ci, pw_fld B.1 I' R' p ci = pw_fld B.1 I R p ci := fun ci => by funext k; simp [pw_fld, e1, e2]
  simp [pw_cell, pw_fs, e1, e2, e3]
theorem pw_push {q : Nat × Nat} {I' : pI} {R' : pR} {H H' : Heap} (h3 : va_P B.2.1 vwCl (pw_ws B I R sh) H) (hk : ∀ x, x < H.size → H'[x]? = H[x]?) (hn : va_at B.2.1 vwCl (B.1 + sh.length, pw_cell B I' R' sh.length q) H') (hI : ∀ p', p' ≠ sh.length → I' p' = I p') (hR : ∀ p', p' ≠ sh.length → R' p' = R p') : va_P B.2.1 vwCl (pw_ws B I' R' (sh ++ [q])) H' := by
  intro k x hx
  obtain ⟨q', hq', rfl⟩ := pw_ws_of hx
  by_cases hk' : k < sh.length
  · rw [List.getElem?_append_left hk'] at hq'
    have hw := h3 k _ (pw_ws_at hq')
    have hne : k ≠ sh.length := by omega
    rw [pw_cell_congr (hI k hne) (hR k hne)]
    exact hw.kept (hk _ hw.lt)
  · rw [List.getElem?_append_right (by omega)] at hq'
    have h0 := (List.getElem?_eq_some_iff.mp hq').1
    have hk0 : k = sh.length := by simp at h0; omega
    subst hk0
    simp at hq'
    subst hq'
    exact hn
theorem pw_S_push {H H' : Heap} {locs : List Loc} {s : State} (h5 : va_S (fun q => B.1 ≤ q) s.heap H locs) (hz : H.size ≤ H'.size) (ho : ∀ x, x < H.size → H'[x]? = H[x]?) : va_S (fun q => B.1 ≤ q) s.heap H' locs :=
  ⟨Nat.le_trans h5.1 hz, fun x hx hA => (ho x (Nat.lt_of_lt_of_le hx h5.1)).trans (h5.2.1 x hx hA), h5.2.2⟩
theorem PW.newaI (g : pw_G y d0 mc ms E B) {n : Int32} (N q : Nat) (hq : sh.length = q) (hn : ¬ n < 0) (hN : n.toNatClampNeg = N) (hb : N ≤ 100000) (dg : decode y.2.1 pc = .ok (.newarray .int, 2)) (k : PW E B nL mc ms nc ns (pc + 2) L (.ref q :: S) (pw_zI I q) R (sh ++ [(1, N)])) : PW E B nL mc ms (1 + nc) (N + ns) pc L (.int n :: S) I R sh := by
  subst hq
  intro H locs ls cells slots h1 h2 h3 h4 h5 h6
  refine pw_sz (fun hz => ?_)
  have hsz := pw_size g h3 h4 h5 hz
  have hce := g.cells
  have hsl := g.slots
  have hby : N * componentBytes (newarray.typeOf .int) ≤ 536870912 := by
    have e : componentBytes (newarray.typeOf .int) = 4 := rfl
    rw [e]; omega
  have hac := g.words (.arrayClass .int) (pw_gw 150 (by decide +kernel) (by decide +kernel))
  have hRA := (g.K.2 0 (B.2.2 1, .int) rfl).2
  refine va_newaK (atype := .int) (rest := S.map (pw_tr B)) g.exec g.bytes hac rfl dg rfl hn hN hby (by omega) (by omega) hsz (fun H' cA e1 z1 o1 hAr hNm => ?_)
  have hRA : E.2.2.2.2.1.vm.findClass ("[" ++ (newarray.typeOf .int).toString) = some (B.2.2 1) := hRA
  rw [hRA] at hNm
  have hcA : B.2.2 1 = cA := Option.some.inj hNm
  subst hcA
  have ho : ∀ x, x < H.size → H'[x]? = H[x]? := fun x hx => o1 x (by omega)
  refine k H' locs ls (cells + 1) (slots + N) (by omega) (by omega) (pw_push h3 ho ?_ (fun p' h => by simp [pw_zI, h]) (fun p' h => rfl)) (by rw [List.length_append]; simp only [List.length_cons, List.length_nil]; omega) (pw_S_push h5 (by omega) ho) h6
  have e3 : pw_cell B (pw_zI I sh.length) R sh.length (1, N) = .inl (B.2.2 1, N, .inl (fun _ => 0)) := by
    unfold pw_cell
    rw [if_neg (show ¬ (1 : Nat) = 0 by decide), if_pos (show (1 : Nat) < 10 by decide)]
    simp [pw_zI]
  rw [e3]
  exact e1
theorem PW.newaC (g : pw_G y d0 mc ms E B) {n : Int32} (N q : Nat) (hq : sh.length = q) (hn : ¬ n < 0) (hN : n.toNatClampNeg = N) (hb : N ≤ 100000) (dg : decode y.2.1 pc = .ok (.newarray .char, 2)) (k : PW E B nL mc ms nc ns (pc + 2) L (.ref q :: S) (pw_zI I q) R (sh ++ [(2, N)])) : PW E B nL mc ms (1 + nc) (N + ns) pc L (.int n :: S) I R sh := by
  subst hq
  intro H locs ls cells slots h1 h2 h3 h4 h5 h6
  refine pw_sz (fun hz => ?_)
  have hsz := pw_size g h3 h4 h5 hz
  have hce := g.cells
  have hsl := g.slots
  have hby : N * componentBytes (newarray.typeOf .char) ≤ 536870912 := by
    have e : componentBytes (newarray.typeOf .char) = 2 := rfl
    rw [e]; omega
  have hac := g.words (.arrayClass .char) (pw_gw 149 (by decide +kernel) (by decide +kernel))
  have hRA := (g.K.2 1 (B.2.2 2, .char) rfl).2
  refine va_newaK (atype := .char) (rest := S.map (pw_tr B)) g.exec g.bytes hac rfl dg rfl hn hN hby (by omega) (by omega) hsz (fun H' cA e1 z1 o1 hAr hNm => ?_)
  have hRA : E.2.2.2.2.1.vm.findClass ("[" ++ (newarray.typeOf .char).toString) = some (B.2.2 2) := hRA
  rw [hRA] at hNm
  have hcA : B.2.2 2 = cA := Option.some.inj hNm
  subst hcA
  have ho : ∀ x, x < H.size → H'[x]? = H[x]? := fun x hx => o1 x (by omega)
  refine k H' locs ls (cells + 1) (slots + N) (by omega) (by omega) (pw_push h3 ho ?_ (fun p' h => by simp [pw_zI, h]) (fun p' h => rfl)) (by rw [List.length_append]; simp only [List.length_cons, List.length_nil]; omega) (pw_S_push h5 (by omega) ho) h6
  have e3 : pw_cell B (pw_zI I sh.length) R sh.length (2, N) = .inl (B.2.2 2, N, .inl (fun _ => 0)) := by
    unfold pw_cell
    rw [if_neg (show ¬ (2 : Nat) = 0 by decide), if_pos (show (2 : Nat) < 10 by decide)]
    simp [pw_zI]
  rw [e3]
  exact e1
theorem PW.newaZ (g : pw_G y d0 mc ms E B) {n : Int32} (N q : Nat) (hq : sh.length = q) (hn : ¬ n < 0) (hN : n.toNatClampNeg = N) (hb : N ≤ 100000) (dg : decode y.2.1 pc = .ok (.newarray .boolean, 2)) (k : PW E B nL mc ms nc ns (pc + 2) L (.ref q :: S) (pw_zI I q) R (sh ++ [(3, N)])) : PW E B nL mc ms (1 + nc) (N + ns) pc L (.int n :: S) I R sh := by
  subst hq
  intro H locs ls cells slots h1 h2 h3 h4 h5 h6
  refine pw_sz (fun hz => ?_)
  have hsz := pw_size g h3 h4 h5 hz
  have hce := g.cells
  have hsl := g.slots
  have hby : N * componentBytes (newarray.typeOf .boolean) ≤ 536870912 := by
    have e : componentBytes (newarray.typeOf .boolean) = 1 := rfl
    rw [e]; omega
  have hac := g.words (.arrayClass .boolean) (pw_gw 1370 (by decide +kernel) (by decide +kernel))
  have hRA := (g.K.2 2 (B.2.2 3, .boolean) rfl).2
  refine va_newaK (atype := .boolean) (rest := S.map (pw_tr B)) g.exec g.bytes hac rfl dg rfl hn hN hby (by omega) (by omega) hsz (fun H' cA e1 z1 o1 hAr hNm => ?_)
  have hRA : E.2.2.2.2.1.vm.findClass ("[" ++ (newarray.typeOf .boolean).toString) = some (B.2.2 3) := hRA
  rw [hRA] at hNm
  have hcA : B.2.2 3 = cA := Option.some.inj hNm
  subst hcA
  have ho : ∀ x, x < H.size → H'[x]? = H[x]? := fun x hx => o1 x (by omega)
  refine k H' locs ls (cells + 1) (slots + N) (by omega) (by omega) (pw_push h3 ho ?_ (fun p' h => by simp [pw_zI, h]) (fun p' h => rfl)) (by rw [List.length_append]; simp only [List.length_cons, List.length_nil]; omega) (pw_S_push h5 (by omega) ho) h6
  have e3 : pw_cell B (pw_zI I sh.length) R sh.length (3, N) = .inl (B.2.2 3, N, .inl (fun _ => 0)) := by
    unfold pw_cell
    rw [if_neg (show ¬ (3 : Nat) = 0 by decide), if_pos (show (3 : Nat) < 10 by decide)]
    simp [pw_zI]
  rw [e3]
  exact e1
theorem PW.newo (g : pw_G y d0 mc ms E B) {ci idx N : Nat} {C : String} {T : u_T} {ty0 : Nat → FieldType} (q : Nat) (hc : pw_ck ci C T N ty0) (hdv : ∀ k, k < N → defaultValue (ty0 k) = if pw_isR ci k = true then .null else .int 0) (hcl : Cond.classLink y.1.cls idx C ∈ pw_GW) (hin : Cond.instantiable C N ∈ pw_GW) (hini : Cond.initialized C ∈ pw_GW) (hq : sh.length = q) (dg : decode y.2.1 pc = .ok (.new idx, 3)) (k : PW E B nL mc ms nc ns (pc + 3) L (.ref q :: S) (pw_zI I q) (pw_zR R q) (sh ++ [(0, ci)])) : PW E B nL mc ms (1 + nc) (N + ns) pc L S I R sh := by
  subst hq
  intro H locs ls cells slots h1 h2 h3 h4 h5 h6
  refine pw_sz (fun hz => ?_)
  have hsz := pw_size g h3 h4 h5 hz
  have hce := g.cells
  have hsl := g.slots
  have hKn := g.K.1 ci _ hc.1
  refine W.newcK g.exec g.bytes g.own (g.words _ hcl) (g.words _ hin) (g.words _ hini) rfl dg (by omega) (by omega) hKn.2.1 hsz (fun H' kC hkC e1 z1 o1 => ?_)
  have ho : ∀ x, x < H.size → H'[x]? = H[x]? := fun x hx => o1 x (by omega)
  refine k H' locs ls (cells + 1) (slots + N) (by omega) (by omega) (pw_push h3 ho ?_ (fun p' h => by simp [pw_zI, h]) (fun p' h => by simp [pw_zR, h])) (by rw [List.length_append]; simp only [List.length_cons, List.length_nil]; omega) (pw_S_push h5 (by omega) ho) h6
  rw [pw_cell_o]
  refine ⟨_, hc.1, (u_born ty0 g.words hc.2.1 hKn hkC e1 hc.2.2.1).to (fun j hj => ?_)⟩
  rw [hdv j hj]
  unfold vp_V
  rw [List.getD_eq_getElem?_getD, pw_fs_at (by rw [pw_n_of hc]; exact hj)]
  simp only [pw_fld, pw_zI, pw_zR, if_true, Option.map_none, Option.getD_some]
  split <;> rfl
theorem pw_new_at {H1 : Heap} {q : Nat} {e : va_E} (h1 : va_P B.2.1 vwCl (pw_ws B I R sh ++ [(q, e)]) H1) (h2 : va_D (fun q => B.1 ≤ q) (pw_ws B I R sh ++ [(q, e)])) (hz : H1.size ≤ B.1 + sh.length + 1) : q = B.1 + sh.length := by
  have hlen : (pw_ws B I R sh).length = sh.length := by simp [pw_ws]
  have hl : (pw_ws B I R sh ++ [(q, e)])[sh.length]? = some (q, e) := by
    rw [List.getElem?_append_right (by omega), hlen]; simp
  have a1 : q < H1.size := (h1 _ _ hl).lt
  have a2 : B.1 ≤ q := h2.2 _ _ hl
  rcases Nat.lt_or_ge (q - B.1) sh.length with h | h
  · have hk : (pw_ws B I R sh ++ [(q, e)])[q - B.1]? = some (B.1 + (q - B.1), pw_cell B I R (q - B.1) sh[q - B.1]) := by
      rw [List.getElem?_append_left (by omega)]
      exact pw_ws_at (List.getElem?_eq_getElem h)
    have := h2.1 _ _ _ _ hk hl (by simp only; omega)
    omega
  · omega
theorem PW.newr (g : pw_G y d0 mc ms E B) {n : Int32} {idx : Nat} (N q : Nat) (hcl : Cond.classLink y.1.cls idx "SpecRunner$Outcome" ∈ pw_GW) (hov : va_AO "SpecRunner$Outcome" E.2.2.2.2.1) (hq : sh.length = q) (hn : ¬ n < 0) (hN : n.toNatClampNeg = N) (hb : N ≤ 100000) (dg : decode y.2.1 pc = .ok (.anewarray idx, 3)) (k : PW E B nL mc ms nc ns (pc + 3) L (.ref q :: S) I (pw_zR R q) (sh ++ [(10, N)])) : PW E B nL mc ms (1 + nc) (N + ns) pc L (.int n :: S) I R sh := by
  subst hq
  intro H locs ls cells slots h1 h2 h3 h4 h5 h6
  refine pw_sz (fun hz => ?_)
  have hsz := pw_size g h3 h4 h5 hz
  have hce := g.cells
  have hsl := g.slots
  have hlow := g.low
  refine va_newq g.exec g.bytes g.own (g.words _ hcl) hov g.K h3 (pw_ws_D B I R sh) h5 (fun q hq => by omega) hn hN (by omega) (by omega) (by omega) dg (fun q cA H1 a1 a2 a3 a4 => ?_)
  refine pw_sz (fun hz1 => ?_)
  have hqe := pw_new_at a2 a3 (by omega)
  subst hqe
  have hcA : cA = B.2.2 10 := by
    have b1 := (a1.2 4 _ rfl).2
    have b2 := (g.K.2 3 _ rfl).2
    obtain ⟨_, _, _, _, _, c1⟩ := b1
    obtain ⟨_, _, _, _, _, c2⟩ := b2
    exact Option.some.inj (c1.symm.trans c2)
  subst hcA
  refine k H1 locs ls (cells + 1) (slots + N) (by omega) (by omega) ?_ (by rw [List.length_append]; simp only [List.length_cons, List.length_nil]; omega) a4 h6
  have e3 : pw_ws B I (pw_zR R sh.length) (sh ++ [(10, N)]) = pw_ws B I R sh ++ [(B.1 + sh.length, .inl (B.2.2 10, N, .inr (.inr (.inr (.inr (fun _ => none))))))] := by
    apply List.ext_getElem?
    intro j
    have hlen : (pw_ws B I R sh).length = sh.length := by simp [pw_ws]
    by_cases hj : j < sh.length
    · rw [List.getElem?_append_left (by omega), pw_ws_at (q := sh[j]) (by rw [List.getElem?_append_left hj]; exact List.getElem?_eq_getElem hj), pw_ws_at (List.getElem?_eq_getElem hj), pw_cell_congr (I := I) (R := R) rfl (by simp [pw_zR, Nat.ne_of_lt hj])]
    · by_cases hj2 : j = sh.length
      · subst hj2
        rw [pw_ws_at (q := (10, N)) (by simp), List.getElem?_append_right (by omega), hlen]
        simp [pw_cell, pw_zR]
      · rw [List.getElem?_eq_none (by simp [pw_ws]; omega), List.getElem?_eq_none (by simp [pw_ws]; omega)]
  rw [e3]
  exact a2
theorem PW.aast (g : pw_G y d0 mc ms E B) {p n v : Nat} {i : Int32} (hs : sh[p]? = some (10, n)) (hv : sh[v]? = some (0, 6)) (hi : vp_in i n) (dg : decode y.2.1 pc = .ok (.aastore, 1)) (k : PW E B nL mc ms nc ns (pc + 1) L S I (pw_wR R p i.toNatClampNeg (some v)) sh) : PW E B nL mc ms nc ns pc L (.ref v :: .int i :: .ref p :: S) I R sh := by
  intro H locs ls cells slots h1 h2 h3 h4 h5 h6
  refine va_astq g.exec g.bytes g.K h3 (pw_ws_D B I R sh) h5 p 3 v 6 (r := (n_oc, T_oc, 6)) (pw_at_r (by decide) hs) rfl (pw_at_o hv) rfl hi dg (fun H1 locs1 a1 _ a3 => k H1 locs1 ls cells slots h1 h2 ?_ h4 a3 h6)
  have e2 := pw_ws_set (B := B) (I := I) (I' := I) (R := R) (R' := pw_wR R p i.toNatClampNeg (some v)) hs (fun p' h => rfl) (fun p' h => pw_wR_ne h)
  have e3 : pw_cell B I (pw_wR R p i.toNatClampNeg (some v)) p (10, n) = .inl (B.2.2 10, n, .inr (.inr (.inr (.inr (va_up (fun k => (R p k).map (B.1 + ·)) i.toNatClampNeg (some (B.1 + v))))))) := by
    unfold pw_cell
    rw [if_neg (show ¬ (10 : Nat) = 0 by decide), if_neg (show ¬ (10 : Nat) < 10 by decide), pw_wR_eq]
    have ef : (fun k => (va_up (R p) i.toNatClampNeg (some v) k).map (B.1 + ·)) = va_up (fun k => (R p k).map (B.1 + ·)) i.toNatClampNeg (some (B.1 + v)) := by
      funext j
      by_cases h : j = i.toNatClampNeg
      · subst h; simp [va_up]
      · simp [va_up, h]
    rw [ef]
  rw [e3] at e2
  rw [e2] at a1
  exact a1
theorem PW.aald0 (g : pw_G y d0 mc ms E B) {p n q : Nat} {i : Int32} (hs : sh[p]? = some (10, n)) (hi : vp_in i n) (hq : R p i.toNatClampNeg = some q) (dg : decode y.2.1 pc = .ok (.aaload, 1)) (kk : PW E B nL mc ms nc ns (pc + 1) L (.ref q :: S) I R sh) : PW E B nL mc ms nc ns pc L (.int i :: .ref p :: S) I R sh := by
  intro H locs ls cells slots h1 h2 h3 h4 h5 h6
  refine va_aldq g.exec g.bytes g.K h3 p 3 (pw_at_r (by decide) hs) rfl hi dg ?_
  have e : va_rf ((R p i.toNatClampNeg).map (B.1 + ·)) = pw_tr B (.ref q) := by rw [hq]; rfl
  show W _ _ _ _ _ _ _ _ _ _ _ _ _ _ _ (F0 _ _ _ (va_rf ((R p i.toNatClampNeg).map (B.1 + ·)) :: _))
  rw [e]
  exact kk H locs ls cells slots h1 h2 h3 h4 h5 h6
theorem PW.objInit (g : pw_G y d0 mc ms E B) {idx p : Nat} (hl : Cond.methodLink y.1.cls idx Lib.objectInit ∈ pw_GW) (hd : 1 ≤ d0) (hnl : y.2.2.1 = nL) (hcat : (S.map fun v => v.category).sum ≤ 8) (dg : decode y.2.1 pc = .ok (.invokespecial idx, 3)) (k : PW E B nL mc ms nc ns (pc + 3) L S I R sh) : PW E B nL mc ms nc ns pc L (.ref p :: S) I R sh := by
  intro H locs ls cells slots h1 h2 h3 h4 h5 h6
  have hfr := g.frames
  have hlo := g.locals
  have hcat2 : ((S.map (pw_tr B)).map fun v => v.category).sum ≤ 8 := by
    rw [List.map_map]
    have : ((fun v : Value => v.category) ∘ pw_tr B) = fun v => v.category := by funext v; exact pw_tr_cat _ v
    rw [this]; exact hcat
  have hcat3 := lv_room (m := E.2.2.2.2.2.1) (pc := pc) (ls := ls) (rest := (Value.ref p :: S).map (pw_tr B)) hcat2
  exact W.objInit g.exec g.bytes g.own (g.words _ hl) (g.words _ (pw_gw 126 (by decide +kernel) (by decide +kernel))) (g.words _ (pw_gw 127 (by decide +kernel) (by decide +kernel))) rfl (h6.1.trans (hnl.symm.trans g.maxl.symm)) rfl dg (by omega) (by omega) (k H locs ls cells slots h1 h2 h3 h4 h5 h6)
end PWN
