def pSH : pS := [(0, 0), (2, 120), (0, 1), (1, 26), (1, 26), (10, 6), (0, 6), (1, 26), (1, 2), (0, 3), (2, 120), (1, 120), (1, 120), (1, 120), (0, 6), (1, 26), (1, 2), (0, 3), (2, 120), (1, 120), (1, 120), (1, 120), (0, 6), (1, 26), (1, 2), (0, 3), (2, 120), (1, 120), (1, 120), (1, 120), (0, 6), (1, 26), (1, 2), (0, 3), (2, 120), (1, 120), (1, 120), (1, 120), (0, 6), (1, 26), (1, 2), (0, 3), (2, 120), (1, 120), (1, 120), (1, 120), (0, 6), (1, 26), (1, 2), (0, 3), (2, 120), (1, 120), (1, 120), (1, 120), (0, 5), (2, 120), (0, 2), (1, 120), (1, 120), (1, 120), (1, 120), (0, 10), (1, 61), (1, 61), (1, 61), (1, 61), (1, 61), (1, 61), (0, 8), (1, 22), (1, 22), (1, 22), (1, 22), (1, 22), (1, 22), (1, 22), (1, 61), (1, 42), (1, 61), (1, 61), (1, 61), (0, 5), (2, 120), (0, 2), (1, 120), (1, 120), (1, 120), (1, 120), (0, 10), (1, 61), (1, 61), (1, 61), (1, 61), (1, 61), (1, 61), (0, 8), (1, 22), (1, 22), (1, 22), (1, 22), (1, 22), (1, 22), (1, 22), (1, 61), (1, 42), (1, 61), (1, 61), (1, 61), (0, 7), (0, 11), (1, 120), (1, 120), (1, 120), (1, 120), (0, 9), (0, 4), (1, 120), (1, 120), (1, 120), (1, 120), (1, 22), (0, 12), (1, 120), (1, 128), (1, 128), (1, 128), (1, 128), (1, 240), (1, 800), (1, 800), (1, 800), (1, 200), (1, 200), (1, 200), (1, 200), (1, 200), (1, 200), (1, 200), (1, 200), (1, 200), (1, 200), (1, 200), (1, 200), (1, 200), (1, 200), (1, 200), (1, 240), (1, 2), (1, 2), (1, 2), (1, 64), (1, 64), (1, 64), (1, 170), (1, 170), (1, 170), (1, 170), (1, 80), (1, 64), (1, 800), (1, 200), (1, 200), (1, 120), (1, 6), (1, 6), (3, 6), (1, 156), (1, 12), (1, 6), (1, 720), (1, 720), (1, 6), (1, 6), (1, 120), (1, 130)]
def pw_offs : Nat → List Nat := fun ci => match ci with
  | 0 => [1, 2, 5, 108, 114, 0, 0, 0, 0, 0, 0]
  | 1 => [1, 2, 0, 0]
  | 2 => [1, 2, 3, 4, 0]
  | 3 => [1, 2, 3, 4, 0, 0, 0]
  | 4 => [1, 2, 3, 4, 5, 0, 0, 0, 0, 0, 0, 0, 0]
  | 5 => [1, 2, 7, 14, 23, 24, 25, 26, 0, 0, 0]
  | 6 => [1, 2, 3, 0, 0, 0]
  | 7 => [1, 0, 0, 0, 0]
  | 8 => [1, 2, 3, 4, 5, 6, 7, 8, 0, 0]
  | 9 => [1, 0, 0]
  | 10 => [1, 2, 3, 4, 5, 6, 0]
  | 11 => [1, 2, 3, 4, 0, 0]
  | _ => [0, 1, 0, 2, 3, 4, 5, 0, 0, 0, 0, 6, 7, 8, 9, 0, 10, 11, 12, 13, 14, 15, 16, 17, 18, 19, 20, 21, 22, 23, 24, 25, 0, 0, 0, 0, 26, 27, 28, 0, 29, 30, 31, 0, 0, 0, 0, 0, 32, 33, 34, 35, 0, 36, 0, 0, 0, 37, 0, 0, 0, 0, 0, 0, 38, 0, 39, 40, 0, 0, 41, 42, 43, 44, 45, 46, 47, 48, 49, 50, 51, 52, 53]
def pw_sfs : Nat → List (Nat × Nat) := fun ci => match ci with
  | 0 => [(2, 120), (0, 1), (10, 6), (0, 7), (0, 9), (0, 0), (0, 0), (0, 0), (0, 0), (0, 0), (0, 0)]
  | 1 => [(1, 26), (1, 26), (0, 0), (0, 0)]
  | 2 => [(1, 120), (1, 120), (1, 120), (1, 120), (0, 0)]
  | 3 => [(2, 120), (1, 120), (1, 120), (1, 120), (0, 0), (0, 0), (0, 0)]
  | 4 => [(1, 120), (1, 120), (1, 120), (1, 120), (1, 22), (0, 0), (0, 0), (0, 0), (0, 0), (0, 0), (0, 0), (0, 0), (0, 0)]
  | 5 => [(2, 120), (0, 2), (0, 10), (0, 8), (1, 42), (1, 61), (1, 61), (1, 61), (0, 0), (0, 0), (0, 0)]
  | 6 => [(1, 26), (1, 2), (0, 3), (0, 0), (0, 0), (0, 0)]
  | 7 => [(0, 11), (0, 0), (0, 0), (0, 0), (0, 0)]
  | 8 => [(1, 22), (1, 22), (1, 22), (1, 22), (1, 22), (1, 22), (1, 22), (1, 61), (0, 0), (0, 0)]
  | 9 => [(0, 4), (0, 0), (0, 0)]
  | 10 => [(1, 61), (1, 61), (1, 61), (1, 61), (1, 61), (1, 61), (0, 0)]
  | 11 => [(1, 120), (1, 120), (1, 120), (1, 120), (0, 0), (0, 0)]
  | _ => [(0, 0), (1, 120), (0, 0), (1, 128), (1, 128), (1, 128), (1, 128), (0, 0), (0, 0), (0, 0), (0, 0), (1, 240), (1, 800), (1, 800), (1, 800), (0, 0), (1, 200), (1, 200), (1, 200), (1, 200), (1, 200), (1, 200), (1, 200), (1, 200), (1, 200), (1, 200), (1, 200), (1, 200), (1, 200), (1, 200), (1, 200), (1, 240), (0, 0), (0, 0), (0, 0), (0, 0), (1, 2), (1, 2), (1, 2), (0, 0), (1, 64), (1, 64), (1, 64), (0, 0), (0, 0), (0, 0), (0, 0), (0, 0), (1, 170), (1, 170), (1, 170), (1, 170), (0, 0), (1, 80), (0, 0), (0, 0), (0, 0), (1, 64), (0, 0), (0, 0), (0, 0), (0, 0), (0, 0), (0, 0), (1, 800), (0, 0), (1, 200), (1, 200), (0, 0), (0, 0), (1, 120), (1, 6), (1, 6), (3, 6), (1, 156), (1, 12), (1, 6), (1, 720), (1, 720), (1, 6), (1, 6), (1, 120), (1, 130)]
def pw_off (ci k : Nat) : Nat := (pw_offs ci).getD k 0
def pw_sf (ci k : Nat) : Nat × Nat := (pw_sfs ci).getD k (0, 0)
/-- the references that are made once: field k of the object t leads to the cell t + pw_off -/
def pw_Lay (R : pR) : Prop := ∀ t ci k, pSH[t]? = some (0, ci) → pw_off ci k ≠ 0 → R t k = some (t + pw_off ci k)
theorem pw_shp_key : (List.range 200).all (fun t => match pSH[t]? with
  | some (0, ci) => (List.range 90).all (fun k => pw_off ci k == 0 || pSH[t + pw_off ci k]? == some (pw_sf ci k))
  | _ => true) = true := by decide +kernel
theorem pw_off_lt {ci k : Nat} (h : pw_off ci k ≠ 0) : k < 90 := by
  rcases Nat.lt_or_ge k 90 with q | q
  · exact q
  · refine absurd ?_ h
    unfold pw_off
    rw [List.getD_eq_getElem?_getD, List.getElem?_eq_none]
    · rfl
    · refine Nat.le_trans ?_ q
      unfold pw_offs
      split <;> decide
theorem pw_shp {t ci : Nat} (h : pSH[t]? = some (0, ci)) (k : Nat) (hk : pw_off ci k ≠ 0) : pSH[t + pw_off ci k]? = some (pw_sf ci k) := by
  have hl : t < 200 := Nat.lt_of_lt_of_le (List.getElem?_eq_some_iff.mp h).1 (by decide +kernel)
  have h1 := List.all_eq_true.mp pw_shp_key t (List.mem_range.mpr hl)
  rw [h] at h1
  have h2 := List.all_eq_true.mp h1 k (List.mem_range.mpr (pw_off_lt hk))
  simp only [Bool.or_eq_true, beq_iff_eq] at h2
  rcases h2 with h2 | h2
  · exact absurd h2 hk
  · exact h2
theorem pw_Lay.put {R : pR} {t ci k : Nat} {q : Option Nat} (hL : pw_Lay R) (ht : pSH[t]? = some (0, ci)) (hk : pw_off ci k = 0) : pw_Lay (pw_wR R t k q) := by
  intro t' ci' k' h' hk'
  by_cases e : t' = t
  · subst e
    cases ht.symm.trans h'
    rw [pw_wR_eq]
    have : k' ≠ k := fun e => hk' (by rw [e]; exact hk)
    simp [va_up, this]
    exact hL _ _ _ h' hk'
  · rw [pw_wR_ne e]
    exact hL _ _ _ h' hk'
abbrev PX (E : pE) (B : pB) (nL pc : Nat) (L : List (Option Value)) (S : List Value) (I : pI) (R : pR) : Prop := PW E B nL 0 0 0 0 pc L S I R pSH
abbrev PY (mc ms ns : Nat) (E : pE) (B : pB) (nL pc : Nat) (L : List (Option Value)) (S : List Value) (I : pI) (R : pR) : Prop := PW E B nL mc ms 0 ns pc L S I R pSH
abbrev pV : Type := Option Value → pI → pR → Prop
def pw_QQ (Q : pV) : pQ := fun r I R sh => sh = pSH ∧ pw_Lay R ∧ Q r I R
/-- the contract of a method that makes no cell -/
def Cm (d : Nat) (y : pM) (as : List Value) (I : pI) (R : pR) (Q : pV) : Prop := Ctr d 0 0 y as I R pSH (pw_QQ Q)
def pX (Q : pV) (E : pE) (B : pB) : Prop := pw_F (pw_QQ Q) pSH.length 0 0 E B
def qi (q : Int32 → pI → pR → Prop) : pV := fun r I R => ∃ v, r = some (.int v) ∧ q v I R
def qz (q : Int32 → pI → pR → Prop) : pV := fun r I R => ∃ v, (v = 0 ∨ v = 1) ∧ r = some (.int v) ∧ q v I R
def qv (q : pI → pR → Prop) : pV := fun r I R => r = none ∧ q I R
section PXS
variable {mc ms ns : Nat} {y y2 : pM} {d0 d2 : Nat} {E : pE} {B : pB} {nL pc : Nat} {L : List (Option Value)} {S : List Value} {I : pI} {R : pR}
theorem Cm.of {as : List Value} {Q : pV} (L0 : List (Option Value)) (hy : plainName y.1.cls = true) (hL : pw_in as ++ List.replicate (y.2.2.1 - (pw_in as).length) none = L0) (hn : (lg_sl as).length ≤ y.2.2.1) (has : ∀ v ∈ as, ∀ x, v ≠ .double x)
    (body : ∀ (E : pE) (B : pB), pw_G y d0 0 0 E B → pX Q E B → PX E B y.2.2.1 0 L0 [] I R) : Cm d0 y as I R Q := Ctr.of L0 hy hL hn has body
theorem PX.gI {J : pI} (k : ∀ I1, I1 = J → PY mc ms ns E B nL pc L S I1 R) : PY mc ms ns E B nL pc L S J R := k J rfl
theorem PX.gR {J : pR} (k : ∀ R1, R1 = J → PY mc ms ns E B nL pc L S I R1) : PY mc ms ns E B nL pc L S I J := k J rfl
/-- fewer locals are known -/
def pw_sub : List (Option Value) → List (Option Value) → Prop
  | [], [] => True
  | none :: a, _ :: b => pw_sub a b
  | some v :: a, some w :: b => v = w ∧ pw_sub a b
  | _, _ => False
theorem pw_sub_at : ∀ {L' L : List (Option Value)} {j : Nat} {v : Value}, pw_sub L' L → L'[j]? = some (some v) → L[j]? = some (some v)
  | [], [], j, v, _, h => by simp at h
  | none :: a, x :: b, 0, v, _, h => by simp at h
  | none :: a, x :: b, j + 1, v, hs, h => by
    rw [List.getElem?_cons_succ] at h ⊢
    exact pw_sub_at (show pw_sub a b from hs) h
  | some w :: a, some x :: b, 0, v, hs, h => by
    have hs : w = x ∧ pw_sub a b := hs
    rw [← hs.1]; exact h
  | some w :: a, some x :: b, j + 1, v, hs, h => by
    have hs : w = x ∧ pw_sub a b := hs
    rw [List.getElem?_cons_succ] at h ⊢
    exact pw_sub_at hs.2 h
  | some w :: a, none :: b, j, v, hs, h => False.elim hs
  | [], _ :: _, j, v, hs, h => False.elim hs
  | none :: _, [], j, v, hs, h => False.elim hs
  | some _ :: _, [], j, v, hs, h => False.elim hs
theorem PX.sub (L' : List (Option Value)) (hs : pw_sub L' L) (k : PY mc ms ns E B nL pc L' S I R) : PY mc ms ns E B nL pc L S I R := by
  intro H locs ls cells slots h1 h2 h3 h4 h5 h6
  refine k H locs ls cells slots h1 h2 h3 h4 h5 ⟨h6.1, h6.2.1, fun q hq => ?_⟩
  obtain ⟨j, v, a1, a2⟩ := pw_lv_mem.mp hq
  exact h6.2.2 q (pw_lv_mem.mpr ⟨j, v, pw_sub_at hs a1, a2⟩)
theorem pw_nb {v : Int32} (h : v = 0 ∨ v = 1) : narrow .boolean (.int v) = .int v := by rcases h with rfl | rfl <;> rfl
theorem pw_fb {v : Int32} (h : v = 0 ∨ v = 1) : fits .boolean (.int v) = true := by rcases h with rfl | rfl <;> rfl
theorem PX.iret {q : Int32 → pI → pR → Prop} {v : Int32} (g : pw_G y d0 0 0 E B) (hF : pX (qi q) E B) (hr : y.2.2.2 = some .int) (dg : decode y.2.1 pc = .ok (.ireturn, 1)) (hL : pw_Lay R) (hq : q v I R) : PX E B nL pc L [.int v] I R := PW.iret g hF hr dg ⟨rfl, hL, v, rfl, hq⟩
theorem PX.cret {q : Int32 → pI → pR → Prop} {v : Int32} (g : pw_G y d0 0 0 E B) (hF : pX (qi q) E B) (hr : y.2.2.2 = some .char) (hn : narrow .char (.int v) = .int v) (dg : decode y.2.1 pc = .ok (.ireturn, 1)) (hL : pw_Lay R) (hq : q v I R) : PX E B nL pc L [.int v] I R := PW.zret g hF hr hn dg ⟨rfl, hL, v, rfl, hq⟩
theorem PX.zret {q : Int32 → pI → pR → Prop} {v : Int32} (g : pw_G y d0 0 0 E B) (hF : pX (qz q) E B) (hr : y.2.2.2 = some .boolean) (hz : v = 0 ∨ v = 1) (dg : decode y.2.1 pc = .ok (.ireturn, 1)) (hL : pw_Lay R) (hq : q v I R) : PX E B nL pc L [.int v] I R := PW.zret g hF hr (pw_nb hz) dg ⟨rfl, hL, v, hz, rfl, hq⟩
theorem PX.vret {q : pI → pR → Prop} (g : pw_G y d0 0 0 E B) (hF : pX (qv q) E B) (hr : y.2.2.2 = none) (dg : decode y.2.1 pc = .ok (.return_, 1)) (hL : pw_Lay R) (hq : q I R) : PX E B nL pc L [] I R := PW.vret g hF hr dg ⟨rfl, hL, rfl, hq⟩
theorem PX.aald (g : pw_G y d0 mc ms E B) {p n q : Nat} {i : Int32} (hs : pSH[p]? = some (10, n)) (hi : vp_in i n) (hq : R p i.toNatClampNeg = some q) (dg : decode y.2.1 pc = .ok (.aaload, 1)) (kk : PY mc ms ns E B nL (pc + 1) L (.ref q :: S) I R) : PY mc ms ns E B nL pc L (.int i :: .ref p :: S) I R := by
  intro H locs ls cells slots h1 h2 h3 h4 h5 h6
  refine va_aldq g.exec g.bytes g.K h3 p 3 (pw_at_r (by decide) hs) rfl hi dg ?_
  have e : va_rf ((R p i.toNatClampNeg).map (B.1 + ·)) = pw_tr B (.ref q) := by rw [hq]; rfl
  show W _ _ _ _ _ _ _ _ _ _ _ _ _ _ _ (F0 _ _ _ (va_rf ((R p i.toNatClampNeg).map (B.1 + ·)) :: _))
  rw [e]
  exact kk H locs ls cells slots h1 h2 h3 h4 h5 h6
theorem PX.lshr (g : pw_G y d0 mc ms E B) {x v : Int64} {z : Int32} (hv : x >>> (z.toInt64 &&& 63) = v) (dg : decode y.2.1 pc = .ok (.lshr, 1)) (k : PY mc ms ns E B nL (pc + 1) L (.long v :: S) I R) : PY mc ms ns E B nL pc L (.int z :: .long x :: S) I R :=
  fun H locs ls cells slots h1 h2 h3 h4 h5 h6 => lv_lshr g.1 g.2.1 dg hv (k H locs ls cells slots h1 h2 h3 h4 h5 h6)
theorem PX.ldcw (g : pw_G y d0 mc ms E B) {n : Nat} (v : Int32) (hv : Cond.constant y.1.cls n v ∈ pw_GW) (dg : decode y.2.1 pc = .ok (.ldc_w n, 3)) (k : PY mc ms ns E B nL (pc + 3) L (.int v :: S) I R) : PY mc ms ns E B nL pc L S I R :=
  fun H locs ls cells slots h1 h2 h3 h4 h5 h6 => lv_ldcw g.1 g.2.1 g.own (g.words _ hv) dg (k H locs ls cells slots h1 h2 h3 h4 h5 h6)
theorem PX.mmax (g : pw_G y d0 mc ms E B) {n : Nat} {x z : Int32} (hk : Cond.methodLink y.1.cls n Lib.Math.max.name ∈ pw_GW) (hd : 1 ≤ d0) (hnl : y.2.2.1 = nL) (hcat : (S.map fun v => v.category).sum ≤ 8) (dg : decode y.2.1 pc = .ok (.invokestatic n, 3)) (k : PY mc ms ns E B nL (pc + 3) L (.int (if x < z then z else x) :: S) I R) : PY mc ms ns E B nL pc L (.int z :: .int x :: S) I R := by
  intro H locs ls cells slots h1 h2 h3 h4 h5 h6
  have hfr := g.frames
  have hlo := g.locals
  have hce := g.cells
  have hsl := g.slots
  have hcat2 : ((S.map (pw_tr B)).map fun v => v.category).sum ≤ 8 := by
    rw [List.map_map]
    have : ((fun v : Value => v.category) ∘ pw_tr B) = fun v => v.category := by funext v; exact pw_tr_cat _ v
    rw [this]; exact hcat
  exact va_mmax g.exec g.bytes (g.maxl.trans (hnl.trans h6.1.symm)) g.own (g.words _ hk) (g.words _ (pw_gw 599 (by decide +kernel) (by decide +kernel))) (g.words _ (pw_gw 115 (by decide +kernel) (by decide +kernel))) (g.words _ (pw_gw 600 (by decide +kernel) (by decide +kernel))) (by omega) (by omega) (by omega) (by omega) dg (k H locs ls cells slots h1 h2 h3 h4 h5 h6)
theorem PX.mmin (g : pw_G y d0 mc ms E B) {n : Nat} {x z : Int32} (hk : Cond.methodLink y.1.cls n Lib.Math.min.name ∈ pw_GW) (hd : 1 ≤ d0) (hnl : y.2.2.1 = nL) (hcat : (S.map fun v => v.category).sum ≤ 8) (dg : decode y.2.1 pc = .ok (.invokestatic n, 3)) (k : PY mc ms ns E B nL (pc + 3) L (.int (if z < x then z else x) :: S) I R) : PY mc ms ns E B nL pc L (.int z :: .int x :: S) I R := by
  intro H locs ls cells slots h1 h2 h3 h4 h5 h6
  have hfr := g.frames
  have hlo := g.locals
  have hce := g.cells
  have hsl := g.slots
  have hcat2 : ((S.map (pw_tr B)).map fun v => v.category).sum ≤ 8 := by
    rw [List.map_map]
    have : ((fun v : Value => v.category) ∘ pw_tr B) = fun v => v.category := by funext v; exact pw_tr_cat _ v
    rw [this]; exact hcat
  exact va_mmin g.exec g.bytes (g.maxl.trans (hnl.trans h6.1.symm)) g.own (g.words _ hk) (g.words _ (pw_gw 602 (by decide +kernel) (by decide +kernel))) (g.words _ (pw_gw 115 (by decide +kernel) (by decide +kernel))) (g.words _ (pw_gw 603 (by decide +kernel) (by decide +kernel))) (by omega) (by omega) (by omega) (by omega) dg (k H locs ls cells slots h1 h2 h3 h4 h5 h6)
theorem PX.mabs (g : pw_G y d0 mc ms E B) {n : Nat} {x : Int32} (hk : Cond.methodLink y.1.cls n Lib.Math.abs.name ∈ pw_GW) (hd : 1 ≤ d0) (hnl : y.2.2.1 = nL) (hcat : (S.map fun v => v.category).sum ≤ 8) (dg : decode y.2.1 pc = .ok (.invokestatic n, 3)) (k : PY mc ms ns E B nL (pc + 3) L (.int (if 0 ≤ x then x else 0 - x) :: S) I R) : PY mc ms ns E B nL pc L (.int x :: S) I R := by
  intro H locs ls cells slots h1 h2 h3 h4 h5 h6
  have hfr := g.frames
  have hlo := g.locals
  have hce := g.cells
  have hsl := g.slots
  have hcat2 : ((S.map (pw_tr B)).map fun v => v.category).sum ≤ 8 := by
    rw [List.map_map]
    have : ((fun v : Value => v.category) ∘ pw_tr B) = fun v => v.category := by funext v; exact pw_tr_cat _ v
    rw [this]; exact hcat
  exact va_mabs g.exec g.bytes (g.maxl.trans (hnl.trans h6.1.symm)) g.own (g.words _ hk) (g.words _ (pw_gw 1112 (by decide +kernel) (by decide +kernel))) (g.words _ (pw_gw 115 (by decide +kernel) (by decide +kernel))) (g.words _ (pw_gw 1113 (by decide +kernel) (by decide +kernel))) (by omega) (by omega) (by omega) (by omega) dg (k H locs ls cells slots h1 h2 h3 h4 h5 h6)
/-- System.arraycopy between two arrays of chars -/
def pw_cp (I : pI) (p0 p1 sp dp n : Nat) : pI := fun p' => if p' = p1 then va_cpy (I p0) (I p1) sp dp n else I p'
def pw_cpo (I : pI) (p0 n0 n1 : Nat) (sp dp n : Int32) : Prop := ¬ sp < 0 ∧ ¬ dp < 0 ∧ ¬ n < 0 ∧ sp.toNatClampNeg + n.toNatClampNeg ≤ n0 ∧ dp.toNatClampNeg + n.toNatClampNeg ≤ n1 ∧ ∀ i, i < n.toNatClampNeg → fits .char (.int (I p0 (sp.toNatClampNeg + i))) = true
theorem PX.acopy (g : pw_G y d0 mc ms E B) {idx p0 n0 p1 n1 : Nat} {sp dp n : Int32} (hk : Cond.methodLink y.1.cls idx arraycopyName ∈ pw_GW) (hd : 1 ≤ d0) (hnl : y.2.2.1 = nL) (hs0 : pSH[p0]? = some (2, n0)) (hs1 : pSH[p1]? = some (2, n1)) (hc : pw_cpo I p0 n0 n1 sp dp n) (hcat : (S.map fun v => v.category).sum ≤ 8) (dg : decode y.2.1 pc = .ok (.invokestatic idx, 3)) (k : PY mc ms ns E B nL (pc + 3) L S (pw_cp I p0 p1 sp.toNatClampNeg dp.toNatClampNeg n.toNatClampNeg) R) : PY mc ms ns E B nL pc L (.int n :: .int dp :: .ref p1 :: .int sp :: .ref p0 :: S) I R := by
  intro H locs ls cells slots h1 h2 h3 h4 h5 h6
  have hfr := g.frames
  have hlo := g.locals
  have hcat2 : ((S.map (pw_tr B)).map fun v => v.category).sum ≤ 8 := by
    rw [List.map_map]
    have : ((fun v : Value => v.category) ∘ pw_tr B) = fun v => v.category := by funext v; exact pw_tr_cat _ v
    rw [this]; exact hcat
  have hnw : nativeFrameWords "java/lang/System" "arraycopy" 5 ≤ 60 := by decide
  obtain ⟨c1, c2, c3, c4, c5, c6⟩ := hc
  refine va_copyi g.exec g.bytes (g.maxl.trans (hnl.trans h6.1.symm)) g.own (g.words _ hk) (g.words _ (pw_gw 677 (by decide +kernel) (by decide +kernel))) (g.words _ (pw_gw 676 (by decide +kernel) (by decide +kernel))) (g.words _ (pw_gw 119 (by decide +kernel) (by decide +kernel))) g.K h3 (pw_ws_D B I R pSH) h5 p0 p1 1 1 (pw_at_i (by decide) (by decide) hs0) (pw_at_i (by decide) (by decide) hs1) rfl rfl rfl c1 c2 c3 c4 c5 c6 (by omega) (by omega) dg (fun H1 locs1 a1 _ a3 => k H1 locs1 ls cells slots h1 h2 ?_ h4 a3 h6)
  have e2 := pw_ws_set (B := B) (I := I) (I' := pw_cp I p0 p1 sp.toNatClampNeg dp.toNatClampNeg n.toNatClampNeg) (R := R) (R' := R) hs1 (fun p' h => by simp [pw_cp, h]) (fun p' h => rfl)
  have e3 : pw_cell B (pw_cp I p0 p1 sp.toNatClampNeg dp.toNatClampNeg n.toNatClampNeg) R p1 (2, n1) = .inl (B.2.2 2, n1, .inl (va_cpy (I p0) (I p1) sp.toNatClampNeg dp.toNatClampNeg n.toNatClampNeg)) := by
    unfold pw_cell
    rw [if_neg (show ¬ (2 : Nat) = 0 by decide), if_pos (show (2 : Nat) < 10 by decide)]
    simp [pw_cp]
  rw [e3] at e2
  rw [e2] at a1
  exact a1
theorem PX.cSi {q : Int32 → pI → pR → Prop} {idx : Nat} (as S : List Value) {S0 : List Value} (g : pw_G y d0 mc ms E B) (hM : Cm d2 y2 as I R (qi q)) (hw : pw_cl y.1.cls idx 0 y2 as.length) (hd : d2 + 1 ≤ d0) (hm : y2.2.2.1 ≤ 60) (hnl : y.2.2.1 = nL) (hst : S0 = as.reverse ++ S) (hcat : (S.map fun v => v.category).sum ≤ 8) (dg : decode y.2.1 pc = .ok (.invokestatic idx, 3))
    (kk : ∀ v I1 R1, pw_Lay R1 → q v I1 R1 → PY mc ms ns E B nL (pc + 3) L (.int v :: S) I1 R1) : PY mc ms ns E B nL pc L S0 I R :=
  Eq.mp (show PW E B nL mc ms (0 + 0) (0 + ns) pc L S0 I R pSH = PW E B nL mc ms 0 ns pc L S0 I R pSH by simp only [Nat.zero_add]) (PW.callS (mc2 := 0) (ms2 := 0) (nc := 0) (ns := ns) as S g hM hw hd hm hnl hst hcat dg (fun r I1 R1 sh1 h => by obtain ⟨hs, hL, v, hv, hq⟩ := h; subst hs; subst hv; exact kk v I1 R1 hL hq))
theorem PX.cSz {q : Int32 → pI → pR → Prop} {idx : Nat} (as S : List Value) {S0 : List Value} (g : pw_G y d0 mc ms E B) (hM : Cm d2 y2 as I R (qz q)) (hw : pw_cl y.1.cls idx 0 y2 as.length) (hd : d2 + 1 ≤ d0) (hm : y2.2.2.1 ≤ 60) (hnl : y.2.2.1 = nL) (hst : S0 = as.reverse ++ S) (hcat : (S.map fun v => v.category).sum ≤ 8) (dg : decode y.2.1 pc = .ok (.invokestatic idx, 3))
    (kk : ∀ v I1 R1, pw_Lay R1 → (v = 0 ∨ v = 1) → q v I1 R1 → PY mc ms ns E B nL (pc + 3) L (.int v :: S) I1 R1) : PY mc ms ns E B nL pc L S0 I R :=
  Eq.mp (show PW E B nL mc ms (0 + 0) (0 + ns) pc L S0 I R pSH = PW E B nL mc ms 0 ns pc L S0 I R pSH by simp only [Nat.zero_add]) (PW.callS (mc2 := 0) (ms2 := 0) (nc := 0) (ns := ns) as S g hM hw hd hm hnl hst hcat dg (fun r I1 R1 sh1 h => by obtain ⟨hs, hL, v, hz, hv, hq⟩ := h; subst hs; subst hv; exact kk v I1 R1 hL hz hq))
theorem PX.cSv {q : pI → pR → Prop} {idx : Nat} (as S : List Value) {S0 : List Value} (g : pw_G y d0 mc ms E B) (hM : Cm d2 y2 as I R (qv q)) (hw : pw_cl y.1.cls idx 0 y2 as.length) (hd : d2 + 1 ≤ d0) (hm : y2.2.2.1 ≤ 60) (hnl : y.2.2.1 = nL) (hst : S0 = as.reverse ++ S) (hcat : (S.map fun v => v.category).sum ≤ 8) (dg : decode y.2.1 pc = .ok (.invokestatic idx, 3))
    (kk : ∀ I1 R1, pw_Lay R1 → q I1 R1 → PY mc ms ns E B nL (pc + 3) L S I1 R1) : PY mc ms ns E B nL pc L S0 I R :=
  Eq.mp (show PW E B nL mc ms (0 + 0) (0 + ns) pc L S0 I R pSH = PW E B nL mc ms 0 ns pc L S0 I R pSH by simp only [Nat.zero_add]) (PW.callS (mc2 := 0) (ms2 := 0) (nc := 0) (ns := ns) as S g hM hw hd hm hnl hst hcat dg (fun r I1 R1 sh1 h => by obtain ⟨hs, hL, hv, hq⟩ := h; subst hs; subst hv; exact kk I1 R1 hL hq))
theorem PX.cVi {q : Int32 → pI → pR → Prop} {idx : Nat} (as S : List Value) {S0 : List Value} (g : pw_G y d0 mc ms E B) {b ci N : Nat} {T : u_T} {ty : Nat → FieldType} (hb : pSH[b]? = some (0, ci)) (hck : pw_ck ci y2.1.cls T N ty) (hM : Cm d2 y2 (.ref b :: as) I R (qi q)) (hw : pw_cl y.1.cls idx 1 y2 as.length) (hd : d2 + 1 ≤ d0) (hm : y2.2.2.1 ≤ 60) (hnl : y.2.2.1 = nL) (hst : S0 = as.reverse ++ .ref b :: S) (hcat : (S.map fun v => v.category).sum ≤ 8) (dg : decode y.2.1 pc = .ok (.invokevirtual idx, 3))
    (kk : ∀ v I1 R1, pw_Lay R1 → q v I1 R1 → PY mc ms ns E B nL (pc + 3) L (.int v :: S) I1 R1) : PY mc ms ns E B nL pc L S0 I R :=
  Eq.mp (show PW E B nL mc ms (0 + 0) (0 + ns) pc L S0 I R pSH = PW E B nL mc ms 0 ns pc L S0 I R pSH by simp only [Nat.zero_add]) (PW.callV (mc2 := 0) (ms2 := 0) (nc := 0) (ns := ns) as S g hM hw hb hck hd hm hnl hst hcat dg (fun r I1 R1 sh1 h => by obtain ⟨hs, hL, v, hv, hq⟩ := h; subst hs; subst hv; exact kk v I1 R1 hL hq))
theorem PX.cVz {q : Int32 → pI → pR → Prop} {idx : Nat} (as S : List Value) {S0 : List Value} (g : pw_G y d0 mc ms E B) {b ci N : Nat} {T : u_T} {ty : Nat → FieldType} (hb : pSH[b]? = some (0, ci)) (hck : pw_ck ci y2.1.cls T N ty) (hM : Cm d2 y2 (.ref b :: as) I R (qz q)) (hw : pw_cl y.1.cls idx 1 y2 as.length) (hd : d2 + 1 ≤ d0) (hm : y2.2.2.1 ≤ 60) (hnl : y.2.2.1 = nL) (hst : S0 = as.reverse ++ .ref b :: S) (hcat : (S.map fun v => v.category).sum ≤ 8) (dg : decode y.2.1 pc = .ok (.invokevirtual idx, 3))
    (kk : ∀ v I1 R1, pw_Lay R1 → (v = 0 ∨ v = 1) → q v I1 R1 → PY mc ms ns E B nL (pc + 3) L (.int v :: S) I1 R1) : PY mc ms ns E B nL pc L S0 I R :=
  Eq.mp (show PW E B nL mc ms (0 + 0) (0 + ns) pc L S0 I R pSH = PW E B nL mc ms 0 ns pc L S0 I R pSH by simp only [Nat.zero_add]) (PW.callV (mc2 := 0) (ms2 := 0) (nc := 0) (ns := ns) as S g hM hw hb hck hd hm hnl hst hcat dg (fun r I1 R1 sh1 h => by obtain ⟨hs, hL, v, hz, hv, hq⟩ := h; subst hs; subst hv; exact kk v I1 R1 hL hz hq))
theorem PX.cVv {q : pI → pR → Prop} {idx : Nat} (as S : List Value) {S0 : List Value} (g : pw_G y d0 mc ms E B) {b ci N : Nat} {T : u_T} {ty : Nat → FieldType} (hb : pSH[b]? = some (0, ci)) (hck : pw_ck ci y2.1.cls T N ty) (hM : Cm d2 y2 (.ref b :: as) I R (qv q)) (hw : pw_cl y.1.cls idx 1 y2 as.length) (hd : d2 + 1 ≤ d0) (hm : y2.2.2.1 ≤ 60) (hnl : y.2.2.1 = nL) (hst : S0 = as.reverse ++ .ref b :: S) (hcat : (S.map fun v => v.category).sum ≤ 8) (dg : decode y.2.1 pc = .ok (.invokevirtual idx, 3))
    (kk : ∀ I1 R1, pw_Lay R1 → q I1 R1 → PY mc ms ns E B nL (pc + 3) L S I1 R1) : PY mc ms ns E B nL pc L S0 I R :=
  Eq.mp (show PW E B nL mc ms (0 + 0) (0 + ns) pc L S0 I R pSH = PW E B nL mc ms 0 ns pc L S0 I R pSH by simp only [Nat.zero_add]) (PW.callV (mc2 := 0) (ms2 := 0) (nc := 0) (ns := ns) as S g hM hw hb hck hd hm hnl hst hcat dg (fun r I1 R1 sh1 h => by obtain ⟨hs, hL, hv, hq⟩ := h; subst hs; subst hv; exact kk I1 R1 hL hq))
end PXS
