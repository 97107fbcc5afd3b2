/-! THE CLASS'S STAND-INS -/
theorem xg_rsix {its : List xi_I} {j : Nat} {it : xi_I} (hj : its[j]? = some it) (h7 : xi_k it = 7) : (xi_rs its)[xi_nr (its.take j)]? = some (xi_ru it) := by
  have hlt := xa_some_lt hj
  have e1 : its = its.take j ++ (it :: its.drop (j + 1)) := by
    have := (List.take_append_drop j its).symm
    rw [List.drop_eq_getElem_cons hlt] at this
    have e2 : its[j] = it := by
      rw [List.getElem?_eq_getElem hlt] at hj; exact Option.some.inj hj
    rw [e2] at this; exact this
  have e3 : xi_rs its = xi_rs (its.take j) ++ (xi_ru it :: xi_rs (its.drop (j + 1))) := by
    conv => lhs; rw [e1]
    simp [xi_rs, h7]
  rw [e3, ← xi_rs_len, List.getElem?_append_right (Nat.le_refl _)]; simp
def xg_RW (ru : xi_R) : Prop := xi_le ru < 20000 ∧ (∀ k, xi_mo ru = some k → k < 20000) ∧ xi_wh ru ≤ 1 ∧ xi_ft ru ≤ 2 ∧ xi_fg ru < 20000
theorem xv_isFor {I : pI} {R : pR} {q r m : Nat} {v : Int32} {ru : xi_R} {rs : List xi_R} {Q : Int32 → pI → pR → Prop} (rm : xi_RM I q rs) (hr : rs[r]? = some ru) (hl : rs.length ≤ 20) (hm : m ≤ 1) (rw_ : xg_RW ru) (h : Q (if xg_meets ru m v then 1 else 0) I R) : w_rl_isFor (q + 14) (nI r) (nI m) v I R Q := by
  obtain ⟨w1, w2, w3, w4, w5⟩ := rw_
  have hlt := xa_some_lt hr
  obtain ⟨e1, e2, e3, e4, e5, e6, e7⟩ := rm.2.2.1 r ru hr
  have hin : vp_in (nI r) 22 := vp_in_nI (by omega) (by omega)
  unfold w_rl_isFor
  rw [rm.1]
  refine xa_f (nI_pos (by omega)) (xa_f (fun hh => by have := (nI_leI (by omega) (by omega)).mp hh; omega) (xa_f (fun hh => by have := (xa_lle 22 (by omega) (by omega)).mp hh; omega) ⟨hin, ?_⟩))
  rw [nI_clamp (by omega), show q + 14 + 3 = q + 17 from rfl, e3, show q + 14 + 4 = q + 18 from rfl, e4]
  unfold xg_meets at h
  by_cases hw : xi_wh ru = m
  · refine xa_t (by rw [hw]) ⟨hin, ?_⟩
    by_cases hf : xi_ft ru = 0
    · refine xa_t (xa_e 0 hf) ?_
      simpa [hw, hf] using h
    · refine xa_f (xa_ne 0 (by omega)) ⟨hin, ?_⟩
      by_cases h1 : xi_ft ru = 1
      · refine xa_t' (xa_e 1 h1) ⟨hin, ?_⟩
        rw [nI_clamp (by omega), show q + 14 + 5 = q + 19 from rfl, e5]
        by_cases hv : v = nI (xi_fg ru)
        · exact xa_t' hv.symm (xa_t' rfl (by simpa [hw, h1, hv] using h))
        · exact xa_f' (fun e => hv e.symm) (xa_f' (by decide) (by simpa [hw, h1, hv] using h))
      · refine xa_f' (xa_ne 1 (by omega)) ⟨hin, ?_⟩
        rw [nI_clamp (by omega), show q + 14 + 5 = q + 19 from rfl, e5]
        by_cases hv : v = nI (xi_fg ru)
        · exact xa_t' hv.symm (xa_f' (by decide) (by simpa [hw, hf, h1, hv] using h))
        · exact xa_f' (fun e => hv e.symm) (xa_t' rfl (by simpa [hw, hf, h1, hv] using h))
  · refine xa_f (fun e => hw ((nI_eq (by omega) (by omega)).mp e)) ?_
    simpa [hw] using h
theorem xg_fl {rs : List xi_R} {r i : Nat} {ru : xi_R} (hr : rs[r]? = some ru) : ((rs.take (r + 1)).flatMap xi_an).length = ((rs.take r).flatMap xi_an).length + (xi_an ru).length ∧ (i < (xi_an ru).length → (rs.flatMap xi_an)[((rs.take r).flatMap xi_an).length + i]? = (xi_an ru)[i]?) ∧ ((rs.take (r + 1)).flatMap xi_an).length ≤ (rs.flatMap xi_an).length := by
  have hlt := xa_some_lt hr
  have e : rs.take (r + 1) = rs.take r ++ [ru] := by rw [List.take_add_one, hr]; rfl
  have e2 : rs = rs.take (r + 1) ++ rs.drop (r + 1) := (List.take_append_drop (r + 1) rs).symm
  have e3 : rs.flatMap xi_an = (rs.take r).flatMap xi_an ++ (xi_an ru ++ (rs.drop (r + 1)).flatMap xi_an) := by
    conv => lhs; rw [e2, e]
    simp
  refine ⟨by rw [e]; simp, fun hi => ?_, ?_⟩
  · rw [e3, List.getElem?_append_right (by omega), Nat.add_sub_cancel_left, List.getElem?_append_left hi]
  · rw [e3, e]; simp
theorem xv_answerFor {I : pI} {R : pR} {q r h : Nat} {ru : xi_R} {rs : List xi_R} {Q : Int32 → pI → pR → Prop} (rm : xi_RM I q rs) (hr : rs[r]? = some ru) (hl : rs.length ≤ 20) (hal : (rs.flatMap xi_an).length ≤ 60) (hh : h < 1000000001) (hQ : Q (xg_ans ru h) I R) : w_rl_answerFor (q + 14) (nI r) (nI (h + 1)) I R Q := by
  have hlt := xa_some_lt hr
  obtain ⟨e1, e2, e3, e4, e5, e6, e7⟩ := rm.2.2.1 r ru hr
  have hin : vp_in (nI r) 22 := vp_in_nI (by omega) (by omega)
  obtain ⟨f1, f2, f3⟩ := xg_fl (i := if h < (xi_an ru).length then h else (xi_an ru).length - 1) hr
  have rm4 := rm.2.2.2
  generalize ((rs.take r).flatMap xi_an).length = a0 at *
  generalize ((rs.take (r + 1)).flatMap xi_an).length = b0 at *
  unfold w_rl_answerFor
  rw [rm.1]
  refine xa_f (nI_pos (by omega)) (xa_f (fun hh => by have := (nI_leI (by omega) (by omega)).mp hh; omega) (xa_f (fun hh => by have := (xa_lle 22 (by omega) (by omega)).mp hh; omega) ⟨hin, hin, ?_⟩))
  rw [nI_clamp (by omega), show q + 14 + 6 = q + 20 from rfl, e6, show q + 14 + 7 = q + 21 from rfl, e7]
  have fin : ∀ i, i = (if h < (xi_an ru).length then h else (xi_an ru).length - 1) → i < (xi_an ru).length → j_rl_answerFor_73 (q + 14) Q (nI (a0 + i)) I R := by
    intro i hi hil
    unfold j_rl_answerFor_73
    refine xa_f (nI_pos (by omega)) (xa_f (fun hh => by have := (xa_lle 61 (by omega) (by omega)).mp hh; omega) ⟨vp_in_nI (by omega) (by omega), ?_⟩)
    rw [nI_clamp (by omega), show q + 14 + 8 = q + 22 from rfl]
    rw [← hi] at f2
    have g := f2 hil
    rw [List.getElem?_eq_getElem hil] at g
    rw [rm4 _ _ g]
    unfold xg_ans at hQ
    rw [← hi, List.getElem?_eq_getElem hil] at hQ
    exact hQ
  by_cases h0 : (xi_an ru).length = 0
  · refine xa_f (fun hh => by have := (nI_ltI (by omega) (by omega)).mp hh; omega) ?_
    unfold xg_ans at hQ
    rw [List.getElem?_eq_none (by split <;> omega)] at hQ
    exact hQ
  · refine xa_t ((nI_ltI (by omega) (by omega)).mpr (by omega)) ⟨hin, hin, ?_⟩
    rw [nI_add]
    by_cases hb : h < (xi_an ru).length
    · refine xa_f (fun hh => by have := (nI_ltI (by omega) (by omega)).mp hh; omega) ⟨hin, ?_⟩
      rw [show a0 + (h + 1) = (a0 + h) + 1 by omega, nI_pred]
      exact fin h (by rw [if_pos hb]) hb
    · refine xa_t ((nI_ltI (by omega) (by omega)).mpr (by omega)) ⟨hin, ?_⟩
      rw [show b0 = (a0 + ((xi_an ru).length - 1)) + 1 by omega, nI_pred]
      exact fin _ (by rw [if_neg hb]) (by omega)
/-- the class's feature, with rules in force among m statements from a on -/
def xv_E (q : Nat) (its : List xi_I) (a m : Nat) (I : pI) : Prop := xi_CM I q its ∧ I 115 8 = nI a ∧ I 115 9 = nI (a + m)
theorem xv_E_S {q oc : Nat} {its : List xi_I} {a m : Nat} (hq : q = 54 ∨ q = 81) (hoc : xv_oc oc) : ∀ I I', xa_fr (xv_S oc) I I' → xv_E q its a m I → xv_E q its a m I' := by
  intro I I' f h
  unfold xv_oc at hoc
  refine ⟨xi_CM_p h.1 (fun p a b => funext (fun k => xv_S_o f p k (by omega))), ?_, ?_⟩
  · rw [f 115 8 (by simp [xv_S]; omega)]; exact h.2.1
  · rw [f 115 9 (by simp [xv_S]; omega)]; exact h.2.2
theorem xg_B {rl : List (Nat × xi_I)} : xv_HB (xg_A rl) := by
  intro s m v b h hm
  have bump : ∀ i, xv_B b s → xv_B (b + 1) (xg_bump s i) := by
    intro i h r
    obtain ⟨x, hx, e⟩ := h r
    unfold xg_bump
    by_cases hi : 2 + r = i
    · rw [if_pos hi, e, nI_1]; exact ⟨x + 1, by omega, rfl⟩
    · rw [if_neg hi, e]; exact ⟨x, by omega, rfl⟩
  have hb0 : xv_B b (xg_bump s m) := by
    intro r
    obtain ⟨x, hx, e⟩ := h r
    unfold xg_bump
    rw [if_neg (by omega), e]; exact ⟨x, hx, rfl⟩
  have go : ∀ (l : List (Nat × xi_I)) sm (s' : xp_S), xv_B b s' → xv_B (b + 1) (xg_go m v l sm s').1 := by
    intro l; induction l with
    | nil => intro sm s' h; exact xv_B_m h (by omega)
    | cons e l ih =>
      intro sm s' h
      obtain ⟨r, it⟩ := e
      show xv_B (b + 1) (if _ then _ else _ : xp_S × Option Int32).1
      split
      · split
        · show xv_B (b + 1) (xg_bump s' (2 + r))
          intro r'
          obtain ⟨x, hx, e⟩ := h r'
          unfold xg_bump
          by_cases hi : 2 + r' = 2 + r
          · rw [if_pos hi, e, nI_1]; exact ⟨x + 1, by omega, rfl⟩
          · rw [if_neg hi, e]; exact ⟨x, by omega, rfl⟩
        · exact ih _ _ h
      · exact ih _ _ h
  exact go rl false _ hb0
theorem xv_ansL {g : Bool} {R : pR} {q oc m0 b : Nat} {v : Int32} {f3 : Int32} {V : Nat → Int32} {s : xp_S} {its : List xi_I} {K Q : Int32 → pI → pR → Prop} {I : pI} (hq : q = 54 ∨ q = 81) (hoc : xv_oc oc) (hR : R 115 5 = some q) (hil : its.length ≤ 60) (hrl : (xi_rs its).length ≤ 20) (hal : ((xi_rs its).flatMap xi_an).length ≤ 60) (hw : ∀ it, it ∈ its → xi_k it < 9 ∧ (xi_k it = 7 → xg_RW (xi_ru it))) (cm : xi_CM I q its) (st : xv_St g I oc V s) (hB : xv_B b s) (hb : b ≤ 1000000000) (hm0 : m0 ≤ 1) :
    ∀ m a (sm : Bool), (m = 0 ∨ g = true) → a + m ≤ its.length → I 115 9 = nI (a + m) → (∀ sm' : Bool, xg_go m0 v (xg_rng its a m) sm s = (s, if sm' then none else some 0) → K (if sm' then 1 else 0) I R) → (∀ s' w, xg_go m0 v (xg_rng its a m) sm s = (s', some w) → ∀ I', xa_fr (xv_SC oc) I I' → xv_St g I' oc V s' → Q w I' R) → l_ev_answer_33 (nI m0) v f3 K Q (m + 1) (if sm then 1 else 0) (nI a) I R := by
  intro m; induction m with
  | zero =>
    intro a sm _ ha h9 hK hQ
    unfold l_ev_answer_33
    rw [h9]
    exact xa_t ((nI_leI (by omega) (by omega)).mpr (by omega)) (hK sm rfl)
  | succ m ih =>
    intro a sm hgm ha h9 hK hQ
    have hgt : g = true := hgm.resolve_left (by omega)
    have hg : its[a]? = some its[a] := List.getElem?_eq_getElem (by omega)
    generalize its[a] = it at hg
    have se := cm.1.2 a it hg
    unfold l_ev_answer_33
    rw [h9]
    refine xa_f (fun hh => by have := (nI_leI (by omega) (by omega)).mp hh; omega) ⟨q, hR, xv_q_sh hq, ?_⟩
    rw [xq_kindOf cm.1 hg hil]
    have er : xg_rng its a (m + 1) = (if xi_k it = 7 then [(xi_nr (its.take a), it)] else []) ++ xg_rng its (a + 1) m := by
      show (match its[a]? with
        | some it => if xi_k it = 7 then [(xi_nr (its.take a), it)] else []
        | none => []) ++ _ = _
      rw [hg]
    have nxt : ∀ sm2 : Bool, xg_go m0 v (xg_rng its a (m + 1)) sm s = xg_go m0 v (xg_rng its (a + 1) m) sm2 s → l_ev_answer_33 (nI m0) v f3 K Q (m + 1) (if sm2 then 1 else 0) (nI a + 1) I R := by
      intro sm2 he
      rw [nI_1]
      exact ih (a + 1) sm2 (Or.inr hgt) (by omega) (by rw [h9]; congr 1; omega) (fun sm' h => hK sm' (he.trans h)) (fun s' w h => hQ s' w (he.trans h))
    by_cases h7 : xi_k it = 7
    · refine xa_t' (xa_e 7 h7) ⟨q, hR, xv_q_sh hq, ?_⟩
      have hrs := xg_rsix hg h7
      have hrlt := xa_some_lt hrs
      have hdet : xi_det its a it = nI (xi_nr (its.take a)) := by unfold xi_det; rw [if_pos h7]
      rw [xq_pick (by omega) (by omega), se.2.2.2.2.2, hdet]
      rw [if_pos h7] at er
      unfold j_ev_answer_78
      refine ⟨q, hR, xv_q_sh hq, ?_⟩
      have ww := (hw it (List.mem_of_getElem? hg)).2 h7
      refine xv_isFor cm.2.2.2 hrs hrl hm0 ww ?_
      generalize xi_nr (its.take a) = r at *
      have hgo : xg_go m0 v (xg_rng its a (m + 1)) sm s = (if xg_meets (xi_ru it) m0 v then (if xg_free (xi_ru it) (s (2 + r)) then (xg_bump s (2 + r), some (xg_ans (xi_ru it) (s (2 + r)).toNatClampNeg)) else xg_go m0 v (xg_rng its (a + 1) m) true s) else xg_go m0 v (xg_rng its (a + 1) m) sm s) := by rw [er]; rfl
      cases hme : xg_meets (xi_ru it) m0 v with
      | false =>
        refine xa_t rfl (nxt sm ?_)
        rw [hgo, hme]; rfl
      | true =>
        refine xa_f (by decide) ?_
        obtain ⟨x, hx, ex⟩ := hB r
        have re := cm.2.2.2.2.2.1 _ _ hrs
        rw [xq_pick (by omega) (by omega), st.2.2.2 hgt r (by omega), ex]
        refine ⟨q, hR, xv_q_sh hq, ?_⟩
        rw [xq_pick (by omega) (by omega), re.2.1]
        rw [hme, if_pos rfl] at hgo
        have hit : xg_free (xi_ru it) (s (2 + r)) = true → w_sr_pick 120 22 (nI r) I R (fun v7 I7 R7 => (w_sr_put 120 22 (nI r) (v7 + (1 : Int32)) I7 R7 (fun I8 R8 => (∃ q6, R8 115 5 = some q6 ∧ pSH[q6]? = some (0, 5) ∧ (w_sr_pick 120 22 (nI r) I8 R8 (fun v9 I9 R9 => (w_rl_answerFor (q6 + 14) (nI r) v9 I9 R9 (fun v10 I10 R10 => Q v10 I10 R10)))))))) := by
          intro hf
          rw [xq_pick (by omega) (by omega), st.2.2.2 hgt r (by omega), ex, nI_1]
          refine xc_put (by omega) (by omega) ⟨q, hR, xv_q_sh hq, ?_⟩
          rw [xq_pick (by omega) (by omega), xa_w, if_pos ⟨rfl, rfl⟩]
          have cm' : xi_CM (pw_wI I 120 r (nI (x + 1))) q its := xi_CM_p cm (fun p a b => xa_p (by omega))
          refine xv_answerFor cm'.2.2.2 hrs hrl hal (by omega) ?_
          rw [hf, if_pos rfl, ex, nI_clamp (by omega)] at hgo
          refine hQ _ _ hgo _ (xa_fr_w (xa_fr_r _ _) (by simp [xv_SC])) ?_
          unfold xv_oc at hoc
          refine ⟨fun v hv => ?_, ?_, ?_, fun hg r' hr' => ?_⟩
          · rw [xa_p (by omega)]; exact st.1 v hv
          · rw [xa_p (by omega)]; unfold xg_bump; rw [if_neg (by omega)]; exact st.2.1
          · rw [xa_p (by omega)]; unfold xg_bump; rw [if_neg (by omega)]; exact st.2.2.1
          · rw [xa_w]; unfold xg_bump
            by_cases h : r' = r
            · rw [if_pos ⟨rfl, h⟩, if_pos (by omega), h, ex, nI_1]
            · rw [if_neg (fun e => h e.2), if_neg (by omega)]; exact st.2.2.2 hg r' hr'
        cases hmo : xi_mo (xi_ru it) with
        | none =>
          have hf : xg_free (xi_ru it) (s (2 + r)) = true := by unfold xg_free; rw [hmo]
          refine xa_f (fun hh => ?_) (hit hf)
          have : (2147483647 : Int32) = nI 2147483647 := rfl
          have h2 := (nI_leI (show 2147483647 < 2 ^ 31 by decide) (by omega)).mp (show nI 2147483647 ≤ nI x from hh)
          omega
        | some k =>
          have hk := ww.2.1 k hmo
          have hfr : xg_free (xi_ru it) (s (2 + r)) = decide (s (2 + r) < nI k) := by unfold xg_free; rw [hmo]
          rw [ex] at hfr
          show (nI k ≤ nI x → _) ∧ (¬ nI k ≤ nI x → _)
          by_cases hkx : k ≤ x
          · refine xa_t ((nI_leI (by omega) (by omega)).mpr hkx) (nxt true ?_)
            rw [hgo, ex, hfr, if_neg (by simp; exact (nI_leI (by omega) (by omega)).mpr hkx)]
          · refine xa_f (fun hh => hkx ((nI_leI (by omega) (by omega)).mp hh)) (hit ?_)
            rw [ex, hfr]; simp; exact (nI_ltI (by omega) (by omega)).mpr (by omega)
    · refine xa_f' (fun e => h7 ((xa_eql 7 ?_ (by omega)).mp e)) ?_
      · have := (hw it (List.mem_of_getElem? hg)).1; omega
      · unfold j_ev_answer_78
        refine ⟨q, hR, xv_q_sh hq, ?_⟩
        unfold w_rl_isFor
        refine xa_t (by decide) (xa_t rfl (nxt sm ?_))
        rw [er, if_neg h7]; rfl
theorem xv_HAc {g : Bool} {R : pR} {q oc a m : Nat} {V : Nat → Int32} {its : List xi_I} (hq : q = 54 ∨ q = 81) (hoc : xv_oc oc) (hR : R 115 5 = some q) (hR6 : R 115 6 = some oc) (hil : its.length ≤ 60) (hrl : (xi_rs its).length ≤ 20) (hal : ((xi_rs its).flatMap xi_an).length ≤ 60) (hw : ∀ it, it ∈ its → xi_k it < 9 ∧ (xi_k it = 7 → xg_RW (xi_ru it))) (ham : a + m ≤ its.length) (hgm : m = 0 ∨ g = true) : xv_HA g oc R V (xg_A (xg_rng its a m)) (xv_E q its a m) := by
  intro I s b m0 p v Q hE st hB hb hm0 hp h11 hs hn
  obtain ⟨cm, h8, h9⟩ := hE
  unfold w_ev_answer
  refine ⟨oc, hR6, xv_oc_sh hoc, oc, hR6, xv_oc_sh hoc, ?_⟩
  have hc : I (oc + 2) m0 = s m0 := by
    rcases (show m0 = 0 ∨ m0 = 1 by omega) with rfl | rfl
    · exact st.2.1
    · exact st.2.2.1
  rw [xq_pick (by omega) (by omega), hc]
  refine xc_put (by omega) (by omega) ?_
  have hoc' := hoc
  unfold xv_oc at hoc'
  have st1 : xv_St g (pw_wI I (oc + 2) m0 (s m0 + 1)) oc V (xg_bump s m0) := by
    refine ⟨fun v hv => ?_, ?_, ?_, fun hg r' hr' => ?_⟩
    · rw [xa_p (by omega)]; exact st.1 v hv
    · rw [xa_w]; unfold xg_bump
      by_cases h : (0 : Nat) = m0
      · rw [if_pos ⟨rfl, h⟩, if_pos h, ← h]
      · rw [if_neg (fun e => h e.2), if_neg h]; exact st.2.1
    · rw [xa_w]; unfold xg_bump
      by_cases h : (1 : Nat) = m0
      · rw [if_pos ⟨rfl, h⟩, if_pos h, ← h]
      · rw [if_neg (fun e => h e.2), if_neg h]; exact st.2.2.1
    · rw [xa_p (by omega)]; unfold xg_bump; rw [if_neg (by omega)]; exact st.2.2.2 hg r' hr'
  have hB1 : xv_B b (xg_bump s m0) := by
    intro r
    obtain ⟨x, hx, e⟩ := hB r
    unfold xg_bump
    rw [if_neg (by omega), e]; exact ⟨x, hx, rfl⟩
  have f1 : xa_fr (xv_SC oc) I (pw_wI I (oc + 2) m0 (s m0 + 1)) := xa_fr_w (xa_fr_r _ _) (by simp [xv_SC])
  have cm1 : xi_CM (pw_wI I (oc + 2) m0 (s m0 + 1)) q its := xi_CM_p cm (fun p a b => xa_p (by omega))
  rw [show pw_wI I (oc + 2) m0 (s m0 + 1) 115 8 = nI a by rw [xa_p (by omega)]; exact h8]
  have h91 : pw_wI I (oc + 2) m0 (s m0 + 1) 115 9 = nI (a + m) := by rw [xa_p (by omega)]; exact h9
  generalize pw_wI I (oc + 2) m0 (s m0 + 1) = I1 at *
  refine ⟨m + 1, ?_⟩
  refine xv_ansL (sm := false) (b := b) hq hoc hR hil hrl hal hw cm1 st1 hB1 (by omega) hm0 m a hgm ham h91 (fun sm' he => ?_) (fun s' w he I' f' st' => ?_)
  · have eA : xg_A (xg_rng its a m) s m0 v = (xg_bump s m0, if sm' then none else some 0) := he
    cases sm' with
    | false => exact xa_t rfl (hs 0 (by rw [eA]; rfl) I1 f1 (by rw [eA]; exact st1))
    | true =>
      refine xa_f (by decide) ?_
      unfold w_ev_stop
      refine xa_a (xa_a (hn (by rw [eA]; rfl) _ ?_ ?_ ?_ ?_))
      · refine xa_fr_t (xa_fr_m f1 ?_) (xa_fr_w (xa_fr_w (xa_fr_r _ _) (by simp [xv_SD])) (by simp [xv_SD]))
        intro p k hp
        simp only [xv_SC, xv_SD, Bool.or_eq_false_iff, Bool.and_eq_false_iff, beq_eq_false_iff_ne] at hp ⊢; omega
      · rw [eA]
        refine ⟨fun v hv => ?_, ?_, ?_, fun hg r hr => ?_⟩
        · rw [xa_p (by omega), xa_p (by omega)]; exact st1.1 v hv
        · rw [xa_p (by omega), xa_p (by omega)]; exact st1.2.1
        · rw [xa_p (by omega), xa_p (by omega)]; exact st1.2.2.1
        · rw [xa_p (by omega), xa_p (by omega)]; exact st1.2.2.2 hg r hr
      · rw [xa_w, if_neg (by decide), xa_w, if_pos ⟨rfl, rfl⟩]
      · rw [xa_w, if_pos ⟨rfl, rfl⟩]
  · have eA : xg_A (xg_rng its a m) s m0 v = (s', some w) := he
    exact hs w (by rw [eA]) I' (xa_fr_t f1 f') (by rw [eA]; exact st')
/-- what the grammar derives is evaluated so -/
theorem xv_evD {g : Bool} {q oc : Nat} {R : pR} {V O : Nat → Int32} {A : xp_A} {E : pI → Prop} {kd nm pl : Nat → Nat} (hq : q = 54 ∨ q = 81) (hR : R 115 5 = some q) (hoc : xv_oc oc) (hR6 : R 115 6 = some oc) (hE : ∀ I I', xa_fr (xv_S oc) I I' → E I → E I') (hA : xv_HA g oc R V A E) (hBA : xv_HB A) {lv dp p p' : Nat} {ok : Bool} {x : xp_X} (h : xf_D kd nm pl lv dp ok p p' x) : xv_EV g q oc R V O A E lv dp x :=
  h (fun lv dp _ _ _ x => xv_EV g q oc R V O A E lv dp x) ⟨fun _ _ _ _ => xv_num hq hR hoc _ _, fun _ _ _ _ => xv_var hq hR hoc hR6 _ _, fun _ _ _ _ _ h4 _ ih => xv_neg hq hR hoc _ h4 ih, fun _ _ _ _ _ h4 _ ih => xv_not hq hR hoc _ h4 ih, fun _ _ _ _ _ h4 _ _ ih => xv_par h4 ih, fun _ _ _ _ _ h4 _ _ _ ih => xv_call hq hR hoc hE hA hBA _ _ h4 ih, fun _ _ _ _ _ _ _ _ _ => xv_old hq hR hoc _ _, fun _ _ _ _ _ _ h4 ih => xv_up h4 ih, fun _ _ _ _ _ _ _ _ h2 h4 hl ihx ihy => xv_bin hq hR hoc hE _ _ h2 h4 hl ihx ihy, fun _ _ _ _ _ _ _ _ h2 hl ihx ihy => xv_lg hq hR hoc hE _ _ h2 hl ihx ihy⟩
