/-! TOKENS: the list (kind, number, start, end) -/
def xt_ch (x : Nat → Nat) (L i : Nat) : Nat := if i < L then x i else 32
def xt_Ok (x : Nat → Nat) (L : Nat) : Prop := L ≤ 120 ∧ ∀ i, i < L → 32 ≤ x i ∧ x i < 127
def xt_Tx (I : pI) (a : Nat) (x : Nat → Nat) (L : Nat) : Prop := ∀ i, i < L → I a i = nI (x i)
def xt_de (x : Nat → Nat) (L : Nat) : Nat → Nat → Nat
  | 0, p => p
  | n + 1, p => if 48 ≤ xt_ch x L p ∧ xt_ch x L p ≤ 57 then xt_de x L n (p + 1) else p
def xt_dv (x : Nat → Nat) (p : Nat) : Nat → Nat
  | 0 => 0
  | k + 1 => xt_dv x p k * 10 + (x (p + k) - 48)
def xt_pr (c d : Nat) : Nat :=
  if d = 61 then (if c = 61 then 260 else if c = 33 then 261 else if c = 60 then 262 else if c = 62 then 263 else 257)
  else if c ≠ d then 257 else if c = 38 then 264 else if c = 124 then 265 else if c = 62 then 266 else 257
def xt_one (x : Nat → Nat) (L p : Nat) : Option (Nat × Nat × Nat × Nat) × Nat :=
  if x p = 32 then (none, p + 1)
  else if 48 ≤ x p ∧ x p ≤ 57 then
    (some (if 4 < xt_de x L (L - p) p - p then 257 else 258, xt_dv x p (xt_de x L (L - p) p - p), p, xt_de x L (L - p) p), xt_de x L (L - p) p)
  else if xt_pr (x p) (xt_ch x L (p + 1)) ≠ 257 then (some (xt_pr (x p) (xt_ch x L (p + 1)), 0, p, p + 2), p + 2)
  else if 97 ≤ x p ∧ x p ≤ 122 then (some (259, x p - 97, p, p + 1), p + 1)
  else (some (if x p = 38 then 257 else x p, 0, p, p + 1), p + 1)
def xt_tk (x : Nat → Nat) (L : Nat) : Nat → Nat → List (Nat × Nat × Nat × Nat)
  | 0, _ => []
  | n + 1, p => if L ≤ p then [] else (xt_one x L p).1.toList ++ xt_tk x L n (xt_one x L p).2
theorem xt_ch_lt {x : Nat → Nat} {L i : Nat} (h : xt_Ok x L) : xt_ch x L i < 127 := by
  unfold xt_ch; split
  · exact (h.2 i ‹_›).2
  · decide
theorem xt_de_ge (x : Nat → Nat) (L : Nat) : ∀ n p, p ≤ xt_de x L n p := by
  intro n; induction n with
  | zero => intro p; exact Nat.le_refl _
  | succ n ih => intro p; unfold xt_de; split
                 · exact Nat.le_trans (Nat.le_succ p) (ih _)
                 · exact Nat.le_refl _
theorem xt_de_le (x : Nat → Nat) (L : Nat) : ∀ n p, p ≤ L → xt_de x L n p ≤ L := by
  intro n; induction n with
  | zero => intro p h; exact h
  | succ n ih => intro p h; unfold xt_de; split
                 · rename_i hc
                   refine ih _ ?_
                   unfold xt_ch at hc
                   split at hc
                   · omega
                   · omega
                 · exact h
theorem xt_isDigit {c : Nat} (hc : c < 2 ^ 31) {I : pI} {R : pR} {Q : Int32 → pI → pR → Prop} : w_sr_isDigit (nI c) I R Q ↔ Q (if 48 ≤ c ∧ c ≤ 57 then 1 else 0) I R := by
  unfold w_sr_isDigit
  simp (disch := omega) only [xa_l48, xa_l57, nI_ltI]
  by_cases h1 : c < 48
  · simp [h1, show ¬ (48 ≤ c ∧ c ≤ 57) by omega]
  · by_cases h2 : 57 < c
    · simp [h1, h2, show ¬ (48 ≤ c ∧ c ≤ 57) by omega]
    · simp [h1, h2, show (48 ≤ c ∧ c ≤ 57) by omega]
theorem xt_isSmall {c : Nat} (hc : c < 2 ^ 31) {I : pI} {R : pR} {Q : Int32 → pI → pR → Prop} : w_sr_isSmallLetter (nI c) I R Q ↔ Q (if 97 ≤ c ∧ c ≤ 122 then 1 else 0) I R := by
  unfold w_sr_isSmallLetter
  simp (disch := omega) only [xa_l97, xa_l122, nI_ltI]
  by_cases h1 : c < 97
  · simp [h1, show ¬ (97 ≤ c ∧ c ≤ 122) by omega]
  · by_cases h2 : 122 < c
    · simp [h1, h2, show ¬ (97 ≤ c ∧ c ≤ 122) by omega]
    · simp [h1, h2, show (97 ≤ c ∧ c ≤ 122) by omega]
theorem xt_charAt {x : Nat → Nat} {L a i : Nat} {I : pI} (ok : xt_Ok x L) (hL : I 109 5 = nI L) (tx : xt_Tx I a x L) (hi : i < 2 ^ 31) {R : pR} {Q : Int32 → pI → pR → Prop} : w_tk_characterAt a (nI i) I R Q ↔ Q (nI (xt_ch x L i)) I R := by
  have hk := ok.1
  unfold w_tk_characterAt
  rw [hL]
  have e32 : narrow .char (.int (32 : Int32)) = .int (32 : Int32) := xa_ch (n := 32) (by decide)
  have e120 : (Int32.ofNat 120) = nI 120 := rfl
  rw [e120]
  simp (disch := omega) only [xa_0lt, nI_leI, nI_clamp]
  by_cases h1 : L ≤ i
  · simp [h1, e32, xt_ch, show ¬ i < L by omega]; rfl
  · have h2 : ¬ 120 ≤ i := by omega
    have h3 : i < L := by omega
    have e4 : I a i = nI (x i) := tx i h3
    have e5 : narrow .char (.int (nI (x i))) = .int (nI (x i)) := xa_ch (by have := (ok.2 i h3).2; omega)
    simp [h1, h2, e4, e5, xt_ch, h3, xa_in (n := i) (N := 120) (by decide) (by omega)]
theorem xt_pairOf {c d : Nat} (hc : c < 2 ^ 31) (hd : d < 2 ^ 31) {I : pI} {R : pR} {Q : Int32 → pI → pR → Prop} : w_tk_pairOf (nI c) (nI d) I R Q ↔ Q (nI (xt_pr c d)) I R := by
  unfold w_tk_pairOf xt_pr
  simp (disch := omega) only [xa_l61, xa_l33, xa_l60, xa_l62, xa_l38, xa_l124, xa_l257, xa_l260, xa_l261, xa_l262, xa_l263, xa_l264, xa_l265, xa_l266, nI_eq]
  by_cases h1 : d = 61
  · by_cases h2 : c = 61
    · simp [h1, h2]
    · by_cases h3 : c = 33
      · simp [h1, h3]
      · by_cases h4 : c = 60
        · simp [h1, h4]
        · by_cases h5 : c = 62
          · simp [h1, h5]
          · simp [h1, h2, h3, h4, h5]
  · by_cases h2 : c = d
    · by_cases h3 : c = 38
      · simp [h1, ← h2, h3]
      · by_cases h4 : c = 124
        · simp [h1, ← h2, h4]
        · by_cases h5 : c = 62
          · simp [h1, ← h2, h5]
          · simp [h1, ← h2, h3, h4, h5]
            by_cases h6 : c = 61
            · omega
            · simp [h6]
    · simp [h1, h2]
theorem xt_pr_lt (c d : Nat) : xt_pr c d < 267 ∧ 257 ≤ xt_pr c d := by
  unfold xt_pr
  repeat' split
  all_goals decide
theorem xt_pr32 (c : Nat) : xt_pr c 32 = 257 := by
  unfold xt_pr
  simp only [show ¬ (32 = 61) by decide, if_false]
  split
  · rfl
  · rename_i h
    have : c = 32 := Classical.byContradiction h
    subst this; rfl
theorem xt_one_end {x : Nat → Nat} {L p : Nat} (hp : p < L) : p + 1 ≤ (xt_one x L p).2 ∧ (xt_one x L p).2 ≤ L := by
  unfold xt_one
  split
  · exact ⟨Nat.le_refl _, hp⟩
  · split
    · rename_i h1 h2
      obtain ⟨k, hk⟩ : ∃ k, L - p = k + 1 := ⟨L - p - 1, by omega⟩
      have hd : xt_de x L (L - p) p = xt_de x L k (p + 1) := by
        rw [hk]; show (if _ then _ else _) = _
        rw [if_pos (by simpa [xt_ch, hp] using h2)]
      refine ⟨?_, xt_de_le x L _ p (by omega)⟩
      show p + 1 ≤ xt_de x L (L - p) p
      rw [hd]; exact xt_de_ge x L k (p + 1)
    · split
      · rename_i h3
        refine ⟨Nat.le_succ _, ?_⟩
        show p + 2 ≤ L
        by_cases h : p + 1 < L
        · exact h
        · exfalso; apply h3; unfold xt_ch; rw [if_neg h]; exact xt_pr32 _
      · split
        · exact ⟨Nat.le_refl _, hp⟩
        · exact ⟨Nat.le_refl _, hp⟩
def xt_TC (I : pI) (ts : List (Nat × Nat × Nat × Nat)) : Prop := I 109 4 = nI ts.length ∧ ∀ i t, ts[i]? = some t → I 110 i = nI t.1 ∧ I 111 i = nI t.2.2.1 ∧ I 112 i = nI t.2.2.2 ∧ I 113 i = nI t.2.1
theorem xt_add {I : pI} {R : pR} {Q : Int32 → pI → pR → Prop} {ts : List (Nat × Nat × Nat × Nat)} {k v a e : Nat} (tc : xt_TC I ts) (hl : ts.length < 120)
    (h : ∀ I', xt_TC I' (ts ++ [(k, v, a, e)]) → xa_ag 109 113 I I' → I' 109 5 = I 109 5 → Q (nI e) I' R) : w_tk_add (nI k) (nI a) (nI e) (nI v) I R Q := by
  obtain ⟨t1, t2⟩ := tc
  have hb : vp_in (nI ts.length) 120 := vp_in_nI hl (by decide)
  have hc : (nI ts.length).toNatClampNeg = ts.length := nI_clamp (by omega)
  unfold w_tk_add
  rw [t1, hc]
  refine xa_f (by rw [xa_lle 120 (by omega) (by omega)]; omega) ⟨hb, fun I1 e1 => ?_⟩
  have s1 : I1 109 4 = nI ts.length := by rw [e1, xa_w]; simp [t1]
  rw [s1, hc]
  refine ⟨hb, fun I2 e2 => ?_⟩
  have s2 : I2 109 4 = nI ts.length := by rw [e2, xa_w]; simp [s1]
  rw [s2, hc]
  refine ⟨hb, fun I3 e3 => ?_⟩
  have s3 : I3 109 4 = nI ts.length := by rw [e3, xa_w]; simp [s2]
  rw [s3, hc]
  refine ⟨hb, fun I4 e4 => ?_⟩
  have s4 : I4 109 4 = nI ts.length := by rw [e4, xa_w]; simp [s3]
  rw [s4, nI_1]
  intro I5 e5
  refine h I5 ⟨?_, ?_⟩ ?_ ?_
  · rw [e5, xa_w]; simp
  · intro i t ht
    have hI : ∀ p', I5 p' i = (if p' = 109 ∧ i = 4 then nI (ts.length + 1) else if p' = 113 ∧ i = ts.length then nI v else if p' = 112 ∧ i = ts.length then nI e else if p' = 111 ∧ i = ts.length then nI a else if p' = 110 ∧ i = ts.length then nI k else I p' i) := by
      intro p'; rw [e5, xa_w, e4, xa_w, e3, xa_w, e2, xa_w, e1, xa_w]
    rcases xa_app ht with ⟨ht', hi⟩ | ⟨hi, rfl⟩
    · have := t2 i t ht'
      simp only [hI, show ¬ i = ts.length by omega]
      simpa using this
    · simp only [hI]; simp [hi]
  · rw [e5, e4, e3, e2, e1]
    exact xa_ag_w (xa_ag_w (xa_ag_w (xa_ag_w (xa_ag_w (xa_ag_r _ _ _) (by decide)) (by decide)) (by decide)) (by decide)) (by decide)
  · rw [e5, xa_w, e4, xa_w, e3, xa_w, e2, xa_w, e1, xa_w]; simp
theorem xt_num_loop {x : Nat → Nat} {L p a : Nat} {I : pI} {R : pR} {f2 : Int32} {K : Int32 → Int32 → pI → pR → Prop} {Q : Int32 → pI → pR → Prop} (ok : xt_Ok x L) (hL : I 109 5 = nI L) (tx : xt_Tx I a x L) : ∀ n i, L ≤ i + n → p ≤ i → i ≤ L → K (nI (xt_de x L n i)) (nI (xt_dv x p (xt_de x L n i - p))) I R → l_tk_addNumber_8 a f2 K Q (n + 1) (nI i) (nI (xt_dv x p (i - p))) (nI i) I R := by
  have hk := ok.1
  intro n; induction n with
  | zero =>
    intro i h1 h2 h3 hK
    unfold l_tk_addNumber_8
    rw [hL]
    exact xa_t ((nI_leI (by omega) (by omega)).mpr (by omega)) hK
  | succ n ih =>
    intro i h1 h2 h3 hK
    unfold l_tk_addNumber_8
    rw [hL]
    by_cases hi : L ≤ i
    · refine xa_t ((nI_leI (by omega) (by omega)).mpr (by omega)) ?_
      have : xt_de x L (n + 1) i = i := by
        show (if _ then _ else _) = _
        rw [if_neg (by simp [xt_ch, show ¬ i < L by omega])]
      rwa [this] at hK
    · refine xa_f (fun h => hi ((nI_leI (by omega) (by omega)).mp h)) ?_
      have hc : xt_ch x L i = x i := by simp [xt_ch, show i < L by omega]
      have hx := ok.2 i (by omega)
      rw [xt_charAt ok hL tx (by omega), hc, xt_isDigit (by omega)]
      by_cases hd : 48 ≤ x i ∧ x i ≤ 57
      · rw [if_pos hd]
        refine xa_f (by decide) ?_
        rw [xt_charAt ok hL tx (by omega), hc]
        have e1 : nI (xt_dv x p (i - p)) * 10 + (nI (x i) - 48) = nI (xt_dv x p (i + 1 - p)) := by
          rw [show i + 1 - p = (i - p) + 1 by omega]
          show _ = nI (xt_dv x p (i - p) * 10 + (x (p + (i - p)) - 48))
          rw [show p + (i - p) = i by omega, ← nI_add, ← pk_mul, ← pk_sub hd.1]
          rfl
        have e2 : xt_de x L (n + 1) i = xt_de x L n (i + 1) := by
          show (if _ then _ else _) = _
          rw [if_pos (by rw [hc]; exact hd)]
        rw [e1, nI_1]
        rw [e2] at hK
        exact ih (i + 1) (by omega) (by omega) (by omega) hK
      · rw [if_neg hd]
        refine xa_t rfl ?_
        have e2 : xt_de x L (n + 1) i = i := by
          show (if _ then _ else _) = _
          rw [if_neg (by rw [hc]; exact hd)]
        rwa [e2] at hK
theorem xt_addFrom {x : Nat → Nat} {L p a : Nat} {I : pI} {R : pR} {Q : Int32 → pI → pR → Prop} {ts : List (Nat × Nat × Nat × Nat)} (ok : xt_Ok x L) (hL : I 109 5 = nI L) (tx : xt_Tx I a x L) (tc : xt_TC I ts) (hp : p < L) (hl : ts.length ≤ p)
    (h : ∀ I', xt_TC I' (ts ++ (xt_one x L p).1.toList) → xa_ag 109 113 I I' → I' 109 5 = nI L → Q (nI (xt_one x L p).2) I' R) : w_tk_addFrom a (nI p) I R Q := by
  have hk := ok.1
  have hx := ok.2 p hp
  have hc : xt_ch x L p = x p := by simp [xt_ch, hp]
  have h2 := xt_ch_lt (i := p + 1) ok
  have hpr := xt_pr_lt (x p) (xt_ch x L (p + 1))
  unfold w_tk_addFrom
  rw [xt_charAt ok hL tx (by omega), hc]
  by_cases e32 : x p = 32
  · refine xa_t' ((xa_eql 32 (by omega) (by omega)).mpr e32) ?_
    have e : xt_one x L p = (none, p + 1) := by unfold xt_one; rw [if_pos e32]
    rw [e] at h
    rw [nI_1]
    exact h I (by simpa using tc) (xa_ag_r _ _ _) hL
  · refine xa_f' (fun hh => e32 ((xa_eql 32 (by omega) (by omega)).mp hh)) ?_
    rw [xt_isDigit (by omega)]
    by_cases hd : 48 ≤ x p ∧ x p ≤ 57
    · rw [if_pos hd]
      refine xa_f (by decide) ?_
      have e : xt_one x L p = (some (if 4 < xt_de x L (L - p) p - p then 257 else 258, xt_dv x p (xt_de x L (L - p) p - p), p, xt_de x L (L - p) p), xt_de x L (L - p) p) := by
        unfold xt_one; rw [if_neg e32, if_pos hd]
      rw [e] at h
      have hge := xt_de_ge x L (L - p) p
      have hle := xt_de_le x L (L - p) p (by omega)
      unfold w_tk_addNumber
      refine ⟨L - p + 1, ?_⟩
      have := xt_num_loop (p := p) (R := R) (f2 := nI p) (K := fun y1 y2 I4 R4 => j_tk_addNumber_59 a (fun v10 I10 R10 => Q v10 I10 R10) (nI p) y1 y2 I4 R4) (Q := fun v10 I10 R10 => Q v10 I10 R10) ok hL tx (L - p) p (by omega) (by omega) (by omega)
      rw [Nat.sub_self] at this
      refine this ?_
      show j_tk_addNumber_59 _ _ _ _ _ _ _
      unfold j_tk_addNumber_59
      rw [pk_sub hge]
      by_cases h4 : 4 < xt_de x L (L - p) p - p
      · rw [if_pos h4] at h
        refine xa_f (fun hh => by have := (xa_lel 4 (by omega) (by omega)).mp hh; omega) ?_
        exact xt_add (k := 257) tc (by omega) (fun I' a1 a2 a3 => h I' a1 a2 (a3.trans hL))
      · rw [if_neg h4] at h
        refine xa_t ((xa_lel 4 (by omega) (by omega)).mpr (by omega)) ?_
        exact xt_add (k := 258) tc (by omega) (fun I' a1 a2 a3 => h I' a1 a2 (a3.trans hL))
    · rw [if_neg hd]
      refine xa_t rfl ?_
      rw [nI_1, xt_charAt ok hL tx (by omega), xt_pairOf (by omega) (by omega)]
      by_cases hp2 : xt_pr (x p) (xt_ch x L (p + 1)) = 257
      · refine xa_t ((xa_eql 257 (by omega) (by omega)).mpr hp2) ?_
        rw [xt_isSmall (by omega)]
        by_cases hs : 97 ≤ x p ∧ x p ≤ 122
        · rw [if_pos hs]
          refine xa_f (by decide) ?_
          have e : xt_one x L p = (some (259, x p - 97, p, p + 1), p + 1) := by
            unfold xt_one; rw [if_neg e32, if_neg hd, if_neg (fun hn => hn hp2), if_pos hs]
          rw [e] at h
          rw [show nI (x p) - 97 = nI (x p - 97) from pk_sub hs.1]
          exact xt_add (k := 259) tc (by omega) (fun I' a1 a2 a3 => h I' a1 a2 (a3.trans hL))
        · rw [if_neg hs]
          refine xa_t rfl ?_
          have e : xt_one x L p = (some (if x p = 38 then 257 else x p, 0, p, p + 1), p + 1) := by
            unfold xt_one; rw [if_neg e32, if_neg hd, if_neg (fun hn => hn hp2), if_neg hs]
          rw [e] at h
          by_cases h38 : x p = 38
          · rw [if_pos h38] at h
            refine xa_t' ((xa_eql 38 (by omega) (by omega)).mpr h38) ?_
            exact xt_add (k := 257) (v := 0) tc (by omega) (fun I' a1 a2 a3 => h I' a1 a2 (a3.trans hL))
          · rw [if_neg h38] at h
            refine xa_f' (fun hh => h38 ((xa_eql 38 (by omega) (by omega)).mp hh)) ?_
            exact xt_add (k := x p) (v := 0) tc (by omega) (fun I' a1 a2 a3 => h I' a1 a2 (a3.trans hL))
      · refine xa_f (fun hh => hp2 ((xa_eql 257 (by omega) (by omega)).mp hh)) ?_
        have e : xt_one x L p = (some (xt_pr (x p) (xt_ch x L (p + 1)), 0, p, p + 2), p + 2) := by
          unfold xt_one; rw [if_neg e32, if_neg hd, if_pos hp2]
        rw [e] at h
        rw [show nI p + 2 = nI (p + 2) from nI_add p 2]
        exact xt_add (v := 0) tc (by omega) (fun I' a1 a2 a3 => h I' a1 a2 (a3.trans hL))
theorem xt_Tx_ag {I I' : pI} {a : Nat} {x : Nat → Nat} {L lo hi : Nat} (tx : xt_Tx I a x L) (ag : xa_ag lo hi I I') (ha : ¬ (lo ≤ a ∧ a ≤ hi)) : xt_Tx I' a x L := fun i hi => by rw [ag a ha]; exact tx i hi
theorem xt_one_len {x : Nat → Nat} {L p : Nat} : (xt_one x L p).1.toList.length ≤ 1 := by
  cases (xt_one x L p).1 <;> simp
theorem xt_read_loop {x : Nat → Nat} {L a : Nat} {R : pR} {K : pI → pR → Prop} {Q : pI → pR → Prop} (ok : xt_Ok x L) (ha : ¬ (109 ≤ a ∧ a ≤ 113)) : ∀ n p turn ts I, turn + n = 120 → L ≤ p + n → p ≤ L → ts.length ≤ p → I 109 5 = nI L → xt_Tx I a x L → xt_TC I ts → (∀ I', xt_TC I' (ts ++ xt_tk x L n p) → xa_ag 109 113 I I' → I' 109 5 = nI L → K I' R) → l_tk_read_20 a K Q (n + 1) (nI p) (nI turn) I R := by
  have hk := ok.1
  intro n; induction n with
  | zero =>
    intro p turn ts I h1 h2 h3 h4 hL tx tc hK
    unfold l_tk_read_20
    refine xa_t ((xa_lle 120 (by omega) (by omega)).mpr (by omega)) ?_
    exact hK I (by simpa [xt_tk] using tc) (xa_ag_r _ _ _) hL
  | succ n ih =>
    intro p turn ts I h1 h2 h3 h4 hL tx tc hK
    unfold l_tk_read_20
    refine xa_f (fun hh => by have := (xa_lle 120 (by omega) (by omega)).mp hh; omega) ?_
    rw [hL]
    by_cases hp : L ≤ p
    · refine xa_t ((nI_leI (by omega) (by omega)).mpr hp) ?_
      exact hK I (by simpa [xt_tk, hp] using tc) (xa_ag_r _ _ _) hL
    · refine xa_f (fun hh => hp ((nI_leI (by omega) (by omega)).mp hh)) ?_
      have hE := xt_one_end (x := x) (L := L) (p := p) (by omega)
      have hlen := xt_one_len (x := x) (L := L) (p := p)
      refine xt_addFrom ok hL tx tc (by omega) h4 (fun I' a1 a2 a3 => ?_)
      rw [nI_1]
      refine ih _ _ (ts ++ (xt_one x L p).1.toList) I' (by omega) (by omega) hE.2 (by simp; omega) a3 (xt_Tx_ag tx a2 ha) a1 (fun I'' b1 b2 b3 => ?_)
      refine hK I'' ?_ (xa_ag_t a2 b2) b3
      have : xt_tk x L (n + 1) p = (xt_one x L p).1.toList ++ xt_tk x L n (xt_one x L p).2 := by
        show (if _ then _ else _) = _
        rw [if_neg hp]
      rw [this, ← List.append_assoc]; exact b1
theorem xt_read {x : Nat → Nat} {L a : Nat} {I : pI} {R : pR} {Q : pI → pR → Prop} (ok : xt_Ok x L) (ha : ¬ (109 ≤ a ∧ a ≤ 113)) (tx : xt_Tx I a x L)
    (h : ∀ I', xt_TC I' (xt_tk x L 120 0) → xa_ag 109 113 I I' → I' 109 5 = nI L → Q I' R) : w_tk_read a (nI L) I R Q := by
  have hk := ok.1
  unfold w_tk_read
  refine xa_a (xa_a ?_)
  have e : (if (Int32.ofNat 120) < nI L then (Int32.ofNat 120) else nI L) = nI L := by
    rw [if_neg]; exact nI_nlt hk (by decide)
  rw [e]
  have ag : xa_ag 109 113 I (pw_wI (pw_wI I 109 4 0) 109 5 (nI L)) := xa_ag_w (xa_ag_w (xa_ag_r _ _ _) (by decide)) (by decide)
  refine ⟨121, xt_read_loop ok ha 120 0 0 [] _ (by omega) (by omega) (by omega) (by simp) (by rw [xa_w]; simp) (xt_Tx_ag tx ag ha) ⟨?_, ?_⟩ (fun I' a1 a2 a3 => h I' (by simpa using a1) (xa_ag_t ag a2) a3)⟩
  · rw [xa_w, xa_w]; simp; rfl
  · intro i t ht; simp at ht
