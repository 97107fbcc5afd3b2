/-! THE REFERENCE'S TOKENS -/
def xt_ka (k : Nat) : Nat := if k = 256 then 0 else if k = 257 then 3 else if k = 258 then 1 else if k = 259 then 2 else if 260 ≤ k then k - 132 else k
theorem xt_ka_ge {k : Nat} (h : 260 ≤ k) : xt_ka k = k - 132 := by
  unfold xt_ka; rw [if_neg (by omega), if_neg (by omega), if_neg (by omega), if_neg (by omega), if_pos h]
theorem xt_ka_lt {k : Nat} (h : k < 256) : xt_ka k = k := by
  unfold xt_ka; rw [if_neg (by omega), if_neg (by omega), if_neg (by omega), if_neg (by omega), if_neg (by omega)]
def xt_TR (I : pI) (ts : List (Nat × Nat × Nat × Nat)) : Prop := I 121 2 = nI ts.length ∧ ∀ i t, ts[i]? = some t → I 123 i = nI (xt_ka t.1) ∧ (t.1 ≠ 257 → I 124 i = nI t.2.1) ∧ I 125 i = nI t.2.2.1 ∧ I 126 i = nI t.2.2.2
def xt_SR (p k : Nat) : Bool := (p == 121 && k == 2) || (p == 123 || p == 124 || p == 125 || p == 126)
theorem xt_isDigitR {c : Nat} (hc : c < 2 ^ 31) {I : pI} {R : pR} {Q : Int32 → pI → pR → Prop} : w_md_isDigit (nI c) I R Q ↔ Q (if 48 ≤ c ∧ c ≤ 57 then 1 else 0) I R := xt_isDigit hc
theorem xt_isSmallR {c : Nat} (hc : c < 2 ^ 31) {I : pI} {R : pR} {Q : Int32 → pI → pR → Prop} : w_md_isSmall (nI c) I R Q ↔ Q (if 97 ≤ c ∧ c ≤ 122 then 1 else 0) I R := xt_isSmall hc
theorem xt_charAtR {x : Nat → Nat} {L i : Nat} {I : pI} (ok : xt_Ok x L) (hL : I 121 0 = nI L) (tx : xt_Tx I 122 x L) (hi : i < 2 ^ 31) {R : pR} {Q : Int32 → pI → pR → Prop} : w_md_charAt (nI i) I R Q ↔ Q (nI (if i < L then x i else 0)) I R := by
  have hk := ok.1
  unfold w_md_charAt
  rw [hL]
  by_cases h : i < L
  · rw [if_pos h]
    simp (disch := omega) only [nI_leI, nI_clamp, tx i h, xa_in]
    simp [show ¬ L ≤ i by omega]
  · rw [if_neg h]
    simp (disch := omega) only [nI_leI]
    simp [show L ≤ i by omega]; rfl
theorem xt_pairR {c d : Nat} (hc : c < 2 ^ 31) (hd : d < 2 ^ 31) {I : pI} {R : pR} {Q : Int32 → pI → pR → Prop} : w_md_pair (nI c) (nI d) I R Q ↔ Q (nI (if xt_pr c d = 257 then 0 else xt_pr c d - 132)) I R := by
  unfold w_md_pair xt_pr
  simp (disch := omega) only [xa_l61, xa_l33, xa_l60, xa_l62, xa_l38, xa_l124, xa_l0, xa_l128, xa_l129, xa_l130, xa_l131, xa_l132, xa_l133, xa_l134, nI_eq]
  by_cases h1 : d = 61
  · by_cases h2 : c = 61
    · simp [h1, h2]
    · by_cases h3 : c = 33
      · simp [h1, h3]
      · by_cases h4 : c = 60
        · simp [h1, h4]
        · by_cases h5 : c = 62
          · simp [h1, h5]
          · simp [h1, h2, h3, h4, h5]
  · by_cases h2 : c = d
    · by_cases h3 : c = 38
      · simp [h1, ← h2, h3]
      · by_cases h4 : c = 124
        · simp [h1, ← h2, h4]
        · by_cases h5 : c = 62
          · simp [h1, ← h2, h5]
          · simp [h1, ← h2, h3, h4, h5]
            by_cases h6 : c = 61
            · omega
            · simp [h6]
    · simp [h1, h2]
theorem xt_putR {I : pI} {R : pR} {Q : pI → pR → Prop} {ts : List (Nat × Nat × Nat × Nat)} {k v a e : Nat} {k' v' : Int32} (tc : xt_TR I ts) (hl : ts.length < 128) (hk : k' = nI (xt_ka k)) (hv : k ≠ 257 → v' = nI v)
    (h : ∀ I', xt_TR I' (ts ++ [(k, v, a, e)]) → xa_fr xt_SR I I' → Q I' R) : w_md_put k' v' (nI a) (nI e) I R Q := by
  subst hk
  obtain ⟨t1, t2⟩ := tc
  have hb : vp_in (nI ts.length) 128 := vp_in_nI hl (by decide)
  have hc : (nI ts.length).toNatClampNeg = ts.length := nI_clamp (by omega)
  unfold w_md_put
  rw [t1, hc]
  refine ⟨hb, fun I1 e1 => ?_⟩
  have s1 : I1 121 2 = nI ts.length := by rw [e1, xa_w]; simp [t1]
  rw [s1, hc]
  refine ⟨hb, fun I2 e2 => ?_⟩
  have s2 : I2 121 2 = nI ts.length := by rw [e2, xa_w]; simp [s1]
  rw [s2, hc]
  refine ⟨hb, fun I3 e3 => ?_⟩
  have s3 : I3 121 2 = nI ts.length := by rw [e3, xa_w]; simp [s2]
  rw [s3, hc]
  refine ⟨hb, fun I4 e4 => ?_⟩
  have s4 : I4 121 2 = nI ts.length := by rw [e4, xa_w]; simp [s3]
  rw [s4, nI_1]
  intro I5 e5
  refine h I5 ⟨?_, ?_⟩ ?_
  · rw [e5, xa_w]; simp
  · intro i t ht
    have hI : ∀ p', I5 p' i = (if p' = 121 ∧ i = 2 then nI (ts.length + 1) else if p' = 126 ∧ i = ts.length then nI e else if p' = 125 ∧ i = ts.length then nI a else if p' = 124 ∧ i = ts.length then v' else if p' = 123 ∧ i = ts.length then nI (xt_ka k) else I p' i) := by
      intro p'; rw [e5, xa_w, e4, xa_w, e3, xa_w, e2, xa_w, e1, xa_w]
    rcases xa_app ht with ⟨ht', hi⟩ | ⟨hi, rfl⟩
    · have := t2 i t ht'
      simp only [hI, show ¬ i = ts.length by omega]
      simpa using this
    · simp only [hI]; simpa [hi] using hv
  · rw [e5, e4, e3, e2, e1]
    exact xa_fr_w (xa_fr_w (xa_fr_w (xa_fr_w (xa_fr_w (xa_fr_r _ _) rfl) rfl) rfl) rfl) rfl
theorem xt_dv_lt {x : Nat → Nat} {p : Nat} : ∀ k, (∀ j, p ≤ j → j < p + k → 48 ≤ x j ∧ x j ≤ 57) → xt_dv x p k < 10 ^ k := by
  intro k; induction k with
  | zero => intro _; simp [xt_dv]
  | succ k ih =>
    intro h
    have h1 := ih (fun j a b => h j a (by omega))
    have h2 := h (p + k) (by omega) (by omega)
    show xt_dv x p k * 10 + (x (p + k) - 48) < 10 ^ (k + 1)
    rw [Nat.pow_succ]; omega
theorem xt_de_dig (x : Nat → Nat) (L : Nat) : ∀ n p j, p ≤ j → j < xt_de x L n p → 48 ≤ xt_ch x L j ∧ xt_ch x L j ≤ 57 := by
  intro n; induction n with
  | zero => intro p j h1 h2; simp [xt_de] at h2; omega
  | succ n ih =>
    intro p j h1 h2
    unfold xt_de at h2
    split at h2
    · by_cases hj : j = p
      · subst hj; assumption
      · exact ih (p + 1) j (by omega) h2
    · omega
theorem xt_numR_loop {x : Nat → Nat} {L p : Nat} {I : pI} {R : pR} {f1 : Int32} {K : Int32 → Int32 → pI → pR → Prop} {Q : pI → pR → Prop} (ok : xt_Ok x L) (hL : I 121 0 = nI L) (tx : xt_Tx I 122 x L) : ∀ n i v, L ≤ i + n → p ≤ i → i ≤ L → (∀ j, p ≤ j → j < i → 48 ≤ x j ∧ x j ≤ 57) → (i - p ≤ 4 → v = nI (xt_dv x p (i - p))) → (∀ v', (xt_de x L n i - p ≤ 4 → v' = nI (xt_dv x p (xt_de x L n i - p))) → K (nI (xt_de x L n i)) v' I R) → l_md_split_39 f1 K Q (n + 1) (nI i) v I R := by
  have hk := ok.1
  intro n; induction n with
  | zero =>
    intro i v h1 h2 h3 hd hv hK
    unfold l_md_split_39
    rw [xt_charAtR ok hL tx (by omega), if_neg (by omega), xt_isDigitR (by omega), if_neg (by omega)]
    exact xa_t rfl (hK v hv)
  | succ n ih =>
    intro i v h1 h2 h3 hd hv hK
    unfold l_md_split_39
    rw [xt_charAtR ok hL tx (by omega)]
    by_cases hi : i < L
    · have hx := ok.2 i hi
      have hc : xt_ch x L i = x i := by simp [xt_ch, hi]
      rw [if_pos hi, xt_isDigitR (by omega)]
      by_cases hD : 48 ≤ x i ∧ x i ≤ 57
      · rw [if_pos hD]
        have e2 : xt_de x L (n + 1) i = xt_de x L n (i + 1) := by
          show (if _ then _ else _) = _
          rw [if_pos (by rw [hc]; exact hD)]
        rw [e2] at hK
        have hd' : ∀ j, p ≤ j → j < i + 1 → 48 ≤ x j ∧ x j ≤ 57 := fun j a b => by
          by_cases hj : j = i
          · subst hj; exact hD
          · exact hd j a (by omega)
        refine xa_f (by decide) ⟨fun hge => ?_, fun hlt => ?_⟩
        · rw [nI_1]
          refine ih (i + 1) v (by omega) (by omega) (by omega) hd' (fun h4 => ?_) hK
          exfalso
          have e := hv (by omega)
          have b := xt_dv_lt (x := x) (p := p) (i - p) (fun j a b => hd j a (by omega))
          have b2 : 10 ^ (i - p) ≤ 10 ^ 4 := Nat.pow_le_pow_right (by decide) (by omega)
          rw [e] at hge
          have := (xa_lle 10000 (by omega) (by omega)).mp hge
          omega
        · rw [xt_charAtR ok hL tx (by omega), if_pos hi, nI_1]
          refine ih (i + 1) _ (by omega) (by omega) (by omega) hd' (fun h4 => ?_) hK
          rw [hv (by omega)]
          rw [show i + 1 - p = (i - p) + 1 by omega]
          show _ = nI (xt_dv x p (i - p) * 10 + (x (p + (i - p)) - 48))
          rw [show p + (i - p) = i by omega]
          rw [show (10 : Int32) * nI (xt_dv x p (i - p)) = nI (10 * xt_dv x p (i - p)) from pk_mul _ _, nI_add, show nI (10 * xt_dv x p (i - p) + x i) - 48 = nI (10 * xt_dv x p (i - p) + x i - 48) from pk_sub (b := 48) (by omega)]
          congr 1; omega
      · rw [if_neg hD]
        have e2 : xt_de x L (n + 1) i = i := by
          show (if _ then _ else _) = _
          rw [if_neg (by rw [hc]; exact hD)]
        rw [e2] at hK
        exact xa_t rfl (hK v hv)
    · rw [if_neg hi, xt_isDigitR (by omega), if_neg (by omega)]
      have e2 : xt_de x L (n + 1) i = i := by
        show (if _ then _ else _) = _
        rw [if_neg (by simp [xt_ch, hi])]
      rw [e2] at hK
      exact xa_t rfl (hK v hv)
theorem xt_Tx_fr {S : Nat → Nat → Bool} {I I' : pI} {a : Nat} {x : Nat → Nat} {L : Nat} (tx : xt_Tx I a x L) (fr : xa_fr S I I') (ha : ∀ k, S a k = false) : xt_Tx I' a x L := fun i hi => by rw [fr a i (ha i)]; exact tx i hi
theorem xt_split_loop {x : Nat → Nat} {L : Nat} {R : pR} {K : pI → pR → Prop} {Q : pI → pR → Prop} (ok : xt_Ok x L) : ∀ n p ts I, L ≤ p + n → p ≤ L → ts.length ≤ p → I 121 0 = nI L → xt_Tx I 122 x L → xt_TR I ts → (∀ I', xt_TR I' (ts ++ xt_tk x L n p) → xa_fr xt_SR I I' → K I' R) → l_md_split_7 K Q (n + 1) (nI p) I R := by
  have hk := ok.1
  intro n; induction n with
  | zero =>
    intro p ts I h2 h3 h4 hL tx tc hK
    unfold l_md_split_7
    rw [hL]
    refine xa_t ((nI_leI (by omega) (by omega)).mpr (by omega)) ?_
    exact hK I (by simpa [xt_tk] using tc) (xa_fr_r _ _)
  | succ n ih =>
    intro p ts I h2 h3 h4 hL tx tc hK
    unfold l_md_split_7
    rw [hL]
    by_cases hp : L ≤ p
    · refine xa_t ((nI_leI (by omega) (by omega)).mpr hp) ?_
      exact hK I (by simpa [xt_tk, hp] using tc) (xa_fr_r _ _)
    · refine xa_f (fun hh => hp ((nI_leI (by omega) (by omega)).mp hh)) ⟨vp_in_nI (by omega) (by omega), ?_⟩
      have hE := xt_one_end (x := x) (L := L) (p := p) (by omega)
      have hlen := xt_one_len (x := x) (L := L) (p := p)
      have hx := ok.2 p (by omega)
      have h2' := xt_ch_lt (i := p + 1) ok
      have hcont : ∀ I', xt_TR I' (ts ++ (xt_one x L p).1.toList) → xa_fr xt_SR I I' → l_md_split_7 K Q (n + 1) (nI (xt_one x L p).2) I' R := by
        intro I' a1 a2
        refine ih _ (ts ++ (xt_one x L p).1.toList) I' (by omega) hE.2 (by simp; omega) (by rw [a2 121 0 rfl]; exact hL) (xt_Tx_fr tx a2 (fun k => rfl)) a1 (fun I'' b1 b2 => ?_)
        refine hK I'' ?_ (xa_fr_t a2 b2)
        have : xt_tk x L (n + 1) p = (xt_one x L p).1.toList ++ xt_tk x L n (xt_one x L p).2 := by
          show (if _ then _ else _) = _
          rw [if_neg hp]
        rw [this, ← List.append_assoc]; exact b1
      rw [nI_clamp (by omega), tx p (by omega), xt_isDigitR (by omega)]
      by_cases hd : 48 ≤ x p ∧ x p ≤ 57
      · rw [if_pos hd]
        refine xa_f (by decide) ?_
        have e32 : ¬ x p = 32 := by omega
        have e : xt_one x L p = (some (if 4 < xt_de x L (L - p) p - p then 257 else 258, xt_dv x p (xt_de x L (L - p) p - p), p, xt_de x L (L - p) p), xt_de x L (L - p) p) := by
          unfold xt_one; rw [if_neg e32, if_pos hd]
        rw [e] at hcont
        have hge := xt_de_ge x L (L - p) p
        have hle := xt_de_le x L (L - p) p (by omega)
        have hde : xt_de x L (L - p) p = xt_de x L (L - (p + 1)) (p + 1) := by
          rw [show L - p = (L - (p + 1)) + 1 by omega]
          show (if _ then _ else _) = _
          rw [if_pos (by simpa [xt_ch, show p < L by omega] using hd)]
        refine ⟨L - (p + 1) + 1, ?_⟩
        rw [nI_1]
        refine xt_numR_loop (p := p) ok hL tx (L - (p + 1)) (p + 1) _ (by omega) (by omega) (by omega) (fun j a b => by rw [show j = p by omega]; exact hd) (fun _ => ?_) (fun v' hv' => ?_)
        · rw [show p + 1 - p = 1 by omega, show nI (x p) - 48 = nI (x p - 48) from pk_sub hd.1]
          show _ = nI (0 * 10 + (x (p + 0) - 48))
          simp
        · rw [← hde] at hv' ⊢
          rw [pk_sub hge]
          by_cases h4 : 4 < xt_de x L (L - p) p - p
          · rw [if_pos h4] at hcont
            refine xa_f (fun hh => by have := (xa_lel 4 (by omega) (by omega)).mp hh; omega) ?_
            exact xt_putR (k := 257) tc (by omega) rfl (fun h => absurd rfl h) hcont
          · rw [if_neg h4] at hcont
            refine xa_t ((xa_lel 4 (by omega) (by omega)).mpr (by omega)) ?_
            exact xt_putR (k := 258) tc (by omega) rfl (fun _ => hv' (by omega)) hcont
      · rw [if_neg hd]
        refine xa_t rfl ?_
        rw [xt_isSmallR (by omega)]
        by_cases hs : 97 ≤ x p ∧ x p ≤ 122
        · rw [if_pos hs]
          refine xa_f (by decide) ?_
          have hp2 : xt_pr (x p) (xt_ch x L (p + 1)) = 257 := by
            unfold xt_pr
            simp [show ¬ x p = 61 by omega, show ¬ x p = 33 by omega, show ¬ x p = 60 by omega, show ¬ x p = 62 by omega, show ¬ x p = 38 by omega, show ¬ x p = 124 by omega]
          have e : xt_one x L p = (some (259, x p - 97, p, p + 1), p + 1) := by
            unfold xt_one; rw [if_neg (by omega), if_neg hd, if_neg (fun hn => hn hp2), if_pos hs]
          rw [e] at hcont
          rw [show nI (x p) - 97 = nI (x p - 97) from pk_sub hs.1, nI_1]
          exact xt_putR (k := 259) tc (by omega) rfl (fun _ => rfl) hcont
        · rw [if_neg hs]
          refine xa_t rfl ?_
          by_cases e32 : x p = 32
          · refine xa_t ((xa_eql 32 (by omega) (by omega)).mpr e32) ?_
            have e : xt_one x L p = (none, p + 1) := by unfold xt_one; rw [if_pos e32]
            rw [e] at hcont
            rw [nI_1]
            exact hcont I (by simpa using tc) (xa_fr_r _ _)
          · refine xa_f (fun hh => e32 ((xa_eql 32 (by omega) (by omega)).mp hh)) ?_
            have hb0 : (if p + 1 < L then x (p + 1) else 0) < 2 ^ 31 := by
              split
              · have := (ok.2 (p + 1) ‹_›).2; omega
              · decide
            have epr : xt_pr (x p) (if p + 1 < L then x (p + 1) else 0) = xt_pr (x p) (xt_ch x L (p + 1)) := by
              unfold xt_ch
              by_cases h : p + 1 < L
              · rw [if_pos h, if_pos h]
              · rw [if_neg h, if_neg h, xt_pr32]
                unfold xt_pr
                simp [show ¬ x p = 0 by omega]
            have hpr := xt_pr_lt (x p) (xt_ch x L (p + 1))
            rw [nI_1, xt_charAtR ok hL tx (by omega), xt_pairR (by omega) hb0, epr, nI_1]
            by_cases hp2 : xt_pr (x p) (xt_ch x L (p + 1)) = 257
            · rw [if_pos hp2]
              refine xa_t (by decide) ?_
              unfold j_md_split_158
              refine xa_t (by decide) ?_
              have e : xt_one x L p = (some (if x p = 38 then 257 else x p, 0, p, p + 1), p + 1) := by
                unfold xt_one; rw [if_neg e32, if_neg hd, if_neg (fun hn => hn hp2), if_neg hs]
              rw [e] at hcont
              by_cases h38 : x p = 38
              · rw [if_pos h38] at hcont
                refine xa_t' ((xa_eql 38 (by omega) (by omega)).mpr h38) ?_
                exact xt_putR (k := 257) tc (by omega) rfl (fun h => absurd rfl h) hcont
              · rw [if_neg h38] at hcont
                refine xa_f' (fun hh => h38 ((xa_eql 38 (by omega) (by omega)).mp hh)) ?_
                refine xt_putR (k := x p) tc (by omega) ?_ (fun _ => rfl) hcont
                exact congrArg nI (xt_ka_lt (by omega)).symm
            · rw [if_neg hp2]
              have hge : 260 ≤ xt_pr (x p) (xt_ch x L (p + 1)) := by
                have := hp2; revert this
                unfold xt_pr
                repeat' split
                all_goals simp
              refine xa_f (fun hh => by have := (xa_lel 0 (by omega) (by omega)).mp hh; omega) ?_
              unfold j_md_split_158
              refine xa_f (fun hh => by have := (xa_lel 0 (by omega) (by omega)).mp hh; omega) ?_
              have e : xt_one x L p = (some (xt_pr (x p) (xt_ch x L (p + 1)), 0, p, p + 2), p + 2) := by
                unfold xt_one; rw [if_neg e32, if_neg hd, if_pos hp2]
              rw [e] at hcont
              refine xt_putR (k := xt_pr (x p) (xt_ch x L (p + 1))) tc (by omega) ?_ (fun _ => rfl) hcont
              exact congrArg nI (xt_ka_ge hge).symm
theorem xt_end_loop {L : Nat} {R : pR} {K : pI → pR → Prop} {Q : pI → pR → Prop} : ∀ n k ts I, k + n = 6 → ts.length + n < 128 → I 121 0 = nI L → xt_TR I ts → (∀ I', xt_TR I' (ts ++ List.replicate n (256, 0, L, L)) → xa_fr xt_SR I I' → K I' R) → l_md_split_194 K Q (n + 1) (nI k) I R := by
  intro n; induction n with
  | zero =>
    intro k ts I h1 h2 hL tc hK
    unfold l_md_split_194
    refine xa_t ((xa_lle 6 (by omega) (by omega)).mpr (by omega)) ?_
    exact hK I (by simpa using tc) (xa_fr_r _ _)
  | succ n ih =>
    intro k ts I h1 h2 hL tc hK
    unfold l_md_split_194
    refine xa_f (fun hh => by have := (xa_lle 6 (by omega) (by omega)).mp hh; omega) ?_
    rw [hL, nI_1]
    refine xt_putR (k := 256) (v := 0) tc (by omega) rfl (fun _ => rfl) (fun I' a1 a2 => ?_)
    refine ih (k + 1) _ I' (by omega) (by simp; omega) (by rw [a2 121 0 rfl]; exact hL) a1 (fun I'' b1 b2 => hK I'' ?_ (xa_fr_t a2 b2))
    rw [List.replicate_succ, List.append_cons]; exact b1
theorem xt_tk_len {x : Nat → Nat} {L : Nat} : ∀ n p, p ≤ L → (xt_tk x L n p).length + p ≤ L := by
  intro n; induction n with
  | zero => intro p h; simpa [xt_tk] using h
  | succ n ih =>
    intro p h
    unfold xt_tk
    split
    · simpa using h
    · have hE := xt_one_end (x := x) (L := L) (p := p) (by omega)
      have hlen := xt_one_len (x := x) (L := L) (p := p)
      have := ih (xt_one x L p).2 hE.2
      rw [List.length_append]; omega
theorem xt_split {x : Nat → Nat} {L : Nat} {I : pI} {R : pR} {Q : pI → pR → Prop} (ok : xt_Ok x L) (hL : I 121 0 = nI L) (tx : xt_Tx I 122 x L)
    (h : ∀ I', xt_TR I' (xt_tk x L 120 0 ++ List.replicate 6 (256, 0, L, L)) → xa_fr xt_SR I I' → Q I' R) : w_md_split I R Q := by
  have hk := ok.1
  unfold w_md_split
  refine xa_a ?_
  have fr : xa_fr xt_SR I (pw_wI I 121 2 0) := xa_fr_w (xa_fr_r _ _) rfl
  refine ⟨121, xt_split_loop ok 120 0 [] _ (by omega) (by omega) (by simp) (by rw [fr 121 0 rfl]; exact hL) (xt_Tx_fr tx fr (fun _ => rfl)) ⟨?_, ?_⟩ (fun I' a1 a2 => ?_)⟩
  · rw [xa_w]; simp; rfl
  · intro i t ht; simp at ht
  · have hl := xt_tk_len (x := x) (L := L) 120 0 (by omega)
    refine ⟨7, xt_end_loop (L := L) 6 0 _ I' (by omega) ?_ ?_ a1 (fun I'' b1 b2 => h I'' (by simpa using b1) (xa_fr_t fr (xa_fr_t a2 b2)))⟩
    · simp; omega
    · rw [a2 121 0 rfl, fr 121 0 rfl]; exact hL
