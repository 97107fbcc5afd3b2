/-! BOTH SIDES TYPE -/
theorem yt_hi (i : Nat) (h8 : ¬ i < 8) : (255#64).getLsbD i = false := by
  have h : 255 < 2 ^ i := by
    have : 2 ^ 8 ≤ 2 ^ i := Nat.pow_le_pow_right (by decide) (by omega)
    omega
  show (255#64).toNat.testBit i = false
  exact Nat.testBit_lt_two_pow h
theorem yt_key (b : BitVec 64) (n : Nat) (h : n ≤ 56) : (b.sshiftRight n) &&& 255#64 = (b >>> n) &&& 255#64 := by
  apply BitVec.eq_of_getLsbD_eq
  intro i hi'
  rw [BitVec.getLsbD_and, BitVec.getLsbD_and]
  by_cases h8 : i < 8
  · rw [BitVec.getLsbD_sshiftRight, BitVec.getLsbD_ushiftRight]
    have : n + i < 64 := by omega
    simp [this, show ¬ 64 ≤ i by omega]
  · simp [yt_hi i h8]
def yt_v (f : Int64) (k : Nat) : Nat := ((f.toBitVec >>> (8 * k)) &&& 255#64).toNat
theorem yt_lt (f : Int64) (k : Nat) : yt_v f k < 256 := by
  unfold yt_v
  rw [BitVec.toNat_and]
  exact Nat.lt_of_le_of_lt Nat.and_le_right (by decide)
theorem yt_I (b : BitVec 64) : (Int64.ofBitVec b).toInt32 = Int32.ofNat b.toNat := by
  apply Int32.toBitVec_inj.mp
  show b.signExtend 32 = BitVec.ofNat 32 b.toNat
  rw [BitVec.signExtend_eq_setWidth_of_le _ (by decide)]
  apply BitVec.eq_of_toNat_eq
  simp
theorem yt_0 (f : Int64) {k : Nat} (hk : k < 8) : ((f >>> (((8 : Int32) * nI k).toInt64 &&& 63)) &&& (255 : Int64)).toInt32 = nI (yt_v f k) ∧ ((f.toUInt64 >>> (((8 : Int32) * nI k).toInt64.toUInt64 &&& Int64.toUInt64 63)).toInt64 &&& (255 : Int64)).toInt32 = nI (yt_v f k) := by
  have h2 : (Int64.ofBitVec ((f.toBitVec >>> (8 * k)) &&& 255#64)).toInt32 = nI (yt_v f k) := yt_I _
  have h1 : (Int64.ofBitVec ((f.toBitVec.sshiftRight (8 * k)) &&& 255#64)).toInt32 = nI (yt_v f k) := by rw [yt_key _ _ (by omega)]; exact h2
  rcases (show k = 0 ∨ k = 1 ∨ k = 2 ∨ k = 3 ∨ k = 4 ∨ k = 5 ∨ k = 6 ∨ k = 7 by omega) with rfl | rfl | rfl | rfl | rfl | rfl | rfl | rfl <;> exact ⟨h1, h2⟩
theorem yt_2 (n : Nat) (h : n < 256) : ((nI n).toUInt32 % 65536).toInt32 = nI n := by
  apply Int32.toInt_inj.mp
  show (BitVec.ofNat 32 n % 65536#32).toInt = (BitVec.ofNat 32 n).toInt
  congr 1
  apply BitVec.eq_of_toNat_eq
  rw [BitVec.toNat_umod]
  simp; omega
def yt_ca (n : Nat) : Prop := n = 71 ∨ n = 87 ∨ n = 84 ∨ n = 69 ∨ n = 67 ∨ n = 68 ∨ n = 77 ∨ n = 78 ∨ n = 79 ∨ n = 88
def yt_sg (n : Nat) : Prop := (40 ≤ n ∧ n ≤ 45) ∨ n = 47 ∨ n = 37 ∨ (58 ≤ n ∧ n ≤ 62) ∨ n = 33 ∨ n = 124 ∨ n = 95
theorem yt_cap {n : Nat} (hn : n < 256) {I : pI} {R : pR} {Q : Int32 → pI → pR → Prop} (h1 : yt_ca n → Q 1 I R) (h0 : ¬ yt_ca n → Q 0 I R) : w_md_isCapital (nI n) I R Q := by
  unfold yt_ca at h1 h0
  unfold w_md_isCapital
  simp (disch := omega) only [xa_l71, xa_l87, xa_l84, xa_l69, xa_l67, xa_l68, xa_l77, xa_l78, xa_l79, xa_l88, nI_eq]
  exact ⟨fun h => h1 (by omega), fun _ => ⟨fun h => h1 (by omega), fun _ => ⟨fun h => h1 (by omega), fun _ => ⟨fun h => h1 (by omega), fun _ => ⟨fun h => h1 (by omega), fun _ => ⟨fun h => h1 (by omega), fun _ => ⟨fun h => h1 (by omega), fun _ => ⟨fun h => h1 (by omega), fun _ => ⟨fun h => h1 (by omega), fun _ => ⟨fun _ => h0 (by omega), fun h => h1 (by omega)⟩⟩⟩⟩⟩⟩⟩⟩⟩⟩
theorem yt_sign {n : Nat} (hn : n < 256) {I : pI} {R : pR} {Q : Int32 → pI → pR → Prop} (h1 : yt_sg n → Q 1 I R) (h0 : ¬ yt_sg n → Q 0 I R) : w_md_isSign (nI n) I R Q := by
  unfold yt_sg at h1 h0
  unfold w_md_isSign j_md_isSign_12 j_md_isSign_36
  simp (disch := omega) only [xa_l40, xa_l45, xa_l47, xa_l37, xa_l58, xa_l62, xa_l33, xa_l124, xa_l95, nI_eq, nI_ltI, nI_leI]
  refine ⟨fun a => ⟨fun h => h1 (by omega), fun _ => ⟨fun h => h1 (by omega), fun _ => ⟨fun _ => ⟨fun h => h1 (by omega), fun _ => ⟨fun h => h1 (by omega), fun _ => ⟨fun _ => h0 (by omega), fun h => h1 (by omega)⟩⟩⟩, fun _ => ⟨fun h => h1 (by omega), fun _ => ⟨fun h => h1 (by omega), fun _ => ⟨fun h => h1 (by omega), fun _ => ⟨fun _ => h0 (by omega), fun h => h1 (by omega)⟩⟩⟩⟩⟩⟩⟩, fun a => ⟨fun h => h1 (by omega), fun _ => ⟨fun h => h1 (by omega), fun _ => ⟨fun h => h1 (by omega), fun _ => ⟨fun _ => ⟨fun h => h1 (by omega), fun _ => ⟨fun h => h1 (by omega), fun _ => ⟨fun _ => h0 (by omega), fun h => h1 (by omega)⟩⟩⟩, fun _ => ⟨fun h => h1 (by omega), fun _ => ⟨fun h => h1 (by omega), fun _ => ⟨fun h => h1 (by omega), fun _ => ⟨fun _ => h0 (by omega), fun h => h1 (by omega)⟩⟩⟩⟩⟩⟩⟩⟩⟩
/-- what may be typed -/
def yt_ok (n : Nat) : Prop := (97 ≤ n ∧ n ≤ 122) ∨ (48 ≤ n ∧ n ≤ 57) ∨ yt_ca n ∨ yt_sg n ∨ n = 32 ∨ n = 38
theorem yt_ix : ∀ n, n < 256 → (decide (pw_ix (nI n).toInt8.toInt32 28 0 < 0) = !(decide (n = 71 ∨ n = 87 ∨ n = 84 ∨ n = 69 ∨ n = 67 ∨ n = 68 ∨ n = 77 ∨ n = 78 ∨ n = 79 ∨ n = 88) || decide ((40 ≤ n ∧ n ≤ 45) ∨ n = 47 ∨ n = 37 ∨ (58 ≤ n ∧ n ≤ 62) ∨ n = 33 ∨ n = 124 ∨ n = 95) || decide (n = 32) || decide (n = 38))) := by
  set_option maxRecDepth 100000 in decide
theorem yt_may {n : Nat} (hn : n < 256) {I : pI} {R : pR} {Q : Int32 → pI → pR → Prop} (h1 : yt_ok n → Q 1 I R) (h0 : ¬ yt_ok n → Q 0 I R) : w_sr_mayBeTyped (nI n) I R Q := by
  have hi := yt_ix n hn
  unfold yt_ok yt_ca yt_sg at h1 h0
  unfold w_sr_mayBeTyped
  refine (xt_isSmall (by omega)).mpr ?_
  by_cases hs : 97 ≤ n ∧ n ≤ 122
  · rw [if_pos hs]; exact xa_f' (by decide) (h1 (by omega))
  · rw [if_neg hs]
    refine xa_t' rfl ((xt_isDigit (by omega)).mpr ?_)
    by_cases hd : 48 ≤ n ∧ n ≤ 57
    · rw [if_pos hd]; exact xa_f' (by decide) (h1 (by omega))
    · rw [if_neg hd]
      refine xa_t' rfl ⟨nI_pos (by omega), fun h => by have := (xa_llt 255 (by omega) (by omega)).mp h; omega, fun h => h0 ?_, fun h => h1 ?_⟩
      · rw [decide_eq_true h] at hi
        have hi' := hi.symm
        simp only [Bool.not_eq_true', Bool.or_eq_false_iff, decide_eq_false_iff_not] at hi'
        omega
      · rw [decide_eq_false h] at hi
        have hi' := hi.symm
        simp only [Bool.not_eq_false', Bool.or_eq_true, decide_eq_true_eq] at hi'
        omega
theorem yt_char (f : Int64) {k : Nat} (hk : k < 8) {I : pI} {R : pR} {Q : Int32 → pI → pR → Prop} (h : Q (nI (yt_v f k)) I R) : w_sr_characterOf f (nI k) I R Q := by
  have hl := yt_lt f k
  unfold w_sr_characterOf
  rw [(yt_0 f hk).2, yt_2 _ hl]
  exact ⟨xa_ch (by omega), h⟩
section
variable {f : Int64} {n : Nat}
theorem yt_c27 {I : pI} {R : pR} {K : pI → pR → Prop} {Q : Int32 → pI → pR → Prop} (hn : n ≤ 8) : ∀ m i, i + m = n → ((∀ j, j < n → i ≤ j → yt_ok (yt_v f (n - 1 - j))) → K I R) → ((∃ j, j < n ∧ ¬ yt_ok (yt_v f (n - 1 - j))) → Q 0 I R) → l_sr_type_27 f (nI n) K Q (m + 1) (nI i) I R := by
  intro m; induction m with
  | zero =>
    intro i hi hK hQ
    unfold l_sr_type_27
    exact xa_t ((nI_leI (by omega) (by omega)).mpr (by omega)) (hK (fun j h1 h2 => by omega))
  | succ m ih =>
    intro i hi hK hQ
    unfold l_sr_type_27
    rw [xa_m1 (by omega), pk_sub (by omega), nI_1]
    refine xa_f (fun h => by have := (nI_leI (by omega) (by omega)).mp h; omega) (yt_char f (by omega) (yt_may (yt_lt f _) (fun h => xa_f' (by decide) ?_) (fun h => xa_t' rfl (hQ ⟨i, by omega, h⟩))))
    refine ih (i + 1) (by omega) (fun h' => hK (fun j h1 h2 => ?_)) hQ
    by_cases hj : j = i
    · subst hj; exact h
    · exact h' j h1 (by omega)
theorem yt_c60 {R : pR} {x : Nat → Nat} {L : Nat} {K : pI → pR → Prop} {Q : Int32 → pI → pR → Prop} (hn : n ≤ 8) (hL : L + n ≤ 120) : ∀ m i I, i + m = n → I 0 5 = nI (L + i) → (∀ j, j < L + i → I 1 j = nI (if j < L then x j else yt_v f (n - 1 - (j - L)))) → (∀ I', I' 0 5 = nI (L + n) → (∀ j, j < L + n → I' 1 j = nI (if j < L then x j else yt_v f (n - 1 - (j - L)))) → (∀ p k, ¬ (p = 0 ∧ k = 5) → p ≠ 1 → I' p k = I p k) → K I' R) → l_sr_type_60 f (nI n) K Q (m + 1) (nI i) I R := by
  intro m; induction m with
  | zero =>
    intro i I hi h5 hx hK
    unfold l_sr_type_60
    have : i = n := by omega
    subst this
    exact xa_t ((nI_leI (by omega) (by omega)).mpr (by omega)) (hK I h5 hx (fun _ _ _ _ => rfl))
  | succ m ih =>
    intro i I hi h5 hx hK
    unfold l_sr_type_60
    rw [xa_m1 (by omega), pk_sub (by omega), nI_1, h5]
    refine xa_f (fun h => by have := (nI_leI (by omega) (by omega)).mp h; omega) (xa_f (fun h => by have := (xa_lle 120 (by omega) (by omega)).mp h; omega) (yt_char f (by omega) ⟨vp_in_nI (by omega) (by omega), xa_a ?_⟩))
    have hl := yt_lt f (n - 1 - i)
    rw [nI_clamp (by omega), xd_ch (by omega), xa_p (by decide), h5, nI_1]
    refine xa_a (ih (i + 1) _ (by omega) (by rw [xa_w, if_pos ⟨rfl, rfl⟩]; rfl) (fun j hj => ?_) (fun I' a b c => hK I' a b (fun p k h1 h2 => by rw [c p k h1 h2, xa_w, if_neg h1, xa_p h2])))
    rw [xa_p (by decide), xa_w]
    by_cases hjj : j = L + i
    · rw [if_pos ⟨rfl, hjj⟩, if_neg (by omega)]; congr 2; omega
    · rw [if_neg (by omega)]; exact hx j (by omega)
theorem yt_r27 {I : pI} {R : pR} {K : pI → pR → Prop} {Q : Int32 → pI → pR → Prop} (hn : n ≤ 8) : ∀ m i, i + m = n → ((∀ j, j < n → i ≤ j → yt_ok (yt_v f j)) → K I R) → ((∃ j, j < n ∧ ¬ yt_ok (yt_v f j)) → Q 0 I R) → l_md_type_27 f (nI n) K Q (m + 1) (nI i) I R := by
  intro m; induction m with
  | zero =>
    intro i hi hK hQ
    unfold l_md_type_27
    exact xa_t ((nI_leI (by omega) (by omega)).mpr (by omega)) (hK (fun j h1 h2 => by omega))
  | succ m ih =>
    intro i hi hK hQ
    have hl := yt_lt f i
    have next : yt_ok (yt_v f i) → l_md_type_27 f (nI n) K Q (m + 1) (nI i + 1) I R := by
      intro h
      rw [nI_1]
      refine ih (i + 1) (by omega) (fun h' => hK (fun j h1 h2 => ?_)) hQ
      by_cases hj : j = i
      · subst hj; exact h
      · exact h' j h1 (by omega)
    unfold l_md_type_27
    rw [(yt_0 f (k := i) (by omega)).1]
    refine xa_f (fun h => by have := (nI_leI (by omega) (by omega)).mp h; omega) ((xt_isDigitR (by omega)).mpr ?_)
    by_cases hd : 48 ≤ yt_v f i ∧ yt_v f i ≤ 57
    · rw [if_pos hd]; exact xa_f' (by decide) (next (Or.inr (Or.inl hd)))
    · rw [if_neg hd]
      refine xa_t' rfl ((xt_isSmallR (by omega)).mpr ?_)
      by_cases hs : 97 ≤ yt_v f i ∧ yt_v f i ≤ 122
      · rw [if_pos hs]; exact xa_f' (by decide) (next (Or.inl hs))
      · rw [if_neg hs]
        refine xa_t' rfl (yt_cap hl (fun h => xa_f' (by decide) (next (Or.inr (Or.inr (Or.inl h))))) (fun hc => xa_t' rfl (yt_sign hl (fun h => xa_f' (by decide) (next (Or.inr (Or.inr (Or.inr (Or.inl h)))))) (fun hg => xa_t' rfl ?_))))
        by_cases h32 : yt_v f i = 32
        · exact xa_t (xa_e 32 h32) (next (Or.inr (Or.inr (Or.inr (Or.inr (Or.inl h32))))))
        · refine xa_f (xa_ne 32 (by omega)) ?_
          by_cases h38 : yt_v f i = 38
          · exact xa_t (xa_e 38 h38) (next (Or.inr (Or.inr (Or.inr (Or.inr (Or.inr h38))))))
          · exact xa_f (xa_ne 38 (by omega)) (hQ ⟨i, by omega, fun h => by
              unfold yt_ok at h
              rcases h with h | h | h | h | h | h
              · exact hs h
              · exact hd h
              · exact hc h
              · exact hg h
              · exact h32 h
              · exact h38 h⟩)
theorem yt_r106 {R : pR} {x : Nat → Nat} {L : Nat} {K : pI → pR → Prop} {Q : Int32 → pI → pR → Prop} (hn : n ≤ 8) (hL : L + n ≤ 120) : ∀ m i I, i + m = n → I 121 0 = nI (L + i) → (∀ j, j < L + i → I 122 j = nI (if j < L then x j else yt_v f (n - 1 - (j - L)))) → (∀ I', I' 121 0 = nI (L + n) → (∀ j, j < L + n → I' 122 j = nI (if j < L then x j else yt_v f (n - 1 - (j - L)))) → (∀ p k, ¬ (p = 121 ∧ k = 0) → p ≠ 122 → I' p k = I p k) → K I' R) → l_md_type_106 f K Q (m + 1) (nI m - 1) I R := by
  intro m; induction m with
  | zero =>
    intro i I hi h5 hx hK
    unfold l_md_type_106
    have : i = n := by omega
    subst this
    exact xa_t (by decide) (hK I h5 hx (fun _ _ _ _ => rfl))
  | succ m ih =>
    intro i I hi h5 hx hK
    have em : nI m + (-1) = nI m - 1 := by rw [Int32.sub_eq_add_neg]
    unfold l_md_type_106
    rw [nI_pred, em, h5, (yt_0 f (k := m) (by omega)).1, nI_clamp (by omega)]
    refine xa_f (nI_pos (by omega)) ⟨vp_in_nI (by omega) (by omega), xa_a ?_⟩
    rw [xa_p (by decide), h5, nI_1]
    refine xa_a (ih (i + 1) _ (by omega) (by rw [xa_w, if_pos ⟨rfl, rfl⟩]; rfl) (fun j hj => ?_) (fun I' a b c => hK I' a b (fun p k h1 h2 => by rw [c p k h1 h2, xa_w, if_neg h1, xa_p h2])))
    rw [xa_p (by decide), xa_w]
    by_cases hjj : j = L + i
    · rw [if_pos ⟨rfl, hjj⟩, if_neg (by omega)]; congr 2; omega
    · rw [if_neg (by omega)]; exact hx j (by omega)
end
theorem yt_okb {n : Nat} (h : yt_ok n) : 32 ≤ n ∧ n < 127 := by
  unfold yt_ok yt_ca yt_sg at h
  omega
/-- both type -/
theorem yt_type {I : pI} {R : pR} {f : Int64} {a : Int32} {L : Nat} {x : Nat → Nat} {P : Int32 → Int32 → pI → pR → Prop} {W : Int32 → pI → pR → Prop} (hW : ∀ v I1 R1, w_md_type f a I1 R1 (fun v2 I2 R2 => P v v2 I2 R2) → W v I1 R1) (ok : xt_Ok x L) (h5 : I 0 5 = nI L) (tx : xt_Tx I 1 x L) (h0 : I 121 0 = nI L) (tx2 : xt_Tx I 122 x L)
    (hn : P 0 0 I R) (hy : ∀ L' x' I', xt_Ok x' L' → I' 0 5 = nI L' → xt_Tx I' 1 x' L' → I' 121 0 = nI L' → xt_Tx I' 122 x' L' → (∀ p k, ¬ (p = 0 ∧ k = 5) → p ≠ 1 → ¬ (p = 121 ∧ k = 0) → p ≠ 122 → I' p k = I p k) → P 1 1 I' R) : w_sr_type f a I R (fun v1 I1 R1 => W v1 I1 R1) := by
  have hL := ok.1
  unfold w_sr_type
  by_cases h1 : a < 1
  · refine xa_t h1 ?_
    refine hW _ _ _ ?_
    unfold w_md_type
    exact xa_t h1 hn
  · obtain ⟨n, hn31, rfl⟩ := yi_nn (a := a) (fun h => h1 (by
      have := Int32.lt_iff_toInt_lt.mp h
      exact Int32.lt_iff_toInt_lt.mpr (by
        have e0 : (0 : Int32).toInt = 0 := rfl
        have e1 : (1 : Int32).toInt = 1 := rfl
        omega)))
    have hn1 : 1 ≤ n := by
      by_cases h : n = 0
      · subst h; exact absurd (by decide) h1
      · omega
    refine xa_f h1 ?_
    by_cases h8 : 8 < n
    · have : (8 : Int32) < nI n := (xa_llt 8 hn31 (by omega)).mpr h8
      refine xa_t this ?_
      refine hW _ _ _ ?_
      unfold w_md_type
      exact xa_f h1 (xa_t this hn)
    · have h8' : ¬ (8 : Int32) < nI n := fun h => h8 ((xa_llt 8 hn31 (by omega)).mp h)
      refine xa_f h8' ?_
      rw [h5, nI_add]
      by_cases h120 : L + n ≤ 120
      · have c120 : nI (L + n) ≤ (120 : Int32) := (xa_lel 120 (by omega) (by omega)).mpr h120
        refine xa_t c120 ⟨n + 1, yt_c27 (by omega) n 0 (by omega) (fun hok => ⟨n + 1, yt_c60 (x := x) (L := L) (by omega) h120 n 0 I (by omega) h5 (fun j hj => by rw [if_pos (by omega)]; exact tx j (by omega)) (fun I1 k5 kx ko => ?_)⟩) (fun hno => ?_)⟩
        · have hok' : ∀ j, j < n → yt_ok (yt_v f j) := fun j hj => by
            have := hok (n - 1 - j) (by omega) (by omega)
            rw [show n - 1 - (n - 1 - j) = j by omega] at this; exact this
          refine hW _ _ _ ?_
          unfold w_md_type
          have k0 : I1 121 0 = nI L := by rw [ko _ _ (by decide) (by decide)]; exact h0
          refine xa_f h1 (xa_f h8' ?_)
          rw [k0, nI_add]
          refine xa_t c120 ⟨n + 1, yt_r27 (by omega) n 0 (by omega) (fun _ => ⟨n + 1, ?_⟩) (fun ⟨j, hj, hj2⟩ => absurd (hok' j hj) hj2)⟩
          refine yt_r106 (x := x) (L := L) (by omega) h120 n 0 I1 (by omega) k0 (fun j hj => by rw [if_pos (by omega), ko _ _ (by omega) (by omega)]; exact tx2 j (by omega)) (fun I2 m0 mx mo => ?_)
          refine hy (L + n) (fun j => if j < L then x j else yt_v f (n - 1 - (j - L))) I2 ⟨h120, fun j hj => ?_⟩ (by rw [mo _ _ (by decide) (by decide)]; exact k5) (fun j hj => by rw [mo _ _ (by omega) (by omega)]; exact kx j hj) m0 mx (fun p k a b c d => by rw [mo p k c d, ko p k a b])
          show 32 ≤ (if j < L then x j else yt_v f (n - 1 - (j - L))) ∧ _
          by_cases hjL : j < L
          · simp only [hjL, if_true]; exact ok.2 j hjL
          · simp only [hjL, if_false]; exact yt_okb (hok' _ (by omega))
        · refine hW _ _ _ ?_
          unfold w_md_type
          refine xa_f h1 (xa_f h8' ?_)
          rw [h0, nI_add]
          obtain ⟨j, hj, hj2⟩ := hno
          refine xa_t c120 ⟨n + 1, yt_r27 (by omega) n 0 (by omega) (fun hok => absurd (hok (n - 1 - j) (by omega) (by omega)) hj2) (fun _ => hn)⟩
      · have c120 : ¬ nI (L + n) ≤ (120 : Int32) := fun h => h120 ((xa_lel 120 (by omega) (by omega)).mp h)
        refine xa_f c120 ?_
        refine hW _ _ _ ?_
        unfold w_md_type
        refine xa_f h1 (xa_f h8' ?_)
        rw [h0, nI_add]
        exact xa_f c120 hn
