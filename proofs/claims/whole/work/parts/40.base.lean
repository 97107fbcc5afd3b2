/-! PURE BASICS -/
theorem xa_w (I : pI) (p k : Nat) (v : Int32) (p' k' : Nat) : pw_wI I p k v p' k' = if p' = p ∧ k' = k then v else I p' k' := by
  unfold pw_wI
  by_cases h : p' = p
  · subst h
    by_cases hk : k' = k
    · subst hk; simp [pk_us]
    · simp [pk_un hk, hk]
  · simp [h]
theorem xa_p {I : pI} {p k : Nat} {v : Int32} {p' : Nat} (h : ¬ p' = p) : pw_wI I p k v p' = I p' := pw_wI_ne h
theorem xa_n (k : Nat) : (OfNat.ofNat k : Int32) = nI k := rfl
theorem xa_t {c A B : Prop} (hc : c) (h : A) : (c → A) ∧ (¬ c → B) := ⟨fun _ => h, fun n => absurd hc n⟩
theorem xa_f {c A B : Prop} (hc : ¬ c) (h : B) : (c → A) ∧ (¬ c → B) := ⟨fun n => absurd n hc, fun _ => h⟩
theorem xa_t' {c A B : Prop} (hc : c) (h : B) : (¬ c → A) ∧ (c → B) := ⟨fun n => absurd hc n, fun _ => h⟩
theorem xa_f' {c A B : Prop} (hc : ¬ c) (h : A) : (¬ c → A) ∧ (c → B) := ⟨fun _ => h, fun n => absurd n hc⟩
theorem xa_a {I0 : pI} {P : pI → Prop} (h : P I0) : ∀ I1, I1 = I0 → P I1 := by rintro _ rfl; exact h
theorem xa_ra {R0 : pR} {P : pR → Prop} (h : P R0) : ∀ R1, R1 = R0 → P R1 := by rintro _ rfl; exact h
theorem xa_ch {n : Nat} (h : n < 65536) : narrow .char (.int (nI n)) = .int (nI n) := (pk_charN h).1
theorem xa_m1 {n : Nat} (h : 0 < n) : nI n - 1 = nI (n - 1) := by
  obtain ⟨m, rfl⟩ : ∃ m, n = m + 1 := ⟨n - 1, by omega⟩
  exact nI_pred m
theorem xa_ltl {a : Nat} (k : Nat) (ha : a < 2 ^ 31) (hk : k < 2 ^ 31) : nI a < (OfNat.ofNat k : Int32) ↔ a < k := nI_ltI ha hk
theorem xa_lel {a : Nat} (k : Nat) (ha : a < 2 ^ 31) (hk : k < 2 ^ 31) : nI a ≤ (OfNat.ofNat k : Int32) ↔ a ≤ k := nI_leI ha hk
theorem xa_llt {a : Nat} (k : Nat) (ha : a < 2 ^ 31) (hk : k < 2 ^ 31) : (OfNat.ofNat k : Int32) < nI a ↔ k < a := nI_ltI hk ha
theorem xa_lle {a : Nat} (k : Nat) (ha : a < 2 ^ 31) (hk : k < 2 ^ 31) : (OfNat.ofNat k : Int32) ≤ nI a ↔ k ≤ a := nI_leI hk ha
theorem xa_eql {a : Nat} (k : Nat) (ha : a < 2 ^ 31) (hk : k < 2 ^ 31) : nI a = (OfNat.ofNat k : Int32) ↔ a = k := nI_eq ha hk
theorem xa_in {n N : Nat} (hN : N < 2 ^ 31) (h : n < N) : vp_in (nI n) N ↔ True := ⟨fun _ => trivial, fun _ => vp_in_nI h hN⟩
theorem xa_0lt {a : Nat} (ha : a < 2 ^ 31) : (nI a < 0) ↔ False := ⟨nI_pos ha, False.elim⟩
theorem xa_0le {a : Nat} (ha : a < 2 ^ 31) : (0 ≤ nI a) ↔ True := ⟨fun _ => trivial, fun _ => nI_pos' ha⟩
theorem xa_if {c : Prop} [Decidable c] {α : Type} {a b : α} {Q : α → Prop} : Q (if c then a else b) ↔ ((c → Q a) ∧ (¬ c → Q b)) := by
  by_cases h : c <;> simp [h]
theorem xa_br {c A B : Prop} : ((c → A) ∧ (¬ c → B)) ↔ ((¬ c → B) ∧ (c → A)) := And.comm
def xa_ag (lo hi : Nat) (I I' : pI) : Prop := ∀ p, ¬ (lo ≤ p ∧ p ≤ hi) → I' p = I p
theorem xa_ag_r (lo hi : Nat) (I : pI) : xa_ag lo hi I I := fun _ _ => rfl
theorem xa_ag_t {lo hi : Nat} {I I1 I2 : pI} (h : xa_ag lo hi I I1) (h2 : xa_ag lo hi I1 I2) : xa_ag lo hi I I2 := fun p hp => (h2 p hp).trans (h p hp)
theorem xa_ag_w {lo hi : Nat} {I I1 : pI} {p k : Nat} {v : Int32} (h : xa_ag lo hi I I1) (hp : lo ≤ p ∧ p ≤ hi) : xa_ag lo hi I (pw_wI I1 p k v) := fun p' hp' => by
  have hn : ¬ p' = p := fun e => hp' (by rw [e]; exact hp)
  rw [xa_p hn]; exact h p' hp'
theorem xa_app {α : Type} {l : List α} {t u : α} {i : Nat} (h : (l ++ [t])[i]? = some u) : (l[i]? = some u ∧ i < l.length) ∨ (i = l.length ∧ u = t) := by
  by_cases hi : i < l.length
  · left; rw [List.getElem?_append_left hi] at h; exact ⟨h, hi⟩
  · right
    rw [List.getElem?_append_right (by omega)] at h
    by_cases h0 : i - l.length = 0
    · rw [h0] at h; simp at h; exact ⟨by omega, h.symm⟩
    · obtain ⟨k, hk⟩ : ∃ k, i - l.length = k + 1 := ⟨i - l.length - 1, by omega⟩
      rw [hk] at h; simp at h
def xa_fr (S : Nat → Nat → Bool) (I I' : pI) : Prop := ∀ p k, S p k = false → I' p k = I p k
theorem xa_fr_r (S : Nat → Nat → Bool) (I : pI) : xa_fr S I I := fun _ _ _ => rfl
theorem xa_fr_t {S : Nat → Nat → Bool} {I I1 I2 : pI} (h : xa_fr S I I1) (h2 : xa_fr S I1 I2) : xa_fr S I I2 := fun p k hp => (h2 p k hp).trans (h p k hp)
theorem xa_fr_w {S : Nat → Nat → Bool} {I I1 : pI} {p k : Nat} {v : Int32} (h : xa_fr S I I1) (hp : S p k = true) : xa_fr S I (pw_wI I1 p k v) := fun p' k' hp' => by
  rw [xa_w, if_neg (fun e => by rw [e.1, e.2, hp] at hp'; cases hp')]; exact h p' k' hp'
theorem xa_fr_m {S S' : Nat → Nat → Bool} {I I' : pI} (h : xa_fr S I I') (hs : ∀ p k, S' p k = false → S p k = false) : xa_fr S' I I' := fun p k hp => h p k (hs p k hp)
theorem xa_l0 : (0 : Int32) = nI 0 := rfl
theorem xa_l1 : (1 : Int32) = nI 1 := rfl
theorem xa_l2 : (2 : Int32) = nI 2 := rfl
theorem xa_l3 : (3 : Int32) = nI 3 := rfl
theorem xa_l4 : (4 : Int32) = nI 4 := rfl
theorem xa_l5 : (5 : Int32) = nI 5 := rfl
theorem xa_l6 : (6 : Int32) = nI 6 := rfl
theorem xa_l7 : (7 : Int32) = nI 7 := rfl
theorem xa_l8 : (8 : Int32) = nI 8 := rfl
theorem xa_l9 : (9 : Int32) = nI 9 := rfl
theorem xa_l10 : (10 : Int32) = nI 10 := rfl
theorem xa_l11 : (11 : Int32) = nI 11 := rfl
theorem xa_l12 : (12 : Int32) = nI 12 := rfl
theorem xa_l13 : (13 : Int32) = nI 13 := rfl
theorem xa_l14 : (14 : Int32) = nI 14 := rfl
theorem xa_l15 : (15 : Int32) = nI 15 := rfl
theorem xa_l22 : (22 : Int32) = nI 22 := rfl
theorem xa_l26 : (26 : Int32) = nI 26 := rfl
theorem xa_l32 : (32 : Int32) = nI 32 := rfl
theorem xa_l33 : (33 : Int32) = nI 33 := rfl
theorem xa_l37 : (37 : Int32) = nI 37 := rfl
theorem xa_l38 : (38 : Int32) = nI 38 := rfl
theorem xa_l40 : (40 : Int32) = nI 40 := rfl
theorem xa_l41 : (41 : Int32) = nI 41 := rfl
theorem xa_l42 : (42 : Int32) = nI 42 := rfl
theorem xa_l43 : (43 : Int32) = nI 43 := rfl
theorem xa_l44 : (44 : Int32) = nI 44 := rfl
theorem xa_l45 : (45 : Int32) = nI 45 := rfl
theorem xa_l47 : (47 : Int32) = nI 47 := rfl
theorem xa_l48 : (48 : Int32) = nI 48 := rfl
theorem xa_l57 : (57 : Int32) = nI 57 := rfl
theorem xa_l58 : (58 : Int32) = nI 58 := rfl
theorem xa_l59 : (59 : Int32) = nI 59 := rfl
theorem xa_l60 : (60 : Int32) = nI 60 := rfl
theorem xa_l61 : (61 : Int32) = nI 61 := rfl
theorem xa_l62 : (62 : Int32) = nI 62 := rfl
theorem xa_l67 : (67 : Int32) = nI 67 := rfl
theorem xa_l68 : (68 : Int32) = nI 68 := rfl
theorem xa_l69 : (69 : Int32) = nI 69 := rfl
theorem xa_l71 : (71 : Int32) = nI 71 := rfl
theorem xa_l77 : (77 : Int32) = nI 77 := rfl
theorem xa_l78 : (78 : Int32) = nI 78 := rfl
theorem xa_l79 : (79 : Int32) = nI 79 := rfl
theorem xa_l84 : (84 : Int32) = nI 84 := rfl
theorem xa_l87 : (87 : Int32) = nI 87 := rfl
theorem xa_l88 : (88 : Int32) = nI 88 := rfl
theorem xa_l95 : (95 : Int32) = nI 95 := rfl
theorem xa_l97 : (97 : Int32) = nI 97 := rfl
theorem xa_l100 : (100 : Int32) = nI 100 := rfl
theorem xa_l120 : (120 : Int32) = nI 120 := rfl
theorem xa_l122 : (122 : Int32) = nI 122 := rfl
theorem xa_l124 : (124 : Int32) = nI 124 := rfl
theorem xa_l128 : (128 : Int32) = nI 128 := rfl
theorem xa_l129 : (129 : Int32) = nI 129 := rfl
theorem xa_l130 : (130 : Int32) = nI 130 := rfl
theorem xa_l131 : (131 : Int32) = nI 131 := rfl
theorem xa_l132 : (132 : Int32) = nI 132 := rfl
theorem xa_l133 : (133 : Int32) = nI 133 := rfl
theorem xa_l134 : (134 : Int32) = nI 134 := rfl
theorem xa_l200 : (200 : Int32) = nI 200 := rfl
theorem xa_l201 : (201 : Int32) = nI 201 := rfl
theorem xa_l202 : (202 : Int32) = nI 202 := rfl
theorem xa_l203 : (203 : Int32) = nI 203 := rfl
theorem xa_l204 : (204 : Int32) = nI 204 := rfl
theorem xa_l205 : (205 : Int32) = nI 205 := rfl
theorem xa_l206 : (206 : Int32) = nI 206 := rfl
theorem xa_l240 : (240 : Int32) = nI 240 := rfl
theorem xa_l256 : (256 : Int32) = nI 256 := rfl
theorem xa_l257 : (257 : Int32) = nI 257 := rfl
theorem xa_l258 : (258 : Int32) = nI 258 := rfl
theorem xa_l259 : (259 : Int32) = nI 259 := rfl
theorem xa_l260 : (260 : Int32) = nI 260 := rfl
theorem xa_l261 : (261 : Int32) = nI 261 := rfl
theorem xa_l262 : (262 : Int32) = nI 262 := rfl
theorem xa_l263 : (263 : Int32) = nI 263 := rfl
theorem xa_l264 : (264 : Int32) = nI 264 := rfl
theorem xa_l265 : (265 : Int32) = nI 265 := rfl
theorem xa_l266 : (266 : Int32) = nI 266 := rfl
theorem xa_l400 : (400 : Int32) = nI 400 := rfl
theorem xa_l10000 : (10000 : Int32) = nI 10000 := rfl
