def w_tk_characterAt (a1 : Nat) (a2 : Int32) (I : pI) (R : pR) (Q : Int32 → pI → pR → Prop) : Prop := ((a2 < 0 → (narrow .char (.int (32 : Int32)) = .int (32 : Int32) ∧ Q (32 : Int32) I R)) ∧ (¬ a2 < 0 → (((I 109 5) ≤ a2 → (narrow .char (.int (32 : Int32)) = .int (32 : Int32) ∧ Q (32 : Int32) I R)) ∧ (¬ (I 109 5) ≤ a2 → (((Int32.ofNat 120) ≤ a2 → (narrow .char (.int (32 : Int32)) = .int (32 : Int32) ∧ Q (32 : Int32) I R)) ∧ (¬ (Int32.ofNat 120) ≤ a2 → (vp_in a2 120 ∧ (narrow .char (.int (I a1 a2.toNatClampNeg)) = .int (I a1 a2.toNatClampNeg) ∧ Q (I a1 a2.toNatClampNeg) I R))))))))
set_option maxHeartbeats 4000000 in
set_option maxRecDepth 100000 in
theorem c_tk_characterAt (d : Nat) {a1 : Nat} (ha1 : pSH[a1]? = some (2, 120)) {a2 : Int32} {I : pI} {R : pR} {Q : Int32 → pI → pR → Prop} (hL : pw_Lay R) (h : w_tk_characterAt a1 a2 I R Q) : Cm (d + 1) m_tk_characterAt [.ref 109, .ref a1, .int a2] I R (qi Q) := by
  refine Cm.of [some (.ref 109), some (.ref a1), some (.int a2)] (by decide) rfl (Nat.le_of_ble_eq_true rfl) (by simp) (fun E B g hF => ?_)
  unfold w_tk_characterAt at h
  refine PW.iload_n g rfl rfl d_tk_characterAt_0 ?_
  refine PW.if_lt g 24 (by decide) d_tk_characterAt_1 (fun c1 => ?_) (fun c1 => ?_)
  · have h := h.1 c1
    refine PW.bipush g (32) (by decide) d_tk_characterAt_24 ?_
    exact PX.cret g hF rfl h.1 d_tk_characterAt_26 hL h.2
  · have h := h.2 c1
    refine PW.iload_n g rfl rfl d_tk_characterAt_4 ?_
    refine PW.aload_n g rfl rfl d_tk_characterAt_5 ?_
    refine PW.getI g fi_tk_34 rfl d_tk_characterAt_6 ?_
    refine PW.icmp_ge g 24 (by decide) d_tk_characterAt_9 (fun c2 => ?_) (fun c2 => ?_)
    · have h := h.1 c2
      refine PW.bipush g (32) (by decide) d_tk_characterAt_24 ?_
      exact PX.cret g hF rfl h.1 d_tk_characterAt_26 hL h.2
    · have h := h.2 c2
      refine PW.iload_n g rfl rfl d_tk_characterAt_12 ?_
      refine PW.aload_n g rfl rfl d_tk_characterAt_13 ?_
      refine PW.alen g (by decide) (by decide) ha1 rfl d_tk_characterAt_14 ?_
      refine PW.icmp_ge g 24 (by decide) d_tk_characterAt_15 (fun c3 => ?_) (fun c3 => ?_)
      · have h := h.1 c3
        refine PW.bipush g (32) (by decide) d_tk_characterAt_24 ?_
        exact PX.cret g hF rfl h.1 d_tk_characterAt_26 hL h.2
      · have h := h.2 c3
        refine PW.aload_n g rfl rfl d_tk_characterAt_18 ?_
        refine PW.iload_n g rfl rfl d_tk_characterAt_19 ?_
        refine PW.cald g ha1 h.1 d_tk_characterAt_20 ?_
        have h := h.2
        refine PW.goto g 26 (by decide) d_tk_characterAt_21 ?_
        exact PX.cret g hF rfl h.1 d_tk_characterAt_26 hL h.2
def w_tk_add (a1 : Int32) (a2 : Int32) (a3 : Int32) (a4 : Int32) (I : pI) (R : pR) (Q : Int32 → pI → pR → Prop) : Prop := (((120 : Int32) ≤ (I 109 4) → Q a3 I R) ∧ (¬ (120 : Int32) ≤ (I 109 4) → (vp_in (I 109 4) 120 ∧ ∀ I1, I1 = pw_wI I 110 (I 109 4).toNatClampNeg a1 → (vp_in (I1 109 4) 120 ∧ ∀ I2, I2 = pw_wI I1 111 (I1 109 4).toNatClampNeg a2 → (vp_in (I2 109 4) 120 ∧ ∀ I3, I3 = pw_wI I2 112 (I2 109 4).toNatClampNeg a3 → (vp_in (I3 109 4) 120 ∧ ∀ I4, I4 = pw_wI I3 113 (I3 109 4).toNatClampNeg a4 → (∀ I5, I5 = pw_wI I4 109 4 ((I4 109 4) + (1 : Int32)) → Q a3 I5 R)))))))
set_option maxHeartbeats 4000000 in
set_option maxRecDepth 100000 in
theorem c_tk_add (d : Nat) {a1 : Int32} {a2 : Int32} {a3 : Int32} {a4 : Int32} {I : pI} {R : pR} {Q : Int32 → pI → pR → Prop} (hL : pw_Lay R) (h : w_tk_add a1 a2 a3 a4 I R Q) : Cm (d + 1) m_tk_add [.ref 109, .int a1, .int a2, .int a3, .int a4] I R (qi Q) := by
  refine Cm.of [some (.ref 109), some (.int a1), some (.int a2), some (.int a3), some (.int a4)] (by decide) rfl (Nat.le_of_ble_eq_true rfl) (by simp) (fun E B g hF => ?_)
  unfold w_tk_add at h
  refine PW.aload_n g rfl rfl d_tk_add_0 ?_
  refine PW.getI g fi_tk_24 rfl d_tk_add_1 ?_
  refine PW.bipush g (120) (by decide) d_tk_add_4 ?_
  refine PW.icmp_ge g 60 (by decide) d_tk_add_6 (fun c1 => ?_) (fun c1 => ?_)
  · have h := h.1 c1
    refine PW.iload_n g rfl rfl d_tk_add_60 ?_
    exact PX.iret g hF rfl d_tk_add_61 hL h
  · have h := h.2 c1
    refine PW.aload_n g rfl rfl d_tk_add_9 ?_
    refine PW.getR (q := 110) g fi_tk_9 rfl (hL 109 11 0 rfl (by decide)) d_tk_add_10 ?_
    refine PW.aload_n g rfl rfl d_tk_add_13 ?_
    refine PW.getI g fi_tk_24 rfl d_tk_add_14 ?_
    refine PW.iload_n g rfl rfl d_tk_add_17 ?_
    refine PW.iast g rfl h.1 d_tk_add_18 ?_
    refine PX.gI (fun I1 eI1 => ?_)
    have h := h.2 _ eI1
    refine PW.aload_n g rfl rfl d_tk_add_19 ?_
    refine PW.getR (q := 111) g fi_tk_15 rfl (hL 109 11 1 rfl (by decide)) d_tk_add_20 ?_
    refine PW.aload_n g rfl rfl d_tk_add_23 ?_
    refine PW.getI g fi_tk_24 rfl d_tk_add_24 ?_
    refine PW.iload_n g rfl rfl d_tk_add_27 ?_
    refine PW.iast g rfl h.1 d_tk_add_28 ?_
    refine PX.gI (fun I2 eI2 => ?_)
    have h := h.2 _ eI2
    refine PW.aload_n g rfl rfl d_tk_add_29 ?_
    refine PW.getR (q := 112) g fi_tk_18 rfl (hL 109 11 2 rfl (by decide)) d_tk_add_30 ?_
    refine PW.aload_n g rfl rfl d_tk_add_33 ?_
    refine PW.getI g fi_tk_24 rfl d_tk_add_34 ?_
    refine PW.iload_n g rfl rfl d_tk_add_37 ?_
    refine PW.iast g rfl h.1 d_tk_add_38 ?_
    refine PX.gI (fun I3 eI3 => ?_)
    have h := h.2 _ eI3
    refine PW.aload_n g rfl rfl d_tk_add_39 ?_
    refine PW.getR (q := 113) g fi_tk_21 rfl (hL 109 11 3 rfl (by decide)) d_tk_add_40 ?_
    refine PW.aload_n g rfl rfl d_tk_add_43 ?_
    refine PW.getI g fi_tk_24 rfl d_tk_add_44 ?_
    refine PW.iload g rfl d_tk_add_47 ?_
    refine PW.iast g rfl h.1 d_tk_add_49 ?_
    refine PX.gI (fun I4 eI4 => ?_)
    have h := h.2 _ eI4
    refine PW.aload_n g rfl rfl d_tk_add_50 ?_
    refine PW.dup g rfl d_tk_add_51 ?_
    refine PW.getI g fi_tk_24 rfl d_tk_add_52 ?_
    refine PW.iconst g (1) (by decide) d_tk_add_55 ?_
    refine PW.iadd g d_tk_add_56 ?_
    refine PW.putI g fi_tk_24 rfl rfl rfl d_tk_add_57 ?_
    refine PX.gI (fun I5 eI5 => ?_)
    have h := h _ eI5
    refine PW.iload_n g rfl rfl d_tk_add_60 ?_
    exact PX.iret g hF rfl d_tk_add_61 hL h
def l_tk_addNumber_8 (a1 : Nat) (f2 : Int32) (K : Int32 → Int32 → pI → pR → Prop) (Q : Int32 → pI → pR → Prop) : Nat → Int32 → Int32 → Int32 → pI → pR → Prop
  | 0, _, _, _, _, _ => False
  | n + 1, x3, x4, x5, I, R => (((I 109 5) ≤ x5 → K x3 x4 I R) ∧ (¬ (I 109 5) ≤ x5 → (w_tk_characterAt a1 x5 I R (fun v1 I1 R1 => (w_sr_isDigit v1 I1 R1 (fun v2 I2 R2 => ((v2 = 0 → K x3 x4 I2 R2) ∧ (¬ v2 = 0 → (w_tk_characterAt a1 x5 I2 R2 (fun v3 I3 R3 => l_tk_addNumber_8 a1 f2 K Q n (x5 + (1 : Int32)) ((x4 * (10 : Int32)) + (v3 - (48 : Int32))) (x5 + 1) I3 R3))))))))))
set_option maxHeartbeats 4000000 in
set_option maxRecDepth 100000 in
theorem L_tk_addNumber_8 (d : Nat) {a1 : Nat} (ha1 : pSH[a1]? = some (2, 120)) {f2 : Int32} {K : Int32 → Int32 → pI → pR → Prop} {Q : Int32 → pI → pR → Prop} {E : pE} {B : pB} (g : pw_G m_tk_addNumber (d + 2) 0 0 E B) (hF : pX (qi Q) E B) (hK : ∀ (y3 : Int32) (y4 : Int32) (I : pI) (R : pR), pw_Lay R → K y3 y4 I R → PX E B m_tk_addNumber.2.2.1 59 [some (.ref 109), none, some (.int f2), some (.int y3), some (.int y4), none] [] I R) : ∀ (n : Nat) (x3 : Int32) (x4 : Int32) (x5 : Int32) (I : pI) (R : pR), pw_Lay R → l_tk_addNumber_8 a1 f2 K Q n x3 x4 x5 I R → PX E B m_tk_addNumber.2.2.1 8 [some (.ref 109), some (.ref a1), some (.int f2), some (.int x3), some (.int x4), some (.int x5)] [] I R := by
  intro n
  induction n with
  | zero => intro x3 x4 x5 I R hL h; exact False.elim h
  | succ n ih =>
    intro x3 x4 x5 I R hL h
    refine PW.iload g rfl d_tk_addNumber_8 ?_
    refine PW.aload_n g rfl rfl d_tk_addNumber_10 ?_
    refine PW.getI g fi_tk_34 rfl d_tk_addNumber_11 ?_
    refine PW.icmp_ge g 59 (by decide) d_tk_addNumber_14 (fun c1 => ?_) (fun c1 => ?_)
    · have h := h.1 c1
      refine PX.sub [some (.ref 109), none, some (.int f2), some (.int x3), some (.int x4), none] ⟨rfl, ⟨rfl, ⟨rfl, ⟨rfl, trivial⟩⟩⟩⟩ ?_
      exact hK _ _ _ _ hL h
    · have h := h.2 c1
      refine PW.aload_n g rfl rfl d_tk_addNumber_17 ?_
      refine PW.aload_n g rfl rfl d_tk_addNumber_18 ?_
      refine PW.iload g rfl d_tk_addNumber_19 ?_
      refine PX.cVi [.ref a1, .int x5] [] g rfl ck_tk (c_tk_characterAt d ha1 hL h) cl_tk_41 (by omega) (by decide) rfl rfl (Nat.le_of_ble_eq_true rfl) d_tk_addNumber_21 (fun v1 I1 R1 hL h => ?_)
      refine PX.cSz [.int v1] [] g (c_sr_isDigit d  hL h) cl_tk_45 (by omega) (by decide) rfl rfl (Nat.le_of_ble_eq_true rfl) d_tk_addNumber_24 (fun v2 I2 R2 hL hzv2 h => ?_)
      refine PW.if_eq g 59 (by decide) d_tk_addNumber_27 (fun c2 => ?_) (fun c2 => ?_)
      · have h := h.1 c2
        refine PX.sub [some (.ref 109), none, some (.int f2), some (.int x3), some (.int x4), none] ⟨rfl, ⟨rfl, ⟨rfl, ⟨rfl, trivial⟩⟩⟩⟩ ?_
        exact hK _ _ _ _ hL h
      · have h := h.2 c2
        refine PW.iload g rfl d_tk_addNumber_30 ?_
        refine PW.bipush g (10) (by decide) d_tk_addNumber_32 ?_
        refine PW.imul g d_tk_addNumber_34 ?_
        refine PW.aload_n g rfl rfl d_tk_addNumber_35 ?_
        refine PW.aload_n g rfl rfl d_tk_addNumber_36 ?_
        refine PW.iload g rfl d_tk_addNumber_37 ?_
        refine PX.cVi [.ref a1, .int x5] [.int (x4 * (10 : Int32))] g rfl ck_tk (c_tk_characterAt d ha1 hL h) cl_tk_41 (by omega) (by decide) rfl rfl (Nat.le_of_ble_eq_true rfl) d_tk_addNumber_39 (fun v3 I3 R3 hL h => ?_)
        refine PW.bipush g (48) (by decide) d_tk_addNumber_42 ?_
        refine PW.isub g d_tk_addNumber_44 ?_
        refine PW.iadd g d_tk_addNumber_45 ?_
        refine PW.istore g (L' := [some (.ref 109), some (.ref a1), some (.int f2), some (.int x3), some (.int ((x4 * (10 : Int32)) + (v3 - (48 : Int32)))), some (.int x5)]) (by decide) rfl rfl d_tk_addNumber_46 ?_
        refine PW.iload g rfl d_tk_addNumber_48 ?_
        refine PW.iconst g (1) (by decide) d_tk_addNumber_50 ?_
        refine PW.iadd g d_tk_addNumber_51 ?_
        refine PW.istore_n g rfl (L' := [some (.ref 109), some (.ref a1), some (.int f2), some (.int (x5 + (1 : Int32))), some (.int ((x4 * (10 : Int32)) + (v3 - (48 : Int32)))), some (.int x5)]) (by decide) rfl rfl d_tk_addNumber_52 ?_
        refine PW.iinc g rfl (show x5 + Int32.ofInt (1) = (x5 + 1) from congrArg (HAdd.hAdd x5) (by decide)) (by decide) rfl (L' := [some (.ref 109), some (.ref a1), some (.int f2), some (.int (x5 + (1 : Int32))), some (.int ((x4 * (10 : Int32)) + (v3 - (48 : Int32)))), some (.int (x5 + 1))]) rfl d_tk_addNumber_53 ?_
        refine PW.goto g 8 (by decide) d_tk_addNumber_56 ?_
        refine PX.sub [some (.ref 109), some (.ref a1), some (.int f2), some (.int (x5 + (1 : Int32))), some (.int ((x4 * (10 : Int32)) + (v3 - (48 : Int32)))), some (.int (x5 + 1))] ⟨rfl, ⟨rfl, ⟨rfl, ⟨rfl, ⟨rfl, ⟨rfl, trivial⟩⟩⟩⟩⟩⟩ ?_
        exact ih _ _ _ _ _ hL h
def j_tk_addNumber_59 (a1 : Nat) (Q : Int32 → pI → pR → Prop) (x2 : Int32) (x3 : Int32) (x4 : Int32) (I : pI) (R : pR) : Prop := (((x3 - x2) ≤ (4 : Int32) → (w_tk_add (258 : Int32) x2 x3 x4 I R (fun v4 I5 R5 => Q v4 I5 R5))) ∧ (¬ (x3 - x2) ≤ (4 : Int32) → (w_tk_add (257 : Int32) x2 x3 x4 I R (fun v5 I6 R6 => Q v5 I6 R6))))
set_option maxHeartbeats 4000000 in
set_option maxRecDepth 100000 in
theorem J_tk_addNumber_59 (d : Nat) {a1 : Nat} (ha1 : pSH[a1]? = some (2, 120)) {Q : Int32 → pI → pR → Prop} {x2 : Int32} {x3 : Int32} {x4 : Int32} {E : pE} {B : pB} (g : pw_G m_tk_addNumber (d + 2) 0 0 E B) (hF : pX (qi Q) E B) {I : pI} {R : pR} (hL : pw_Lay R) (h : j_tk_addNumber_59 a1 Q x2 x3 x4 I R) : PX E B m_tk_addNumber.2.2.1 59 [some (.ref 109), none, some (.int x2), some (.int x3), some (.int x4), none] [] I R := by
  unfold j_tk_addNumber_59 at h
  refine PW.aload_n g rfl rfl d_tk_addNumber_59 ?_
  refine PW.iload_n g rfl rfl d_tk_addNumber_60 ?_
  refine PW.iload_n g rfl rfl d_tk_addNumber_61 ?_
  refine PW.isub g d_tk_addNumber_62 ?_
  refine PW.iconst g (4) (by decide) d_tk_addNumber_63 ?_
  refine PW.icmp_le g 73 (by decide) d_tk_addNumber_64 (fun c3 => ?_) (fun c3 => ?_)
  · have h := h.1 c3
    refine PW.sipush g (258) (by decide) d_tk_addNumber_73 ?_
    refine PW.iload_n g rfl rfl d_tk_addNumber_76 ?_
    refine PW.iload_n g rfl rfl d_tk_addNumber_77 ?_
    refine PW.iload g rfl d_tk_addNumber_78 ?_
    refine PX.cVi [.int (258 : Int32), .int x2, .int x3, .int x4] [] g rfl ck_tk (c_tk_add d  hL h) cl_tk_56 (by omega) (by decide) rfl rfl (Nat.le_of_ble_eq_true rfl) d_tk_addNumber_80 (fun v4 I5 R5 hL h => ?_)
    exact PX.iret g hF rfl d_tk_addNumber_83 hL h
  · have h := h.2 c3
    refine PW.sipush g (257) (by decide) d_tk_addNumber_67 ?_
    refine PW.goto g 76 (by decide) d_tk_addNumber_70 ?_
    refine PW.iload_n g rfl rfl d_tk_addNumber_76 ?_
    refine PW.iload_n g rfl rfl d_tk_addNumber_77 ?_
    refine PW.iload g rfl d_tk_addNumber_78 ?_
    refine PX.cVi [.int (257 : Int32), .int x2, .int x3, .int x4] [] g rfl ck_tk (c_tk_add d  hL h) cl_tk_56 (by omega) (by decide) rfl rfl (Nat.le_of_ble_eq_true rfl) d_tk_addNumber_80 (fun v5 I6 R6 hL h => ?_)
    exact PX.iret g hF rfl d_tk_addNumber_83 hL h
def w_tk_addNumber (a1 : Nat) (a2 : Int32) (I : pI) (R : pR) (Q : Int32 → pI → pR → Prop) : Prop := (∃ n1, l_tk_addNumber_8 a1 a2 (fun y1 y2 I4 R4 => (j_tk_addNumber_59 a1 Q a2 y1 y2 I4 R4)) Q n1 a2 (0 : Int32) a2 I R)
set_option maxHeartbeats 4000000 in
set_option maxRecDepth 100000 in
theorem c_tk_addNumber (d : Nat) {a1 : Nat} (ha1 : pSH[a1]? = some (2, 120)) {a2 : Int32} {I : pI} {R : pR} {Q : Int32 → pI → pR → Prop} (hL : pw_Lay R) (h : w_tk_addNumber a1 a2 I R Q) : Cm (d + 2) m_tk_addNumber [.ref 109, .ref a1, .int a2] I R (qi Q) := by
  refine Cm.of [some (.ref 109), some (.ref a1), some (.int a2), none, none, none] (by decide) rfl (Nat.le_of_ble_eq_true rfl) (by simp) (fun E B g hF => ?_)
  unfold w_tk_addNumber at h
  refine PW.iload_n g rfl rfl d_tk_addNumber_0 ?_
  refine PW.istore_n g rfl (L' := [some (.ref 109), some (.ref a1), some (.int a2), some (.int a2), none, none]) (by decide) rfl rfl d_tk_addNumber_1 ?_
  refine PW.iconst g (0) (by decide) d_tk_addNumber_2 ?_
  refine PW.istore g (L' := [some (.ref 109), some (.ref a1), some (.int a2), some (.int a2), some (.int (0 : Int32)), none]) (by decide) rfl rfl d_tk_addNumber_3 ?_
  refine PW.iload_n g rfl rfl d_tk_addNumber_5 ?_
  refine PW.istore g (L' := [some (.ref 109), some (.ref a1), some (.int a2), some (.int a2), some (.int (0 : Int32)), some (.int a2)]) (by decide) rfl rfl d_tk_addNumber_6 ?_
  refine PX.sub [some (.ref 109), some (.ref a1), some (.int a2), some (.int a2), some (.int (0 : Int32)), some (.int a2)] ⟨rfl, ⟨rfl, ⟨rfl, ⟨rfl, ⟨rfl, ⟨rfl, trivial⟩⟩⟩⟩⟩⟩ ?_
  obtain ⟨n1, h⟩ := h
  refine L_tk_addNumber_8 d ha1 g hF (fun y1 y2 I4 R4 hL h => ?_) n1 a2 (0 : Int32) a2 I R hL h
  refine PX.sub [some (.ref 109), none, some (.int a2), some (.int y1), some (.int y2), none] ⟨rfl, ⟨rfl, ⟨rfl, ⟨rfl, trivial⟩⟩⟩⟩ ?_
  exact J_tk_addNumber_59 d ha1 g hF hL h
def w_tk_pairOf (a1 : Int32) (a2 : Int32) (I : pI) (R : pR) (Q : Int32 → pI → pR → Prop) : Prop := ((¬ a2 = (61 : Int32) → ((a1 = a2 → ((¬ a1 = (38 : Int32) → ((¬ a1 = (124 : Int32) → ((¬ a1 = (62 : Int32) → Q (257 : Int32) I R) ∧ (a1 = (62 : Int32) → Q (266 : Int32) I R))) ∧ (a1 = (124 : Int32) → Q (265 : Int32) I R))) ∧ (a1 = (38 : Int32) → Q (264 : Int32) I R))) ∧ (¬ a1 = a2 → Q (257 : Int32) I R))) ∧ (a2 = (61 : Int32) → ((a1 = (33 : Int32) → Q (261 : Int32) I R) ∧ (¬ a1 = (33 : Int32) → ((a1 = (60 : Int32) → Q (262 : Int32) I R) ∧ (¬ a1 = (60 : Int32) → ((a1 = (61 : Int32) → Q (260 : Int32) I R) ∧ (¬ a1 = (61 : Int32) → ((a1 = (62 : Int32) → Q (263 : Int32) I R) ∧ (¬ a1 = (62 : Int32) → Q (257 : Int32) I R))))))))))
set_option maxHeartbeats 4000000 in
set_option maxRecDepth 100000 in
theorem c_tk_pairOf (d : Nat) {a1 : Int32} {a2 : Int32} {I : pI} {R : pR} {Q : Int32 → pI → pR → Prop} (hL : pw_Lay R) (h : w_tk_pairOf a1 a2 I R Q) : Cm (d + 1) m_tk_pairOf [.int a1, .int a2] I R (qi Q) := by
  refine Cm.of [some (.int a1), some (.int a2)] (by decide) rfl (Nat.le_of_ble_eq_true rfl) (by simp) (fun E B g hF => ?_)
  unfold w_tk_pairOf at h
  refine PW.iload_n g rfl rfl d_tk_pairOf_0 ?_
  refine PW.bipush g (61) (by decide) d_tk_pairOf_1 ?_
  refine PW.icmp_ne g 68 (by decide) d_tk_pairOf_3 (fun c1 => ?_) (fun c1 => ?_)
  · have h := h.1 c1
    refine PW.iload_n g rfl rfl d_tk_pairOf_68 ?_
    refine PW.iload_n g rfl rfl d_tk_pairOf_69 ?_
    refine PW.icmp_eq g 77 (by decide) d_tk_pairOf_70 (fun c2 => ?_) (fun c2 => ?_)
    · have h := h.1 c2
      refine PW.iload_n g rfl rfl d_tk_pairOf_77 ?_
      refine PW.bipush g (38) (by decide) d_tk_pairOf_78 ?_
      refine PW.icmp_ne g 89 (by decide) d_tk_pairOf_80 (fun c3 => ?_) (fun c3 => ?_)
      · have h := h.1 c3
        refine PW.iload_n g rfl rfl d_tk_pairOf_89 ?_
        refine PW.bipush g (124) (by decide) d_tk_pairOf_90 ?_
        refine PW.icmp_ne g 101 (by decide) d_tk_pairOf_92 (fun c4 => ?_) (fun c4 => ?_)
        · have h := h.1 c4
          refine PW.iload_n g rfl rfl d_tk_pairOf_101 ?_
          refine PW.bipush g (62) (by decide) d_tk_pairOf_102 ?_
          refine PW.icmp_ne g 113 (by decide) d_tk_pairOf_104 (fun c5 => ?_) (fun c5 => ?_)
          · have h := h.1 c5
            refine PW.sipush g (257) (by decide) d_tk_pairOf_113 ?_
            exact PX.iret g hF rfl d_tk_pairOf_116 hL h
          · have h := h.2 c5
            refine PW.sipush g (266) (by decide) d_tk_pairOf_107 ?_
            refine PW.goto g 116 (by decide) d_tk_pairOf_110 ?_
            exact PX.iret g hF rfl d_tk_pairOf_116 hL h
        · have h := h.2 c4
          refine PW.sipush g (265) (by decide) d_tk_pairOf_95 ?_
          refine PW.goto g 116 (by decide) d_tk_pairOf_98 ?_
          exact PX.iret g hF rfl d_tk_pairOf_116 hL h
      · have h := h.2 c3
        refine PW.sipush g (264) (by decide) d_tk_pairOf_83 ?_
        refine PW.goto g 116 (by decide) d_tk_pairOf_86 ?_
        exact PX.iret g hF rfl d_tk_pairOf_116 hL h
    · have h := h.2 c2
      refine PW.sipush g (257) (by decide) d_tk_pairOf_73 ?_
      exact PX.iret g hF rfl d_tk_pairOf_76 hL h
  · have h := h.2 c1
    refine PW.iload_n g rfl rfl d_tk_pairOf_6 ?_
    by_cases c6 : a1 = (33 : Int32)
    · have h := h.1 c6
      refine PW.lookup g 52 (by decide) (show Op.lookupswitch.offset [(33, 45), (60, 49), (61, 41), (62, 53)] (57) a1.toInt = 45 from by rw [c6]; decide) (by decide) d_tk_pairOf_7 ?_
      refine PW.sipush g (261) (by decide) d_tk_pairOf_52 ?_
      exact PX.iret g hF rfl d_tk_pairOf_55 hL h
    · have h := h.2 c6
      by_cases c7 : a1 = (60 : Int32)
      · have h := h.1 c7
        refine PW.lookup g 56 (by decide) (show Op.lookupswitch.offset [(33, 45), (60, 49), (61, 41), (62, 53)] (57) a1.toInt = 49 from by rw [c7]; decide) (by decide) d_tk_pairOf_7 ?_
        refine PW.sipush g (262) (by decide) d_tk_pairOf_56 ?_
        exact PX.iret g hF rfl d_tk_pairOf_59 hL h
      · have h := h.2 c7
        by_cases c8 : a1 = (61 : Int32)
        · have h := h.1 c8
          refine PW.lookup g 48 (by decide) (show Op.lookupswitch.offset [(33, 45), (60, 49), (61, 41), (62, 53)] (57) a1.toInt = 41 from by rw [c8]; decide) (by decide) d_tk_pairOf_7 ?_
          refine PW.sipush g (260) (by decide) d_tk_pairOf_48 ?_
          exact PX.iret g hF rfl d_tk_pairOf_51 hL h
        · have h := h.2 c8
          by_cases c9 : a1 = (62 : Int32)
          · have h := h.1 c9
            refine PW.lookup g 60 (by decide) (show Op.lookupswitch.offset [(33, 45), (60, 49), (61, 41), (62, 53)] (57) a1.toInt = 53 from by rw [c9]; decide) (by decide) d_tk_pairOf_7 ?_
            refine PW.sipush g (263) (by decide) d_tk_pairOf_60 ?_
            exact PX.iret g hF rfl d_tk_pairOf_63 hL h
          · have h := h.2 c9
            refine PW.lookup g 64 (by decide) (show Op.lookupswitch.offset [(33, 45), (60, 49), (61, 41), (62, 53)] (57) a1.toInt = 57 from by rw [lv_osw c6 (by decide)]; rw [lv_osw c7 (by decide)]; rw [lv_osw c8 (by decide)]; rw [lv_osw c9 (by decide)]; rfl) (by decide) d_tk_pairOf_7 ?_
            refine PW.sipush g (257) (by decide) d_tk_pairOf_64 ?_
            exact PX.iret g hF rfl d_tk_pairOf_67 hL h
def w_tk_addFrom (a1 : Nat) (a2 : Int32) (I : pI) (R : pR) (Q : Int32 → pI → pR → Prop) : Prop := (w_tk_characterAt a1 a2 I R (fun v1 I1 R1 => ((¬ v1 = (32 : Int32) → (w_sr_isDigit v1 I1 R1 (fun v2 I2 R2 => ((v2 = 0 → (w_tk_characterAt a1 (a2 + (1 : Int32)) I2 R2 (fun v3 I3 R3 => (w_tk_pairOf v1 v3 I3 R3 (fun v4 I4 R4 => ((v4 = (257 : Int32) → (w_sr_isSmallLetter v1 I4 R4 (fun v5 I5 R5 => ((v5 = 0 → ((¬ v1 = (38 : Int32) → (w_tk_add v1 a2 (a2 + (1 : Int32)) (0 : Int32) I5 R5 (fun v6 I6 R6 => Q v6 I6 R6))) ∧ (v1 = (38 : Int32) → (w_tk_add (257 : Int32) a2 (a2 + (1 : Int32)) (0 : Int32) I5 R5 (fun v7 I7 R7 => Q v7 I7 R7))))) ∧ (¬ v5 = 0 → (w_tk_add (259 : Int32) a2 (a2 + (1 : Int32)) (v1 - (97 : Int32)) I5 R5 (fun v8 I8 R8 => Q v8 I8 R8))))))) ∧ (¬ v4 = (257 : Int32) → (w_tk_add v4 a2 (a2 + (2 : Int32)) (0 : Int32) I4 R4 (fun v9 I9 R9 => Q v9 I9 R9))))))))) ∧ (¬ v2 = 0 → (w_tk_addNumber a1 a2 I2 R2 (fun v10 I10 R10 => Q v10 I10 R10))))))) ∧ (v1 = (32 : Int32) → Q (a2 + (1 : Int32)) I1 R1))))
set_option maxHeartbeats 4000000 in
set_option maxRecDepth 100000 in
theorem c_tk_addFrom (d : Nat) {a1 : Nat} (ha1 : pSH[a1]? = some (2, 120)) {a2 : Int32} {I : pI} {R : pR} {Q : Int32 → pI → pR → Prop} (hL : pw_Lay R) (h : w_tk_addFrom a1 a2 I R Q) : Cm (d + 3) m_tk_addFrom [.ref 109, .ref a1, .int a2] I R (qi Q) := by
  refine Cm.of [some (.ref 109), some (.ref a1), some (.int a2), none, none] (by decide) rfl (Nat.le_of_ble_eq_true rfl) (by simp) (fun E B g hF => ?_)
  unfold w_tk_addFrom at h
  refine PW.aload_n g rfl rfl d_tk_addFrom_0 ?_
  refine PW.aload_n g rfl rfl d_tk_addFrom_1 ?_
  refine PW.iload_n g rfl rfl d_tk_addFrom_2 ?_
  refine PX.cVi [.ref a1, .int a2] [] g rfl ck_tk (c_tk_characterAt d ha1 hL h) cl_tk_41 (by omega) (by decide) rfl rfl (Nat.le_of_ble_eq_true rfl) d_tk_addFrom_3 (fun v1 I1 R1 hL h => ?_)
  refine PW.istore_n g rfl (L' := [some (.ref 109), some (.ref a1), some (.int a2), some (.int v1), none]) (by decide) rfl rfl d_tk_addFrom_6 ?_
  refine PW.iload_n g rfl rfl d_tk_addFrom_7 ?_
  refine PW.bipush g (32) (by decide) d_tk_addFrom_8 ?_
  refine PW.icmp_ne g 17 (by decide) d_tk_addFrom_10 (fun c1 => ?_) (fun c1 => ?_)
  · have h := h.1 c1
    refine PW.iload_n g rfl rfl d_tk_addFrom_17 ?_
    refine PX.cSz [.int v1] [] g (c_sr_isDigit d  hL h) cl_tk_45 (by omega) (by decide) rfl rfl (Nat.le_of_ble_eq_true rfl) d_tk_addFrom_18 (fun v2 I2 R2 hL hzv2 h => ?_)
    refine PW.if_eq g 31 (by decide) d_tk_addFrom_21 (fun c2 => ?_) (fun c2 => ?_)
    · have h := h.1 c2
      refine PW.iload_n g rfl rfl d_tk_addFrom_31 ?_
      refine PW.aload_n g rfl rfl d_tk_addFrom_32 ?_
      refine PW.aload_n g rfl rfl d_tk_addFrom_33 ?_
      refine PW.iload_n g rfl rfl d_tk_addFrom_34 ?_
      refine PW.iconst g (1) (by decide) d_tk_addFrom_35 ?_
      refine PW.iadd g d_tk_addFrom_36 ?_
      refine PX.cVi [.ref a1, .int (a2 + (1 : Int32))] [.int v1] g rfl ck_tk (c_tk_characterAt d ha1 hL h) cl_tk_41 (by omega) (by decide) rfl rfl (Nat.le_of_ble_eq_true rfl) d_tk_addFrom_37 (fun v3 I3 R3 hL h => ?_)
      refine PX.cSi [.int v1, .int v3] [] g (c_tk_pairOf d  hL h) cl_tk_52 (by omega) (by decide) rfl rfl (Nat.le_of_ble_eq_true rfl) d_tk_addFrom_40 (fun v4 I4 R4 hL h => ?_)
      refine PW.istore g (L' := [some (.ref 109), some (.ref a1), some (.int a2), some (.int v1), some (.int v4)]) (by decide) rfl rfl d_tk_addFrom_43 ?_
      refine PW.iload g rfl d_tk_addFrom_45 ?_
      refine PW.sipush g (257) (by decide) d_tk_addFrom_47 ?_
      refine PW.icmp_eq g 65 (by decide) d_tk_addFrom_50 (fun c3 => ?_) (fun c3 => ?_)
      · have h := h.1 c3
        refine PW.iload_n g rfl rfl d_tk_addFrom_65 ?_
        refine PX.cSz [.int v1] [] g (c_sr_isSmallLetter d  hL h) cl_tk_60 (by omega) (by decide) rfl rfl (Nat.le_of_ble_eq_true rfl) d_tk_addFrom_66 (fun v5 I5 R5 hL hzv5 h => ?_)
        refine PW.if_eq g 88 (by decide) d_tk_addFrom_69 (fun c4 => ?_) (fun c4 => ?_)
        · have h := h.1 c4
          refine PW.aload_n g rfl rfl d_tk_addFrom_88 ?_
          refine PW.iload_n g rfl rfl d_tk_addFrom_89 ?_
          refine PW.bipush g (38) (by decide) d_tk_addFrom_90 ?_
          refine PW.icmp_ne g 101 (by decide) d_tk_addFrom_92 (fun c5 => ?_) (fun c5 => ?_)
          · have h := h.1 c5
            refine PW.iload_n g rfl rfl d_tk_addFrom_101 ?_
            refine PW.iload_n g rfl rfl d_tk_addFrom_102 ?_
            refine PW.iload_n g rfl rfl d_tk_addFrom_103 ?_
            refine PW.iconst g (1) (by decide) d_tk_addFrom_104 ?_
            refine PW.iadd g d_tk_addFrom_105 ?_
            refine PW.iconst g (0) (by decide) d_tk_addFrom_106 ?_
            refine PX.cVi [.int v1, .int a2, .int (a2 + (1 : Int32)), .int (0 : Int32)] [] g rfl ck_tk (c_tk_add d  hL h) cl_tk_56 (by omega) (by decide) rfl rfl (Nat.le_of_ble_eq_true rfl) d_tk_addFrom_107 (fun v6 I6 R6 hL h => ?_)
            exact PX.iret g hF rfl d_tk_addFrom_110 hL h
          · have h := h.2 c5
            refine PW.sipush g (257) (by decide) d_tk_addFrom_95 ?_
            refine PW.goto g 102 (by decide) d_tk_addFrom_98 ?_
            refine PW.iload_n g rfl rfl d_tk_addFrom_102 ?_
            refine PW.iload_n g rfl rfl d_tk_addFrom_103 ?_
            refine PW.iconst g (1) (by decide) d_tk_addFrom_104 ?_
            refine PW.iadd g d_tk_addFrom_105 ?_
            refine PW.iconst g (0) (by decide) d_tk_addFrom_106 ?_
            refine PX.cVi [.int (257 : Int32), .int a2, .int (a2 + (1 : Int32)), .int (0 : Int32)] [] g rfl ck_tk (c_tk_add d  hL h) cl_tk_56 (by omega) (by decide) rfl rfl (Nat.le_of_ble_eq_true rfl) d_tk_addFrom_107 (fun v7 I7 R7 hL h => ?_)
            exact PX.iret g hF rfl d_tk_addFrom_110 hL h
        · have h := h.2 c4
          refine PW.aload_n g rfl rfl d_tk_addFrom_72 ?_
          refine PW.sipush g (259) (by decide) d_tk_addFrom_73 ?_
          refine PW.iload_n g rfl rfl d_tk_addFrom_76 ?_
          refine PW.iload_n g rfl rfl d_tk_addFrom_77 ?_
          refine PW.iconst g (1) (by decide) d_tk_addFrom_78 ?_
          refine PW.iadd g d_tk_addFrom_79 ?_
          refine PW.iload_n g rfl rfl d_tk_addFrom_80 ?_
          refine PW.bipush g (97) (by decide) d_tk_addFrom_81 ?_
          refine PW.isub g d_tk_addFrom_83 ?_
          refine PX.cVi [.int (259 : Int32), .int a2, .int (a2 + (1 : Int32)), .int (v1 - (97 : Int32))] [] g rfl ck_tk (c_tk_add d  hL h) cl_tk_56 (by omega) (by decide) rfl rfl (Nat.le_of_ble_eq_true rfl) d_tk_addFrom_84 (fun v8 I8 R8 hL h => ?_)
          exact PX.iret g hF rfl d_tk_addFrom_87 hL h
      · have h := h.2 c3
        refine PW.aload_n g rfl rfl d_tk_addFrom_53 ?_
        refine PW.iload g rfl d_tk_addFrom_54 ?_
        refine PW.iload_n g rfl rfl d_tk_addFrom_56 ?_
        refine PW.iload_n g rfl rfl d_tk_addFrom_57 ?_
        refine PW.iconst g (2) (by decide) d_tk_addFrom_58 ?_
        refine PW.iadd g d_tk_addFrom_59 ?_
        refine PW.iconst g (0) (by decide) d_tk_addFrom_60 ?_
        refine PX.cVi [.int v4, .int a2, .int (a2 + (2 : Int32)), .int (0 : Int32)] [] g rfl ck_tk (c_tk_add d  hL h) cl_tk_56 (by omega) (by decide) rfl rfl (Nat.le_of_ble_eq_true rfl) d_tk_addFrom_61 (fun v9 I9 R9 hL h => ?_)
        exact PX.iret g hF rfl d_tk_addFrom_64 hL h
    · have h := h.2 c2
      refine PW.aload_n g rfl rfl d_tk_addFrom_24 ?_
      refine PW.aload_n g rfl rfl d_tk_addFrom_25 ?_
      refine PW.iload_n g rfl rfl d_tk_addFrom_26 ?_
      refine PX.cVi [.ref a1, .int a2] [] g rfl ck_tk (c_tk_addNumber d ha1 hL h) cl_tk_49 (by omega) (by decide) rfl rfl (Nat.le_of_ble_eq_true rfl) d_tk_addFrom_27 (fun v10 I10 R10 hL h => ?_)
      exact PX.iret g hF rfl d_tk_addFrom_30 hL h
  · have h := h.2 c1
    refine PW.iload_n g rfl rfl d_tk_addFrom_13 ?_
    refine PW.iconst g (1) (by decide) d_tk_addFrom_14 ?_
    refine PW.iadd g d_tk_addFrom_15 ?_
    exact PX.iret g hF rfl d_tk_addFrom_16 hL h
def l_tk_read_20 (a1 : Nat) (K : pI → pR → Prop) (Q : pI → pR → Prop) : Nat → Int32 → Int32 → pI → pR → Prop
  | 0, _, _, _, _ => False
  | n + 1, x3, x4, I, R => (((120 : Int32) ≤ x4 → K I R) ∧ (¬ (120 : Int32) ≤ x4 → (((I 109 5) ≤ x3 → K I R) ∧ (¬ (I 109 5) ≤ x3 → (w_tk_addFrom a1 x3 I R (fun v1 I3 R1 => l_tk_read_20 a1 K Q n v1 (x4 + 1) I3 R1))))))
set_option maxHeartbeats 4000000 in
set_option maxRecDepth 100000 in
theorem L_tk_read_20 (d : Nat) {a1 : Nat} (ha1 : pSH[a1]? = some (2, 120)) {K : pI → pR → Prop} {Q : pI → pR → Prop} {E : pE} {B : pB} (g : pw_G m_tk_read (d + 4) 0 0 E B) (hF : pX (qv Q) E B) (hK : ∀ (I : pI) (R : pR), pw_Lay R → K  I R → PX E B m_tk_read.2.2.1 48 [none, none, none, none, none] [] I R) : ∀ (n : Nat) (x3 : Int32) (x4 : Int32) (I : pI) (R : pR), pw_Lay R → l_tk_read_20 a1 K Q n x3 x4 I R → PX E B m_tk_read.2.2.1 20 [some (.ref 109), some (.ref a1), none, some (.int x3), some (.int x4)] [] I R := by
  intro n
  induction n with
  | zero => intro x3 x4 I R hL h; exact False.elim h
  | succ n ih =>
    intro x3 x4 I R hL h
    refine PW.iload g rfl d_tk_read_20 ?_
    refine PW.bipush g (120) (by decide) d_tk_read_22 ?_
    refine PW.icmp_ge g 48 (by decide) d_tk_read_24 (fun c1 => ?_) (fun c1 => ?_)
    · have h := h.1 c1
      refine PX.sub [none, none, none, none, none] trivial ?_
      exact hK _ _ hL h
    · have h := h.2 c1
      refine PW.iload_n g rfl rfl d_tk_read_27 ?_
      refine PW.aload_n g rfl rfl d_tk_read_28 ?_
      refine PW.getI g fi_tk_34 rfl d_tk_read_29 ?_
      refine PW.icmp_ge g 48 (by decide) d_tk_read_32 (fun c2 => ?_) (fun c2 => ?_)
      · have h := h.1 c2
        refine PX.sub [none, none, none, none, none] trivial ?_
        exact hK _ _ hL h
      · have h := h.2 c2
        refine PW.aload_n g rfl rfl d_tk_read_35 ?_
        refine PW.aload_n g rfl rfl d_tk_read_36 ?_
        refine PW.iload_n g rfl rfl d_tk_read_37 ?_
        refine PX.cVi [.ref a1, .int x3] [] g rfl ck_tk (c_tk_addFrom d ha1 hL h) cl_tk_37 (by omega) (by decide) rfl rfl (Nat.le_of_ble_eq_true rfl) d_tk_read_38 (fun v1 I3 R1 hL h => ?_)
        refine PW.istore_n g rfl (L' := [some (.ref 109), some (.ref a1), none, some (.int v1), some (.int x4)]) (by decide) rfl rfl d_tk_read_41 ?_
        refine PW.iinc g rfl (show x4 + Int32.ofInt (1) = (x4 + 1) from congrArg (HAdd.hAdd x4) (by decide)) (by decide) rfl (L' := [some (.ref 109), some (.ref a1), none, some (.int v1), some (.int (x4 + 1))]) rfl d_tk_read_42 ?_
        refine PW.goto g 20 (by decide) d_tk_read_45 ?_
        refine PX.sub [some (.ref 109), some (.ref a1), none, some (.int v1), some (.int (x4 + 1))] ⟨rfl, ⟨rfl, ⟨rfl, ⟨rfl, trivial⟩⟩⟩⟩ ?_
        exact ih _ _ _ _ hL h
def w_tk_read (a1 : Nat) (a2 : Int32) (I : pI) (R : pR) (Q : pI → pR → Prop) : Prop := (∀ I1, I1 = pw_wI I 109 4 (0 : Int32) → (∀ I2, I2 = pw_wI I1 109 5 (if (Int32.ofNat 120) < a2 then (Int32.ofNat 120) else a2) → (∃ n1, l_tk_read_20 a1 (fun I4 R2 => Q I4 R2) Q n1 (0 : Int32) (0 : Int32) I2 R)))
set_option maxHeartbeats 4000000 in
set_option maxRecDepth 100000 in
theorem c_tk_read (d : Nat) {a1 : Nat} (ha1 : pSH[a1]? = some (2, 120)) {a2 : Int32} {I : pI} {R : pR} {Q : pI → pR → Prop} (hL : pw_Lay R) (h : w_tk_read a1 a2 I R Q) : Cm (d + 4) m_tk_read [.ref 109, .ref a1, .int a2] I R (qv Q) := by
  refine Cm.of [some (.ref 109), some (.ref a1), some (.int a2), none, none] (by decide) rfl (Nat.le_of_ble_eq_true rfl) (by simp) (fun E B g hF => ?_)
  unfold w_tk_read at h
  refine PW.aload_n g rfl rfl d_tk_read_0 ?_
  refine PW.iconst g (0) (by decide) d_tk_read_1 ?_
  refine PW.putI g fi_tk_24 rfl rfl rfl d_tk_read_2 ?_
  refine PX.gI (fun I1 eI1 => ?_)
  have h := h _ eI1
  refine PW.aload_n g rfl rfl d_tk_read_5 ?_
  refine PW.iload_n g rfl rfl d_tk_read_6 ?_
  refine PW.aload_n g rfl rfl d_tk_read_7 ?_
  refine PW.alen g (by decide) (by decide) ha1 rfl d_tk_read_8 ?_
  refine PX.mmin g (pw_gw 682 (by decide +kernel) (by decide +kernel)) (by omega) rfl (Nat.le_of_ble_eq_true rfl) d_tk_read_9 ?_
  refine PW.putI g fi_tk_34 rfl rfl rfl d_tk_read_12 ?_
  refine PX.gI (fun I2 eI2 => ?_)
  have h := h _ eI2
  refine PW.iconst g (0) (by decide) d_tk_read_15 ?_
  refine PW.istore_n g rfl (L' := [some (.ref 109), some (.ref a1), some (.int a2), some (.int (0 : Int32)), none]) (by decide) rfl rfl d_tk_read_16 ?_
  refine PW.iconst g (0) (by decide) d_tk_read_17 ?_
  refine PW.istore g (L' := [some (.ref 109), some (.ref a1), some (.int a2), some (.int (0 : Int32)), some (.int (0 : Int32))]) (by decide) rfl rfl d_tk_read_18 ?_
  refine PX.sub [some (.ref 109), some (.ref a1), none, some (.int (0 : Int32)), some (.int (0 : Int32))] ⟨rfl, ⟨rfl, ⟨rfl, ⟨rfl, trivial⟩⟩⟩⟩ ?_
  obtain ⟨n1, h⟩ := h
  refine L_tk_read_20 d ha1 g hF (fun I4 R2 hL h => ?_) n1 (0 : Int32) (0 : Int32) I2 R hL h
  exact PX.vret g hF rfl d_tk_read_48 hL h
def w_tk_kindAt (a1 : Int32) (I : pI) (R : pR) (Q : Int32 → pI → pR → Prop) : Prop := ((a1 < 0 → Q (256 : Int32) I R) ∧ (¬ a1 < 0 → (((I 109 4) ≤ a1 → Q (256 : Int32) I R) ∧ (¬ (I 109 4) ≤ a1 → (((120 : Int32) ≤ a1 → Q (256 : Int32) I R) ∧ (¬ (120 : Int32) ≤ a1 → (vp_in a1 120 ∧ Q (I 110 a1.toNatClampNeg) I R)))))))
set_option maxHeartbeats 4000000 in
set_option maxRecDepth 100000 in
theorem c_tk_kindAt (d : Nat) {a1 : Int32} {I : pI} {R : pR} {Q : Int32 → pI → pR → Prop} (hL : pw_Lay R) (h : w_tk_kindAt a1 I R Q) : Cm (d + 1) m_tk_kindAt [.ref 109, .int a1] I R (qi Q) := by
  refine Cm.of [some (.ref 109), some (.int a1)] (by decide) rfl (Nat.le_of_ble_eq_true rfl) (by simp) (fun E B g hF => ?_)
  unfold w_tk_kindAt at h
  refine PW.iload_n g rfl rfl d_tk_kindAt_0 ?_
  refine PW.if_lt g 27 (by decide) d_tk_kindAt_1 (fun c1 => ?_) (fun c1 => ?_)
  · have h := h.1 c1
    refine PW.sipush g (256) (by decide) d_tk_kindAt_27 ?_
    exact PX.iret g hF rfl d_tk_kindAt_30 hL h
  · have h := h.2 c1
    refine PW.iload_n g rfl rfl d_tk_kindAt_4 ?_
    refine PW.aload_n g rfl rfl d_tk_kindAt_5 ?_
    refine PW.getI g fi_tk_24 rfl d_tk_kindAt_6 ?_
    refine PW.icmp_ge g 27 (by decide) d_tk_kindAt_9 (fun c2 => ?_) (fun c2 => ?_)
    · have h := h.1 c2
      refine PW.sipush g (256) (by decide) d_tk_kindAt_27 ?_
      exact PX.iret g hF rfl d_tk_kindAt_30 hL h
    · have h := h.2 c2
      refine PW.iload_n g rfl rfl d_tk_kindAt_12 ?_
      refine PW.bipush g (120) (by decide) d_tk_kindAt_13 ?_
      refine PW.icmp_ge g 27 (by decide) d_tk_kindAt_15 (fun c3 => ?_) (fun c3 => ?_)
      · have h := h.1 c3
        refine PW.sipush g (256) (by decide) d_tk_kindAt_27 ?_
        exact PX.iret g hF rfl d_tk_kindAt_30 hL h
      · have h := h.2 c3
        refine PW.aload_n g rfl rfl d_tk_kindAt_18 ?_
        refine PW.getR (q := 110) g fi_tk_9 rfl (hL 109 11 0 rfl (by decide)) d_tk_kindAt_19 ?_
        refine PW.iload_n g rfl rfl d_tk_kindAt_22 ?_
        refine PW.iald g rfl h.1 d_tk_kindAt_23 ?_
        have h := h.2
        refine PW.goto g 30 (by decide) d_tk_kindAt_24 ?_
        exact PX.iret g hF rfl d_tk_kindAt_30 hL h
def w_tk_placeOf (a1 : Int32) (I : pI) (R : pR) (Q : Int32 → pI → pR → Prop) : Prop := ((a1 < 0 → Q (I 109 5) I R) ∧ (¬ a1 < 0 → (((I 109 4) ≤ a1 → Q (I 109 5) I R) ∧ (¬ (I 109 4) ≤ a1 → (((120 : Int32) ≤ a1 → Q (I 109 5) I R) ∧ (¬ (120 : Int32) ≤ a1 → (vp_in a1 120 ∧ Q (I 111 a1.toNatClampNeg) I R)))))))
set_option maxHeartbeats 4000000 in
set_option maxRecDepth 100000 in
theorem c_tk_placeOf (d : Nat) {a1 : Int32} {I : pI} {R : pR} {Q : Int32 → pI → pR → Prop} (hL : pw_Lay R) (h : w_tk_placeOf a1 I R Q) : Cm (d + 1) m_tk_placeOf [.ref 109, .int a1] I R (qi Q) := by
  refine Cm.of [some (.ref 109), some (.int a1)] (by decide) rfl (Nat.le_of_ble_eq_true rfl) (by simp) (fun E B g hF => ?_)
  unfold w_tk_placeOf at h
  refine PW.iload_n g rfl rfl d_tk_placeOf_0 ?_
  refine PW.if_lt g 27 (by decide) d_tk_placeOf_1 (fun c1 => ?_) (fun c1 => ?_)
  · have h := h.1 c1
    refine PW.aload_n g rfl rfl d_tk_placeOf_27 ?_
    refine PW.getI g fi_tk_34 rfl d_tk_placeOf_28 ?_
    exact PX.iret g hF rfl d_tk_placeOf_31 hL h
  · have h := h.2 c1
    refine PW.iload_n g rfl rfl d_tk_placeOf_4 ?_
    refine PW.aload_n g rfl rfl d_tk_placeOf_5 ?_
    refine PW.getI g fi_tk_24 rfl d_tk_placeOf_6 ?_
    refine PW.icmp_ge g 27 (by decide) d_tk_placeOf_9 (fun c2 => ?_) (fun c2 => ?_)
    · have h := h.1 c2
      refine PW.aload_n g rfl rfl d_tk_placeOf_27 ?_
      refine PW.getI g fi_tk_34 rfl d_tk_placeOf_28 ?_
      exact PX.iret g hF rfl d_tk_placeOf_31 hL h
    · have h := h.2 c2
      refine PW.iload_n g rfl rfl d_tk_placeOf_12 ?_
      refine PW.bipush g (120) (by decide) d_tk_placeOf_13 ?_
      refine PW.icmp_ge g 27 (by decide) d_tk_placeOf_15 (fun c3 => ?_) (fun c3 => ?_)
      · have h := h.1 c3
        refine PW.aload_n g rfl rfl d_tk_placeOf_27 ?_
        refine PW.getI g fi_tk_34 rfl d_tk_placeOf_28 ?_
        exact PX.iret g hF rfl d_tk_placeOf_31 hL h
      · have h := h.2 c3
        refine PW.aload_n g rfl rfl d_tk_placeOf_18 ?_
        refine PW.getR (q := 111) g fi_tk_15 rfl (hL 109 11 1 rfl (by decide)) d_tk_placeOf_19 ?_
        refine PW.iload_n g rfl rfl d_tk_placeOf_22 ?_
        refine PW.iald g rfl h.1 d_tk_placeOf_23 ?_
        have h := h.2
        refine PW.goto g 31 (by decide) d_tk_placeOf_24 ?_
        exact PX.iret g hF rfl d_tk_placeOf_31 hL h
def w_st_open (t : Nat) (a1 : Int32) (a2 : Int32) (a3 : Int32) (I : pI) (R : pR) (Q : Int32 → pI → pR → Prop) : Prop := (((61 : Int32) ≤ (I t 6) → Q ((I t 6) - (1 : Int32)) I R) ∧ (¬ (61 : Int32) ≤ (I t 6) → (vp_in (I t 6) 61 ∧ ∀ I1, I1 = pw_wI I (t + 1) (I t 6).toNatClampNeg a1 → (vp_in (I1 t 6) 61 ∧ ∀ I2, I2 = pw_wI I1 (t + 2) (I1 t 6).toNatClampNeg a2 → (vp_in (I2 t 6) 61 ∧ ∀ I3, I3 = pw_wI I2 (t + 4) (I2 t 6).toNatClampNeg a3 → (vp_in (I3 t 6) 61 ∧ ∀ I4, I4 = pw_wI I3 (t + 5) (I3 t 6).toNatClampNeg a3 → (vp_in (I4 t 6) 61 ∧ ∀ I5, I5 = pw_wI I4 (t + 6) (I4 t 6).toNatClampNeg (-1 : Int32) → (∀ I6, I6 = pw_wI I5 t 6 ((I5 t 6) + (1 : Int32)) → Q ((I6 t 6) - (1 : Int32)) I6 R))))))))
set_option maxHeartbeats 4000000 in
set_option maxRecDepth 100000 in
theorem c_st_open (d : Nat) {t : Nat} (ht : pSH[t]? = some (0, 10)) {a1 : Int32} {a2 : Int32} {a3 : Int32} {I : pI} {R : pR} {Q : Int32 → pI → pR → Prop} (hL : pw_Lay R) (h : w_st_open t a1 a2 a3 I R Q) : Cm (d + 1) m_st_open [.ref t, .int a1, .int a2, .int a3] I R (qi Q) := by
  refine Cm.of [some (.ref t), some (.int a1), some (.int a2), some (.int a3)] (by decide) rfl (Nat.le_of_ble_eq_true rfl) (by simp) (fun E B g hF => ?_)
  unfold w_st_open at h
  refine PW.aload_n g rfl rfl d_st_open_0 ?_
  refine PW.getI g fi_st_30 ht d_st_open_1 ?_
  refine PW.bipush g (61) (by decide) d_st_open_4 ?_
  refine PW.icmp_ge g 69 (by decide) d_st_open_6 (fun c1 => ?_) (fun c1 => ?_)
  · have h := h.1 c1
    refine PW.aload_n g rfl rfl d_st_open_69 ?_
    refine PW.getI g fi_st_30 ht d_st_open_70 ?_
    refine PW.iconst g (1) (by decide) d_st_open_73 ?_
    refine PW.isub g d_st_open_74 ?_
    exact PX.iret g hF rfl d_st_open_75 hL h
  · have h := h.2 c1
    refine PW.aload_n g rfl rfl d_st_open_9 ?_
    refine PW.getR (q := (t + 1)) g fi_st_9 ht (hL t 10 0 ht (by decide)) d_st_open_10 ?_
    refine PW.aload_n g rfl rfl d_st_open_13 ?_
    refine PW.getI g fi_st_30 ht d_st_open_14 ?_
    refine PW.iload_n g rfl rfl d_st_open_17 ?_
    refine PW.iast g (pw_shp ht 0 (by decide)) h.1 d_st_open_18 ?_
    refine PX.gI (fun I1 eI1 => ?_)
    have h := h.2 _ eI1
    refine PW.aload_n g rfl rfl d_st_open_19 ?_
    refine PW.getR (q := (t + 2)) g fi_st_15 ht (hL t 10 1 ht (by decide)) d_st_open_20 ?_
    refine PW.aload_n g rfl rfl d_st_open_23 ?_
    refine PW.getI g fi_st_30 ht d_st_open_24 ?_
    refine PW.iload_n g rfl rfl d_st_open_27 ?_
    refine PW.iast g (pw_shp ht 1 (by decide)) h.1 d_st_open_28 ?_
    refine PX.gI (fun I2 eI2 => ?_)
    have h := h.2 _ eI2
    refine PW.aload_n g rfl rfl d_st_open_29 ?_
    refine PW.getR (q := (t + 4)) g fi_st_21 ht (hL t 10 3 ht (by decide)) d_st_open_30 ?_
    refine PW.aload_n g rfl rfl d_st_open_33 ?_
    refine PW.getI g fi_st_30 ht d_st_open_34 ?_
    refine PW.iload_n g rfl rfl d_st_open_37 ?_
    refine PW.iast g (pw_shp ht 3 (by decide)) h.1 d_st_open_38 ?_
    refine PX.gI (fun I3 eI3 => ?_)
    have h := h.2 _ eI3
    refine PW.aload_n g rfl rfl d_st_open_39 ?_
    refine PW.getR (q := (t + 5)) g fi_st_24 ht (hL t 10 4 ht (by decide)) d_st_open_40 ?_
    refine PW.aload_n g rfl rfl d_st_open_43 ?_
    refine PW.getI g fi_st_30 ht d_st_open_44 ?_
    refine PW.iload_n g rfl rfl d_st_open_47 ?_
    refine PW.iast g (pw_shp ht 4 (by decide)) h.1 d_st_open_48 ?_
    refine PX.gI (fun I4 eI4 => ?_)
    have h := h.2 _ eI4
    refine PW.aload_n g rfl rfl d_st_open_49 ?_
    refine PW.getR (q := (t + 6)) g fi_st_27 ht (hL t 10 5 ht (by decide)) d_st_open_50 ?_
    refine PW.aload_n g rfl rfl d_st_open_53 ?_
    refine PW.getI g fi_st_30 ht d_st_open_54 ?_
    refine PW.iconst g (-1) (by decide) d_st_open_57 ?_
    refine PW.iast g (pw_shp ht 5 (by decide)) h.1 d_st_open_58 ?_
    refine PX.gI (fun I5 eI5 => ?_)
    have h := h.2 _ eI5
    refine PW.aload_n g rfl rfl d_st_open_59 ?_
    refine PW.dup g rfl d_st_open_60 ?_
    refine PW.getI g fi_st_30 ht d_st_open_61 ?_
    refine PW.iconst g (1) (by decide) d_st_open_64 ?_
    refine PW.iadd g d_st_open_65 ?_
    refine PW.putI g fi_st_30 ht rfl rfl d_st_open_66 ?_
    refine PX.gI (fun I6 eI6 => ?_)
    have h := h _ eI6
    refine PW.aload_n g rfl rfl d_st_open_69 ?_
    refine PW.getI g fi_st_30 ht d_st_open_70 ?_
    refine PW.iconst g (1) (by decide) d_st_open_73 ?_
    refine PW.isub g d_st_open_74 ?_
    exact PX.iret g hF rfl d_st_open_75 hL h
def w_tk_numberOf (a1 : Int32) (I : pI) (R : pR) (Q : Int32 → pI → pR → Prop) : Prop := ((a1 < 0 → Q (0 : Int32) I R) ∧ (¬ a1 < 0 → (((I 109 4) ≤ a1 → Q (0 : Int32) I R) ∧ (¬ (I 109 4) ≤ a1 → (((120 : Int32) ≤ a1 → Q (0 : Int32) I R) ∧ (¬ (120 : Int32) ≤ a1 → (vp_in a1 120 ∧ Q (I 113 a1.toNatClampNeg) I R)))))))
set_option maxHeartbeats 4000000 in
set_option maxRecDepth 100000 in
theorem c_tk_numberOf (d : Nat) {a1 : Int32} {I : pI} {R : pR} {Q : Int32 → pI → pR → Prop} (hL : pw_Lay R) (h : w_tk_numberOf a1 I R Q) : Cm (d + 1) m_tk_numberOf [.ref 109, .int a1] I R (qi Q) := by
  refine Cm.of [some (.ref 109), some (.int a1)] (by decide) rfl (Nat.le_of_ble_eq_true rfl) (by simp) (fun E B g hF => ?_)
  unfold w_tk_numberOf at h
  refine PW.iload_n g rfl rfl d_tk_numberOf_0 ?_
  refine PW.if_lt g 27 (by decide) d_tk_numberOf_1 (fun c1 => ?_) (fun c1 => ?_)
  · have h := h.1 c1
    refine PW.iconst g (0) (by decide) d_tk_numberOf_27 ?_
    exact PX.iret g hF rfl d_tk_numberOf_28 hL h
  · have h := h.2 c1
    refine PW.iload_n g rfl rfl d_tk_numberOf_4 ?_
    refine PW.aload_n g rfl rfl d_tk_numberOf_5 ?_
    refine PW.getI g fi_tk_24 rfl d_tk_numberOf_6 ?_
    refine PW.icmp_ge g 27 (by decide) d_tk_numberOf_9 (fun c2 => ?_) (fun c2 => ?_)
    · have h := h.1 c2
      refine PW.iconst g (0) (by decide) d_tk_numberOf_27 ?_
      exact PX.iret g hF rfl d_tk_numberOf_28 hL h
    · have h := h.2 c2
      refine PW.iload_n g rfl rfl d_tk_numberOf_12 ?_
      refine PW.bipush g (120) (by decide) d_tk_numberOf_13 ?_
      refine PW.icmp_ge g 27 (by decide) d_tk_numberOf_15 (fun c3 => ?_) (fun c3 => ?_)
      · have h := h.1 c3
        refine PW.iconst g (0) (by decide) d_tk_numberOf_27 ?_
        exact PX.iret g hF rfl d_tk_numberOf_28 hL h
      · have h := h.2 c3
        refine PW.aload_n g rfl rfl d_tk_numberOf_18 ?_
        refine PW.getR (q := 113) g fi_tk_21 rfl (hL 109 11 3 rfl (by decide)) d_tk_numberOf_19 ?_
        refine PW.iload_n g rfl rfl d_tk_numberOf_22 ?_
        refine PW.iald g rfl h.1 d_tk_numberOf_23 ?_
        have h := h.2
        refine PW.goto g 28 (by decide) d_tk_numberOf_24 ?_
        exact PX.iret g hF rfl d_tk_numberOf_28 hL h
def w_rl_add (t : Nat) (a1 : Int32) (a2 : Int32) (I : pI) (R : pR) (Q : Int32 → pI → pR → Prop) : Prop := (((22 : Int32) ≤ (I t 8) → Q ((I t 8) - (1 : Int32)) I R) ∧ (¬ (22 : Int32) ≤ (I t 8) → (vp_in (I t 8) 22 ∧ ∀ I1, I1 = pw_wI I (t + 1) (I t 8).toNatClampNeg a1 → (vp_in (I1 t 8) 22 ∧ ∀ I2, I2 = pw_wI I1 (t + 2) (I1 t 8).toNatClampNeg a2 → (vp_in (I2 t 8) 22 ∧ ∀ I3, I3 = pw_wI I2 (t + 6) (I2 t 8).toNatClampNeg (I2 t 9) → (vp_in (I3 t 8) 22 ∧ ∀ I4, I4 = pw_wI I3 (t + 7) (I3 t 8).toNatClampNeg (I3 t 9) → (∀ I5, I5 = pw_wI I4 t 8 ((I4 t 8) + (1 : Int32)) → Q ((I5 t 8) - (1 : Int32)) I5 R)))))))
set_option maxHeartbeats 4000000 in
set_option maxRecDepth 100000 in
theorem c_rl_add (d : Nat) {t : Nat} (ht : pSH[t]? = some (0, 8)) {a1 : Int32} {a2 : Int32} {I : pI} {R : pR} {Q : Int32 → pI → pR → Prop} (hL : pw_Lay R) (h : w_rl_add t a1 a2 I R Q) : Cm (d + 1) m_rl_add [.ref t, .int a1, .int a2] I R (qi Q) := by
  refine Cm.of [some (.ref t), some (.int a1), some (.int a2)] (by decide) rfl (Nat.le_of_ble_eq_true rfl) (by simp) (fun E B g hF => ?_)
  unfold w_rl_add at h
  refine PW.aload_n g rfl rfl d_rl_add_0 ?_
  refine PW.getI g fi_rl_36 ht d_rl_add_1 ?_
  refine PW.bipush g (22) (by decide) d_rl_add_4 ?_
  refine PW.icmp_ge g 65 (by decide) d_rl_add_6 (fun c1 => ?_) (fun c1 => ?_)
  · have h := h.1 c1
    refine PW.aload_n g rfl rfl d_rl_add_65 ?_
    refine PW.getI g fi_rl_36 ht d_rl_add_66 ?_
    refine PW.iconst g (1) (by decide) d_rl_add_69 ?_
    refine PW.isub g d_rl_add_70 ?_
    exact PX.iret g hF rfl d_rl_add_71 hL h
  · have h := h.2 c1
    refine PW.aload_n g rfl rfl d_rl_add_9 ?_
    refine PW.getR (q := (t + 1)) g fi_rl_9 ht (hL t 8 0 ht (by decide)) d_rl_add_10 ?_
    refine PW.aload_n g rfl rfl d_rl_add_13 ?_
    refine PW.getI g fi_rl_36 ht d_rl_add_14 ?_
    refine PW.iload_n g rfl rfl d_rl_add_17 ?_
    refine PW.iast g (pw_shp ht 0 (by decide)) h.1 d_rl_add_18 ?_
    refine PX.gI (fun I1 eI1 => ?_)
    have h := h.2 _ eI1
    refine PW.aload_n g rfl rfl d_rl_add_19 ?_
    refine PW.getR (q := (t + 2)) g fi_rl_15 ht (hL t 8 1 ht (by decide)) d_rl_add_20 ?_
    refine PW.aload_n g rfl rfl d_rl_add_23 ?_
    refine PW.getI g fi_rl_36 ht d_rl_add_24 ?_
    refine PW.iload_n g rfl rfl d_rl_add_27 ?_
    refine PW.iast g (pw_shp ht 1 (by decide)) h.1 d_rl_add_28 ?_
    refine PX.gI (fun I2 eI2 => ?_)
    have h := h.2 _ eI2
    refine PW.aload_n g rfl rfl d_rl_add_29 ?_
    refine PW.getR (q := (t + 6)) g fi_rl_27 ht (hL t 8 5 ht (by decide)) d_rl_add_30 ?_
    refine PW.aload_n g rfl rfl d_rl_add_33 ?_
    refine PW.getI g fi_rl_36 ht d_rl_add_34 ?_
    refine PW.aload_n g rfl rfl d_rl_add_37 ?_
    refine PW.getI g fi_rl_40 ht d_rl_add_38 ?_
    refine PW.iast g (pw_shp ht 5 (by decide)) h.1 d_rl_add_41 ?_
    refine PX.gI (fun I3 eI3 => ?_)
    have h := h.2 _ eI3
    refine PW.aload_n g rfl rfl d_rl_add_42 ?_
    refine PW.getR (q := (t + 7)) g fi_rl_30 ht (hL t 8 6 ht (by decide)) d_rl_add_43 ?_
    refine PW.aload_n g rfl rfl d_rl_add_46 ?_
    refine PW.getI g fi_rl_36 ht d_rl_add_47 ?_
    refine PW.aload_n g rfl rfl d_rl_add_50 ?_
    refine PW.getI g fi_rl_40 ht d_rl_add_51 ?_
    refine PW.iast g (pw_shp ht 6 (by decide)) h.1 d_rl_add_54 ?_
    refine PX.gI (fun I4 eI4 => ?_)
    have h := h.2 _ eI4
    refine PW.aload_n g rfl rfl d_rl_add_55 ?_
    refine PW.dup g rfl d_rl_add_56 ?_
    refine PW.getI g fi_rl_36 ht d_rl_add_57 ?_
    refine PW.iconst g (1) (by decide) d_rl_add_60 ?_
    refine PW.iadd g d_rl_add_61 ?_
    refine PW.putI g fi_rl_36 ht rfl rfl d_rl_add_62 ?_
    refine PX.gI (fun I5 eI5 => ?_)
    have h := h _ eI5
    refine PW.aload_n g rfl rfl d_rl_add_65 ?_
    refine PW.getI g fi_rl_36 ht d_rl_add_66 ?_
    refine PW.iconst g (1) (by decide) d_rl_add_69 ?_
    refine PW.isub g d_rl_add_70 ?_
    exact PX.iret g hF rfl d_rl_add_71 hL h
def w_rl_aim (t : Nat) (a1 : Int32) (a2 : Int32) (a3 : Int32) (a4 : Int32) (I : pI) (R : pR) (Q : pI → pR → Prop) : Prop := (w_sr_put (t + 3) 22 a1 a2 I R (fun I1 R1 => (w_sr_put (t + 4) 22 a1 a3 I1 R1 (fun I2 R2 => (w_sr_put (t + 5) 22 a1 a4 I2 R2 (fun I3 R3 => Q I3 R3))))))
set_option maxHeartbeats 4000000 in
set_option maxRecDepth 100000 in
theorem c_rl_aim (d : Nat) {t : Nat} (ht : pSH[t]? = some (0, 8)) {a1 : Int32} {a2 : Int32} {a3 : Int32} {a4 : Int32} {I : pI} {R : pR} {Q : pI → pR → Prop} (hL : pw_Lay R) (h : w_rl_aim t a1 a2 a3 a4 I R Q) : Cm (d + 2) m_rl_aim [.ref t, .int a1, .int a2, .int a3, .int a4] I R (qv Q) := by
  refine Cm.of [some (.ref t), some (.int a1), some (.int a2), some (.int a3), some (.int a4)] (by decide) rfl (Nat.le_of_ble_eq_true rfl) (by simp) (fun E B g hF => ?_)
  unfold w_rl_aim at h
  refine PW.aload_n g rfl rfl d_rl_aim_0 ?_
  refine PW.getR (q := (t + 3)) g fi_rl_18 ht (hL t 8 2 ht (by decide)) d_rl_aim_1 ?_
  refine PW.iload_n g rfl rfl d_rl_aim_4 ?_
  refine PW.iload_n g rfl rfl d_rl_aim_5 ?_
  refine PX.cSv [.ref (t + 3), .int a1, .int a2] [] g (c_sr_put d (pw_shp ht 2 (by decide)) hL h) cl_rl_43 (by omega) (by decide) rfl rfl (Nat.le_of_ble_eq_true rfl) d_rl_aim_6 (fun I1 R1 hL h => ?_)
  refine PW.aload_n g rfl rfl d_rl_aim_9 ?_
  refine PW.getR (q := (t + 4)) g fi_rl_21 ht (hL t 8 3 ht (by decide)) d_rl_aim_10 ?_
  refine PW.iload_n g rfl rfl d_rl_aim_13 ?_
  refine PW.iload_n g rfl rfl d_rl_aim_14 ?_
  refine PX.cSv [.ref (t + 4), .int a1, .int a3] [] g (c_sr_put d (pw_shp ht 3 (by decide)) hL h) cl_rl_43 (by omega) (by decide) rfl rfl (Nat.le_of_ble_eq_true rfl) d_rl_aim_15 (fun I2 R2 hL h => ?_)
  refine PW.aload_n g rfl rfl d_rl_aim_18 ?_
  refine PW.getR (q := (t + 5)) g fi_rl_24 ht (hL t 8 4 ht (by decide)) d_rl_aim_19 ?_
  refine PW.iload_n g rfl rfl d_rl_aim_22 ?_
  refine PW.iload g rfl d_rl_aim_23 ?_
  refine PX.cSv [.ref (t + 5), .int a1, .int a4] [] g (c_sr_put d (pw_shp ht 4 (by decide)) hL h) cl_rl_43 (by omega) (by decide) rfl rfl (Nat.le_of_ble_eq_true rfl) d_rl_aim_25 (fun I3 R3 hL h => ?_)
  exact PX.vret g hF rfl d_rl_aim_28 hL h
def w_rl_addAnswer (t : Nat) (a1 : Int32) (a2 : Int32) (I : pI) (R : pR) (Q : pI → pR → Prop) : Prop := (((61 : Int32) ≤ (I t 9) → Q I R) ∧ (¬ (61 : Int32) ≤ (I t 9) → (vp_in (I t 9) 61 ∧ ∀ I1, I1 = pw_wI I (t + 8) (I t 9).toNatClampNeg a2 → (∀ I2, I2 = pw_wI I1 t 9 ((I1 t 9) + (1 : Int32)) → (w_sr_put (t + 7) 22 a1 (I2 t 9) I2 R (fun I3 R1 => Q I3 R1))))))
set_option maxHeartbeats 4000000 in
set_option maxRecDepth 100000 in
theorem c_rl_addAnswer (d : Nat) {t : Nat} (ht : pSH[t]? = some (0, 8)) {a1 : Int32} {a2 : Int32} {I : pI} {R : pR} {Q : pI → pR → Prop} (hL : pw_Lay R) (h : w_rl_addAnswer t a1 a2 I R Q) : Cm (d + 2) m_rl_addAnswer [.ref t, .int a1, .int a2] I R (qv Q) := by
  refine Cm.of [some (.ref t), some (.int a1), some (.int a2)] (by decide) rfl (Nat.le_of_ble_eq_true rfl) (by simp) (fun E B g hF => ?_)
  unfold w_rl_addAnswer at h
  refine PW.aload_n g rfl rfl d_rl_addAnswer_0 ?_
  refine PW.getI g fi_rl_40 ht d_rl_addAnswer_1 ?_
  refine PW.bipush g (61) (by decide) d_rl_addAnswer_4 ?_
  refine PW.icmp_ge g 41 (by decide) d_rl_addAnswer_6 (fun c1 => ?_) (fun c1 => ?_)
  · have h := h.1 c1
    exact PX.vret g hF rfl d_rl_addAnswer_41 hL h
  · have h := h.2 c1
    refine PW.aload_n g rfl rfl d_rl_addAnswer_9 ?_
    refine PW.getR (q := (t + 8)) g fi_rl_33 ht (hL t 8 7 ht (by decide)) d_rl_addAnswer_10 ?_
    refine PW.aload_n g rfl rfl d_rl_addAnswer_13 ?_
    refine PW.getI g fi_rl_40 ht d_rl_addAnswer_14 ?_
    refine PW.iload_n g rfl rfl d_rl_addAnswer_17 ?_
    refine PW.iast g (pw_shp ht 7 (by decide)) h.1 d_rl_addAnswer_18 ?_
    refine PX.gI (fun I1 eI1 => ?_)
    have h := h.2 _ eI1
    refine PW.aload_n g rfl rfl d_rl_addAnswer_19 ?_
    refine PW.dup g rfl d_rl_addAnswer_20 ?_
    refine PW.getI g fi_rl_40 ht d_rl_addAnswer_21 ?_
    refine PW.iconst g (1) (by decide) d_rl_addAnswer_24 ?_
    refine PW.iadd g d_rl_addAnswer_25 ?_
    refine PW.putI g fi_rl_40 ht rfl rfl d_rl_addAnswer_26 ?_
    refine PX.gI (fun I2 eI2 => ?_)
    have h := h _ eI2
    refine PW.aload_n g rfl rfl d_rl_addAnswer_29 ?_
    refine PW.getR (q := (t + 7)) g fi_rl_30 ht (hL t 8 6 ht (by decide)) d_rl_addAnswer_30 ?_
    refine PW.iload_n g rfl rfl d_rl_addAnswer_33 ?_
    refine PW.aload_n g rfl rfl d_rl_addAnswer_34 ?_
    refine PW.getI g fi_rl_40 ht d_rl_addAnswer_35 ?_
    refine PX.cSv [.ref (t + 7), .int a1, .int (I2 t 9)] [] g (c_sr_put d (pw_shp ht 6 (by decide)) hL h) cl_rl_43 (by omega) (by decide) rfl rfl (Nat.le_of_ble_eq_true rfl) d_rl_addAnswer_38 (fun I3 R1 hL h => ?_)
    exact PX.vret g hF rfl d_rl_addAnswer_41 hL h
def w_cd_add (t : Nat) (a1 : Int32) (a2 : Int32) (a3 : Int32) (I : pI) (R : pR) (Q : Int32 → pI → pR → Prop) : Prop := (((120 : Int32) ≤ (I t 4) → Q ((I t 4) - (1 : Int32)) I R) ∧ (¬ (120 : Int32) ≤ (I t 4) → (vp_in (I t 4) 120 ∧ ∀ I1, I1 = pw_wI I (t + 1) (I t 4).toNatClampNeg a1 → (vp_in (I1 t 4) 120 ∧ ∀ I2, I2 = pw_wI I1 (t + 2) (I1 t 4).toNatClampNeg a2 → (vp_in (I2 t 4) 120 ∧ ∀ I3, I3 = pw_wI I2 (t + 3) (I2 t 4).toNatClampNeg ((I2 t 4) + (1 : Int32)) → (vp_in (I3 t 4) 120 ∧ ∀ I4, I4 = pw_wI I3 (t + 4) (I3 t 4).toNatClampNeg a3 → (∀ I5, I5 = pw_wI I4 t 4 ((I4 t 4) + (1 : Int32)) → Q ((I5 t 4) - (1 : Int32)) I5 R)))))))
set_option maxHeartbeats 4000000 in
set_option maxRecDepth 100000 in
theorem c_cd_add (d : Nat) {t : Nat} (ht : pSH[t]? = some (0, 2)) {a1 : Int32} {a2 : Int32} {a3 : Int32} {I : pI} {R : pR} {Q : Int32 → pI → pR → Prop} (hL : pw_Lay R) (h : w_cd_add t a1 a2 a3 I R Q) : Cm (d + 1) m_cd_add [.ref t, .int a1, .int a2, .int a3] I R (qi Q) := by
  refine Cm.of [some (.ref t), some (.int a1), some (.int a2), some (.int a3)] (by decide) rfl (Nat.le_of_ble_eq_true rfl) (by simp) (fun E B g hF => ?_)
  unfold w_cd_add at h
  refine PW.aload_n g rfl rfl d_cd_add_0 ?_
  refine PW.getI g fi_cd_24 ht d_cd_add_1 ?_
  refine PW.bipush g (120) (by decide) d_cd_add_4 ?_
  refine PW.icmp_ge g 64 (by decide) d_cd_add_6 (fun c1 => ?_) (fun c1 => ?_)
  · have h := h.1 c1
    refine PW.aload_n g rfl rfl d_cd_add_64 ?_
    refine PW.getI g fi_cd_24 ht d_cd_add_65 ?_
    refine PW.iconst g (1) (by decide) d_cd_add_68 ?_
    refine PW.isub g d_cd_add_69 ?_
    exact PX.iret g hF rfl d_cd_add_70 hL h
  · have h := h.2 c1
    refine PW.aload_n g rfl rfl d_cd_add_9 ?_
    refine PW.getR (q := (t + 1)) g fi_cd_9 ht (hL t 2 0 ht (by decide)) d_cd_add_10 ?_
    refine PW.aload_n g rfl rfl d_cd_add_13 ?_
    refine PW.getI g fi_cd_24 ht d_cd_add_14 ?_
    refine PW.iload_n g rfl rfl d_cd_add_17 ?_
    refine PW.iast g (pw_shp ht 0 (by decide)) h.1 d_cd_add_18 ?_
    refine PX.gI (fun I1 eI1 => ?_)
    have h := h.2 _ eI1
    refine PW.aload_n g rfl rfl d_cd_add_19 ?_
    refine PW.getR (q := (t + 2)) g fi_cd_15 ht (hL t 2 1 ht (by decide)) d_cd_add_20 ?_
    refine PW.aload_n g rfl rfl d_cd_add_23 ?_
    refine PW.getI g fi_cd_24 ht d_cd_add_24 ?_
    refine PW.iload_n g rfl rfl d_cd_add_27 ?_
    refine PW.iast g (pw_shp ht 1 (by decide)) h.1 d_cd_add_28 ?_
    refine PX.gI (fun I2 eI2 => ?_)
    have h := h.2 _ eI2
    refine PW.aload_n g rfl rfl d_cd_add_29 ?_
    refine PW.getR (q := (t + 3)) g fi_cd_18 ht (hL t 2 2 ht (by decide)) d_cd_add_30 ?_
    refine PW.aload_n g rfl rfl d_cd_add_33 ?_
    refine PW.getI g fi_cd_24 ht d_cd_add_34 ?_
    refine PW.aload_n g rfl rfl d_cd_add_37 ?_
    refine PW.getI g fi_cd_24 ht d_cd_add_38 ?_
    refine PW.iconst g (1) (by decide) d_cd_add_41 ?_
    refine PW.iadd g d_cd_add_42 ?_
    refine PW.iast g (pw_shp ht 2 (by decide)) h.1 d_cd_add_43 ?_
    refine PX.gI (fun I3 eI3 => ?_)
    have h := h.2 _ eI3
    refine PW.aload_n g rfl rfl d_cd_add_44 ?_
    refine PW.getR (q := (t + 4)) g fi_cd_21 ht (hL t 2 3 ht (by decide)) d_cd_add_45 ?_
    refine PW.aload_n g rfl rfl d_cd_add_48 ?_
    refine PW.getI g fi_cd_24 ht d_cd_add_49 ?_
    refine PW.iload_n g rfl rfl d_cd_add_52 ?_
    refine PW.iast g (pw_shp ht 3 (by decide)) h.1 d_cd_add_53 ?_
    refine PX.gI (fun I4 eI4 => ?_)
    have h := h.2 _ eI4
    refine PW.aload_n g rfl rfl d_cd_add_54 ?_
    refine PW.dup g rfl d_cd_add_55 ?_
    refine PW.getI g fi_cd_24 ht d_cd_add_56 ?_
    refine PW.iconst g (1) (by decide) d_cd_add_59 ?_
    refine PW.iadd g d_cd_add_60 ?_
    refine PW.putI g fi_cd_24 ht rfl rfl d_cd_add_61 ?_
    refine PX.gI (fun I5 eI5 => ?_)
    have h := h _ eI5
    refine PW.aload_n g rfl rfl d_cd_add_64 ?_
    refine PW.getI g fi_cd_24 ht d_cd_add_65 ?_
    refine PW.iconst g (1) (by decide) d_cd_add_68 ?_
    refine PW.isub g d_cd_add_69 ?_
    exact PX.iret g hF rfl d_cd_add_70 hL h
def w_cd_aim (t : Nat) (a1 : Int32) (I : pI) (R : pR) (Q : pI → pR → Prop) : Prop := (w_sr_put (t + 3) 120 a1 (if (a1 + (1 : Int32)) < (I t 4) then (I t 4) else (a1 + (1 : Int32))) I R (fun I1 R1 => Q I1 R1))
set_option maxHeartbeats 4000000 in
set_option maxRecDepth 100000 in
theorem c_cd_aim (d : Nat) {t : Nat} (ht : pSH[t]? = some (0, 2)) {a1 : Int32} {I : pI} {R : pR} {Q : pI → pR → Prop} (hL : pw_Lay R) (h : w_cd_aim t a1 I R Q) : Cm (d + 2) m_cd_aim [.ref t, .int a1] I R (qv Q) := by
  refine Cm.of [some (.ref t), some (.int a1)] (by decide) rfl (Nat.le_of_ble_eq_true rfl) (by simp) (fun E B g hF => ?_)
  unfold w_cd_aim at h
  refine PW.aload_n g rfl rfl d_cd_aim_0 ?_
  refine PW.getR (q := (t + 3)) g fi_cd_18 ht (hL t 2 2 ht (by decide)) d_cd_aim_1 ?_
  refine PW.iload_n g rfl rfl d_cd_aim_4 ?_
  refine PW.iload_n g rfl rfl d_cd_aim_5 ?_
  refine PW.iconst g (1) (by decide) d_cd_aim_6 ?_
  refine PW.iadd g d_cd_aim_7 ?_
  refine PW.aload_n g rfl rfl d_cd_aim_8 ?_
  refine PW.getI g fi_cd_24 ht d_cd_aim_9 ?_
  refine PX.mmax g (pw_gw 797 (by decide +kernel) (by decide +kernel)) (by omega) rfl (Nat.le_of_ble_eq_true rfl) d_cd_aim_12 ?_
  refine PX.cSv [.ref (t + 3), .int a1, .int (if (a1 + (1 : Int32)) < (I t 4) then (I t 4) else (a1 + (1 : Int32)))] [] g (c_sr_put d (pw_shp ht 2 (by decide)) hL h) cl_cd_34 (by omega) (by decide) rfl rfl (Nat.le_of_ble_eq_true rfl) d_cd_aim_15 (fun I1 R1 hL h => ?_)
  exact PX.vret g hF rfl d_cd_aim_18 hL h
def w_tk_endOf (a1 : Int32) (I : pI) (R : pR) (Q : Int32 → pI → pR → Prop) : Prop := ((a1 < 0 → Q (0 : Int32) I R) ∧ (¬ a1 < 0 → (((I 109 4) ≤ a1 → Q (0 : Int32) I R) ∧ (¬ (I 109 4) ≤ a1 → (((120 : Int32) ≤ a1 → Q (0 : Int32) I R) ∧ (¬ (120 : Int32) ≤ a1 → (vp_in a1 120 ∧ Q (I 112 a1.toNatClampNeg) I R)))))))
set_option maxHeartbeats 4000000 in
set_option maxRecDepth 100000 in
theorem c_tk_endOf (d : Nat) {a1 : Int32} {I : pI} {R : pR} {Q : Int32 → pI → pR → Prop} (hL : pw_Lay R) (h : w_tk_endOf a1 I R Q) : Cm (d + 1) m_tk_endOf [.ref 109, .int a1] I R (qi Q) := by
  refine Cm.of [some (.ref 109), some (.int a1)] (by decide) rfl (Nat.le_of_ble_eq_true rfl) (by simp) (fun E B g hF => ?_)
  unfold w_tk_endOf at h
  refine PW.iload_n g rfl rfl d_tk_endOf_0 ?_
  refine PW.if_lt g 27 (by decide) d_tk_endOf_1 (fun c1 => ?_) (fun c1 => ?_)
  · have h := h.1 c1
    refine PW.iconst g (0) (by decide) d_tk_endOf_27 ?_
    exact PX.iret g hF rfl d_tk_endOf_28 hL h
  · have h := h.2 c1
    refine PW.iload_n g rfl rfl d_tk_endOf_4 ?_
    refine PW.aload_n g rfl rfl d_tk_endOf_5 ?_
    refine PW.getI g fi_tk_24 rfl d_tk_endOf_6 ?_
    refine PW.icmp_ge g 27 (by decide) d_tk_endOf_9 (fun c2 => ?_) (fun c2 => ?_)
    · have h := h.1 c2
      refine PW.iconst g (0) (by decide) d_tk_endOf_27 ?_
      exact PX.iret g hF rfl d_tk_endOf_28 hL h
    · have h := h.2 c2
      refine PW.iload_n g rfl rfl d_tk_endOf_12 ?_
      refine PW.bipush g (120) (by decide) d_tk_endOf_13 ?_
      refine PW.icmp_ge g 27 (by decide) d_tk_endOf_15 (fun c3 => ?_) (fun c3 => ?_)
      · have h := h.1 c3
        refine PW.iconst g (0) (by decide) d_tk_endOf_27 ?_
        exact PX.iret g hF rfl d_tk_endOf_28 hL h
      · have h := h.2 c3
        refine PW.aload_n g rfl rfl d_tk_endOf_18 ?_
        refine PW.getR (q := 112) g fi_tk_18 rfl (hL 109 11 2 rfl (by decide)) d_tk_endOf_19 ?_
        refine PW.iload_n g rfl rfl d_tk_endOf_22 ?_
        refine PW.iald g rfl h.1 d_tk_endOf_23 ?_
        have h := h.2
        refine PW.goto g 28 (by decide) d_tk_endOf_24 ?_
        exact PX.iret g hF rfl d_tk_endOf_28 hL h
def w_st_close (t : Nat) (a1 : Int32) (a2 : Int32) (a3 : Int32) (I : pI) (R : pR) (Q : pI → pR → Prop) : Prop := (w_sr_put (t + 3) 61 a1 a2 I R (fun I1 R1 => (w_sr_put (t + 5) 61 a1 a3 I1 R1 (fun I2 R2 => Q I2 R2))))
set_option maxHeartbeats 4000000 in
set_option maxRecDepth 100000 in
theorem c_st_close (d : Nat) {t : Nat} (ht : pSH[t]? = some (0, 10)) {a1 : Int32} {a2 : Int32} {a3 : Int32} {I : pI} {R : pR} {Q : pI → pR → Prop} (hL : pw_Lay R) (h : w_st_close t a1 a2 a3 I R Q) : Cm (d + 2) m_st_close [.ref t, .int a1, .int a2, .int a3] I R (qv Q) := by
  refine Cm.of [some (.ref t), some (.int a1), some (.int a2), some (.int a3)] (by decide) rfl (Nat.le_of_ble_eq_true rfl) (by simp) (fun E B g hF => ?_)
  unfold w_st_close at h
  refine PW.aload_n g rfl rfl d_st_close_0 ?_
  refine PW.getR (q := (t + 3)) g fi_st_18 ht (hL t 10 2 ht (by decide)) d_st_close_1 ?_
  refine PW.iload_n g rfl rfl d_st_close_4 ?_
  refine PW.iload_n g rfl rfl d_st_close_5 ?_
  refine PX.cSv [.ref (t + 3), .int a1, .int a2] [] g (c_sr_put d (pw_shp ht 2 (by decide)) hL h) cl_st_34 (by omega) (by decide) rfl rfl (Nat.le_of_ble_eq_true rfl) d_st_close_6 (fun I1 R1 hL h => ?_)
  refine PW.aload_n g rfl rfl d_st_close_9 ?_
  refine PW.getR (q := (t + 5)) g fi_st_24 ht (hL t 10 4 ht (by decide)) d_st_close_10 ?_
  refine PW.iload_n g rfl rfl d_st_close_13 ?_
  refine PW.iload_n g rfl rfl d_st_close_14 ?_
  refine PX.cSv [.ref (t + 5), .int a1, .int a3] [] g (c_sr_put d (pw_shp ht 4 (by decide)) hL h) cl_st_34 (by omega) (by decide) rfl rfl (Nat.le_of_ble_eq_true rfl) d_st_close_15 (fun I2 R2 hL h => ?_)
  exact PX.vret g hF rfl d_st_close_18 hL h
def w_st_kindOf (t : Nat) (a1 : Int32) (I : pI) (R : pR) (Q : Int32 → pI → pR → Prop) : Prop := ((a1 < 0 → Q (-1 : Int32) I R) ∧ (¬ a1 < 0 → (((I t 6) ≤ a1 → Q (-1 : Int32) I R) ∧ (¬ (I t 6) ≤ a1 → (((61 : Int32) ≤ a1 → Q (-1 : Int32) I R) ∧ (¬ (61 : Int32) ≤ a1 → (vp_in a1 61 ∧ Q (I (t + 1) a1.toNatClampNeg) I R)))))))
set_option maxHeartbeats 4000000 in
set_option maxRecDepth 100000 in
theorem c_st_kindOf (d : Nat) {t : Nat} (ht : pSH[t]? = some (0, 10)) {a1 : Int32} {I : pI} {R : pR} {Q : Int32 → pI → pR → Prop} (hL : pw_Lay R) (h : w_st_kindOf t a1 I R Q) : Cm (d + 1) m_st_kindOf [.ref t, .int a1] I R (qi Q) := by
  refine Cm.of [some (.ref t), some (.int a1)] (by decide) rfl (Nat.le_of_ble_eq_true rfl) (by simp) (fun E B g hF => ?_)
  unfold w_st_kindOf at h
  refine PW.iload_n g rfl rfl d_st_kindOf_0 ?_
  refine PW.if_lt g 27 (by decide) d_st_kindOf_1 (fun c1 => ?_) (fun c1 => ?_)
  · have h := h.1 c1
    refine PW.iconst g (-1) (by decide) d_st_kindOf_27 ?_
    exact PX.iret g hF rfl d_st_kindOf_28 hL h
  · have h := h.2 c1
    refine PW.iload_n g rfl rfl d_st_kindOf_4 ?_
    refine PW.aload_n g rfl rfl d_st_kindOf_5 ?_
    refine PW.getI g fi_st_30 ht d_st_kindOf_6 ?_
    refine PW.icmp_ge g 27 (by decide) d_st_kindOf_9 (fun c2 => ?_) (fun c2 => ?_)
    · have h := h.1 c2
      refine PW.iconst g (-1) (by decide) d_st_kindOf_27 ?_
      exact PX.iret g hF rfl d_st_kindOf_28 hL h
    · have h := h.2 c2
      refine PW.iload_n g rfl rfl d_st_kindOf_12 ?_
      refine PW.bipush g (61) (by decide) d_st_kindOf_13 ?_
      refine PW.icmp_ge g 27 (by decide) d_st_kindOf_15 (fun c3 => ?_) (fun c3 => ?_)
      · have h := h.1 c3
        refine PW.iconst g (-1) (by decide) d_st_kindOf_27 ?_
        exact PX.iret g hF rfl d_st_kindOf_28 hL h
      · have h := h.2 c3
        refine PW.aload_n g rfl rfl d_st_kindOf_18 ?_
        refine PW.getR (q := (t + 1)) g fi_st_9 ht (hL t 10 0 ht (by decide)) d_st_kindOf_19 ?_
        refine PW.iload_n g rfl rfl d_st_kindOf_22 ?_
        refine PW.iald g (pw_shp ht 0 (by decide)) h.1 d_st_kindOf_23 ?_
        have h := h.2
        refine PW.goto g 28 (by decide) d_st_kindOf_24 ?_
        exact PX.iret g hF rfl d_st_kindOf_28 hL h
def w_st_placeOf (t : Nat) (a1 : Int32) (I : pI) (R : pR) (Q : Int32 → pI → pR → Prop) : Prop := ((a1 < 0 → Q (-1 : Int32) I R) ∧ (¬ a1 < 0 → (((I t 6) ≤ a1 → Q (-1 : Int32) I R) ∧ (¬ (I t 6) ≤ a1 → (((61 : Int32) ≤ a1 → Q (-1 : Int32) I R) ∧ (¬ (61 : Int32) ≤ a1 → (vp_in a1 61 ∧ Q (I (t + 2) a1.toNatClampNeg) I R)))))))
set_option maxHeartbeats 4000000 in
set_option maxRecDepth 100000 in
theorem c_st_placeOf (d : Nat) {t : Nat} (ht : pSH[t]? = some (0, 10)) {a1 : Int32} {I : pI} {R : pR} {Q : Int32 → pI → pR → Prop} (hL : pw_Lay R) (h : w_st_placeOf t a1 I R Q) : Cm (d + 1) m_st_placeOf [.ref t, .int a1] I R (qi Q) := by
  refine Cm.of [some (.ref t), some (.int a1)] (by decide) rfl (Nat.le_of_ble_eq_true rfl) (by simp) (fun E B g hF => ?_)
  unfold w_st_placeOf at h
  refine PW.iload_n g rfl rfl d_st_placeOf_0 ?_
  refine PW.if_lt g 27 (by decide) d_st_placeOf_1 (fun c1 => ?_) (fun c1 => ?_)
  · have h := h.1 c1
    refine PW.iconst g (-1) (by decide) d_st_placeOf_27 ?_
    exact PX.iret g hF rfl d_st_placeOf_28 hL h
  · have h := h.2 c1
    refine PW.iload_n g rfl rfl d_st_placeOf_4 ?_
    refine PW.aload_n g rfl rfl d_st_placeOf_5 ?_
    refine PW.getI g fi_st_30 ht d_st_placeOf_6 ?_
    refine PW.icmp_ge g 27 (by decide) d_st_placeOf_9 (fun c2 => ?_) (fun c2 => ?_)
    · have h := h.1 c2
      refine PW.iconst g (-1) (by decide) d_st_placeOf_27 ?_
      exact PX.iret g hF rfl d_st_placeOf_28 hL h
    · have h := h.2 c2
      refine PW.iload_n g rfl rfl d_st_placeOf_12 ?_
      refine PW.bipush g (61) (by decide) d_st_placeOf_13 ?_
      refine PW.icmp_ge g 27 (by decide) d_st_placeOf_15 (fun c3 => ?_) (fun c3 => ?_)
      · have h := h.1 c3
        refine PW.iconst g (-1) (by decide) d_st_placeOf_27 ?_
        exact PX.iret g hF rfl d_st_placeOf_28 hL h
      · have h := h.2 c3
        refine PW.aload_n g rfl rfl d_st_placeOf_18 ?_
        refine PW.getR (q := (t + 2)) g fi_st_15 ht (hL t 10 1 ht (by decide)) d_st_placeOf_19 ?_
        refine PW.iload_n g rfl rfl d_st_placeOf_22 ?_
        refine PW.iald g (pw_shp ht 1 (by decide)) h.1 d_st_placeOf_23 ?_
        have h := h.2
        refine PW.goto g 28 (by decide) d_st_placeOf_24 ?_
        exact PX.iret g hF rfl d_st_placeOf_28 hL h
def j_rl_isFor_54 (t : Nat) (Q : Int32 → pI → pR → Prop) (x1 : Int32) (x3 : Int32) (s0 : Int32) (I : pI) (R : pR) : Prop := (vp_in x1 22 ∧ ((¬ (I (t + 5) x1.toNatClampNeg) = x3 → ((¬ s0 = (0 : Int32) → Q (0 : Int32) I R) ∧ (s0 = (0 : Int32) → Q (1 : Int32) I R))) ∧ ((I (t + 5) x1.toNatClampNeg) = x3 → ((¬ s0 = (1 : Int32) → Q (0 : Int32) I R) ∧ (s0 = (1 : Int32) → Q (1 : Int32) I R)))))
set_option maxHeartbeats 4000000 in
set_option maxRecDepth 100000 in
theorem J_rl_isFor_54 (d : Nat) {t : Nat} (ht : pSH[t]? = some (0, 8)) {Q : Int32 → pI → pR → Prop} {x1 : Int32} {x3 : Int32} {s0 : Int32} {E : pE} {B : pB} (g : pw_G m_rl_isFor (d + 1) 0 0 E B) (hF : pX (qz Q) E B) {I : pI} {R : pR} (hL : pw_Lay R) (h : j_rl_isFor_54 t Q x1 x3 s0 I R) : PX E B m_rl_isFor.2.2.1 54 [some (.ref t), some (.int x1), none, some (.int x3)] [.int s0] I R := by
  unfold j_rl_isFor_54 at h
  refine PW.aload_n g rfl rfl d_rl_isFor_54 ?_
  refine PW.getR (q := (t + 5)) g fi_rl_24 ht (hL t 8 4 ht (by decide)) d_rl_isFor_55 ?_
  refine PW.iload_n g rfl rfl d_rl_isFor_58 ?_
  refine PW.iald g (pw_shp ht 4 (by decide)) h.1 d_rl_isFor_59 ?_
  have h := h.2
  refine PW.iload_n g rfl rfl d_rl_isFor_60 ?_
  refine PW.icmp_ne g 68 (by decide) d_rl_isFor_61 (fun c7 => ?_) (fun c7 => ?_)
  · have h := h.1 c7
    refine PW.iconst g (0) (by decide) d_rl_isFor_68 ?_
    refine PW.icmp_ne g 76 (by decide) d_rl_isFor_69 (fun c8 => ?_) (fun c8 => ?_)
    · have h := h.1 c8
      refine PW.iconst g (0) (by decide) d_rl_isFor_76 ?_
      exact PX.zret g hF rfl (Or.inl rfl) d_rl_isFor_77 hL h
    · have h := h.2 c8
      refine PW.iconst g (1) (by decide) d_rl_isFor_72 ?_
      refine PW.goto g 77 (by decide) d_rl_isFor_73 ?_
      exact PX.zret g hF rfl (Or.inr rfl) d_rl_isFor_77 hL h
  · have h := h.2 c7
    refine PW.iconst g (1) (by decide) d_rl_isFor_64 ?_
    refine PW.goto g 69 (by decide) d_rl_isFor_65 ?_
    refine PW.icmp_ne g 76 (by decide) d_rl_isFor_69 (fun c9 => ?_) (fun c9 => ?_)
    · have h := h.1 c9
      refine PW.iconst g (0) (by decide) d_rl_isFor_76 ?_
      exact PX.zret g hF rfl (Or.inl rfl) d_rl_isFor_77 hL h
    · have h := h.2 c9
      refine PW.iconst g (1) (by decide) d_rl_isFor_72 ?_
      refine PW.goto g 77 (by decide) d_rl_isFor_73 ?_
      exact PX.zret g hF rfl (Or.inr rfl) d_rl_isFor_77 hL h
def w_rl_isFor (t : Nat) (a1 : Int32) (a2 : Int32) (a3 : Int32) (I : pI) (R : pR) (Q : Int32 → pI → pR → Prop) : Prop := ((a1 < 0 → Q (0 : Int32) I R) ∧ (¬ a1 < 0 → (((I t 8) ≤ a1 → Q (0 : Int32) I R) ∧ (¬ (I t 8) ≤ a1 → (((22 : Int32) ≤ a1 → Q (0 : Int32) I R) ∧ (¬ (22 : Int32) ≤ a1 → (vp_in a1 22 ∧ (((I (t + 3) a1.toNatClampNeg) = a2 → (vp_in a1 22 ∧ (((I (t + 4) a1.toNatClampNeg) = 0 → Q (1 : Int32) I R) ∧ (¬ (I (t + 4) a1.toNatClampNeg) = 0 → (vp_in a1 22 ∧ ((¬ (I (t + 4) a1.toNatClampNeg) = (1 : Int32) → (j_rl_isFor_54 t Q a1 a3 (0 : Int32) I R)) ∧ ((I (t + 4) a1.toNatClampNeg) = (1 : Int32) → (j_rl_isFor_54 t Q a1 a3 (1 : Int32) I R)))))))) ∧ (¬ (I (t + 3) a1.toNatClampNeg) = a2 → Q (0 : Int32) I R)))))))))
set_option maxHeartbeats 4000000 in
set_option maxRecDepth 100000 in
theorem c_rl_isFor (d : Nat) {t : Nat} (ht : pSH[t]? = some (0, 8)) {a1 : Int32} {a2 : Int32} {a3 : Int32} {I : pI} {R : pR} {Q : Int32 → pI → pR → Prop} (hL : pw_Lay R) (h : w_rl_isFor t a1 a2 a3 I R Q) : Cm (d + 1) m_rl_isFor [.ref t, .int a1, .int a2, .int a3] I R (qz Q) := by
  refine Cm.of [some (.ref t), some (.int a1), some (.int a2), some (.int a3)] (by decide) rfl (Nat.le_of_ble_eq_true rfl) (by simp) (fun E B g hF => ?_)
  unfold w_rl_isFor at h
  refine PW.iload_n g rfl rfl d_rl_isFor_0 ?_
  refine PW.if_lt g 28 (by decide) d_rl_isFor_1 (fun c1 => ?_) (fun c1 => ?_)
  · have h := h.1 c1
    refine PW.iconst g (0) (by decide) d_rl_isFor_28 ?_
    exact PX.zret g hF rfl (Or.inl rfl) d_rl_isFor_29 hL h
  · have h := h.2 c1
    refine PW.iload_n g rfl rfl d_rl_isFor_4 ?_
    refine PW.aload_n g rfl rfl d_rl_isFor_5 ?_
    refine PW.getI g fi_rl_36 ht d_rl_isFor_6 ?_
    refine PW.icmp_ge g 28 (by decide) d_rl_isFor_9 (fun c2 => ?_) (fun c2 => ?_)
    · have h := h.1 c2
      refine PW.iconst g (0) (by decide) d_rl_isFor_28 ?_
      exact PX.zret g hF rfl (Or.inl rfl) d_rl_isFor_29 hL h
    · have h := h.2 c2
      refine PW.iload_n g rfl rfl d_rl_isFor_12 ?_
      refine PW.bipush g (22) (by decide) d_rl_isFor_13 ?_
      refine PW.icmp_ge g 28 (by decide) d_rl_isFor_15 (fun c3 => ?_) (fun c3 => ?_)
      · have h := h.1 c3
        refine PW.iconst g (0) (by decide) d_rl_isFor_28 ?_
        exact PX.zret g hF rfl (Or.inl rfl) d_rl_isFor_29 hL h
      · have h := h.2 c3
        refine PW.aload_n g rfl rfl d_rl_isFor_18 ?_
        refine PW.getR (q := (t + 3)) g fi_rl_18 ht (hL t 8 2 ht (by decide)) d_rl_isFor_19 ?_
        refine PW.iload_n g rfl rfl d_rl_isFor_22 ?_
        refine PW.iald g (pw_shp ht 2 (by decide)) h.1 d_rl_isFor_23 ?_
        have h := h.2
        refine PW.iload_n g rfl rfl d_rl_isFor_24 ?_
        refine PW.icmp_eq g 30 (by decide) d_rl_isFor_25 (fun c4 => ?_) (fun c4 => ?_)
        · have h := h.1 c4
          refine PW.aload_n g rfl rfl d_rl_isFor_30 ?_
          refine PW.getR (q := (t + 4)) g fi_rl_21 ht (hL t 8 3 ht (by decide)) d_rl_isFor_31 ?_
          refine PW.iload_n g rfl rfl d_rl_isFor_34 ?_
          refine PW.iald g (pw_shp ht 3 (by decide)) h.1 d_rl_isFor_35 ?_
          have h := h.2
          refine PW.if_eq g 72 (by decide) d_rl_isFor_36 (fun c5 => ?_) (fun c5 => ?_)
          · have h := h.1 c5
            refine PW.iconst g (1) (by decide) d_rl_isFor_72 ?_
            refine PW.goto g 77 (by decide) d_rl_isFor_73 ?_
            exact PX.zret g hF rfl (Or.inr rfl) d_rl_isFor_77 hL h
          · have h := h.2 c5
            refine PW.aload_n g rfl rfl d_rl_isFor_39 ?_
            refine PW.getR (q := (t + 4)) g fi_rl_21 ht (hL t 8 3 ht (by decide)) d_rl_isFor_40 ?_
            refine PW.iload_n g rfl rfl d_rl_isFor_43 ?_
            refine PW.iald g (pw_shp ht 3 (by decide)) h.1 d_rl_isFor_44 ?_
            have h := h.2
            refine PW.iconst g (1) (by decide) d_rl_isFor_45 ?_
            refine PW.icmp_ne g 53 (by decide) d_rl_isFor_46 (fun c6 => ?_) (fun c6 => ?_)
            · have h := h.1 c6
              refine PW.iconst g (0) (by decide) d_rl_isFor_53 ?_
              refine PX.sub [some (.ref t), some (.int a1), none, some (.int a3)] ⟨rfl, ⟨rfl, ⟨rfl, trivial⟩⟩⟩ ?_
              exact J_rl_isFor_54 d ht g hF hL h
            · have h := h.2 c6
              refine PW.iconst g (1) (by decide) d_rl_isFor_49 ?_
              refine PW.goto g 54 (by decide) d_rl_isFor_50 ?_
              refine PX.sub [some (.ref t), some (.int a1), none, some (.int a3)] ⟨rfl, ⟨rfl, ⟨rfl, trivial⟩⟩⟩ ?_
              exact J_rl_isFor_54 d ht g hF hL h
        · have h := h.2 c4
          refine PW.iconst g (0) (by decide) d_rl_isFor_28 ?_
          exact PX.zret g hF rfl (Or.inl rfl) d_rl_isFor_29 hL h
def j_rl_answerFor_73 (t : Nat) (Q : Int32 → pI → pR → Prop) (s0 : Int32) (I : pI) (R : pR) : Prop := ((s0 < 0 → Q (0 : Int32) I R) ∧ (¬ s0 < 0 → (((61 : Int32) ≤ s0 → Q (0 : Int32) I R) ∧ (¬ (61 : Int32) ≤ s0 → (vp_in s0 61 ∧ Q (I (t + 8) s0.toNatClampNeg) I R)))))
set_option maxHeartbeats 4000000 in
set_option maxRecDepth 100000 in
theorem J_rl_answerFor_73 (d : Nat) {t : Nat} (ht : pSH[t]? = some (0, 8)) {Q : Int32 → pI → pR → Prop} {s0 : Int32} {E : pE} {B : pB} (g : pw_G m_rl_answerFor (d + 1) 0 0 E B) (hF : pX (qi Q) E B) {I : pI} {R : pR} (hL : pw_Lay R) (h : j_rl_answerFor_73 t Q s0 I R) : PX E B m_rl_answerFor.2.2.1 73 [some (.ref t), none, none, none] [.int s0] I R := by
  unfold j_rl_answerFor_73 at h
  refine PW.istore_n g rfl (L' := [some (.ref t), none, none, some (.int s0)]) (by decide) rfl rfl d_rl_answerFor_73 ?_
  refine PW.iload_n g rfl rfl d_rl_answerFor_74 ?_
  refine PW.if_lt g 93 (by decide) d_rl_answerFor_75 (fun c6 => ?_) (fun c6 => ?_)
  · have h := h.1 c6
    refine PW.iconst g (0) (by decide) d_rl_answerFor_93 ?_
    exact PX.iret g hF rfl d_rl_answerFor_94 hL h
  · have h := h.2 c6
    refine PW.iload_n g rfl rfl d_rl_answerFor_78 ?_
    refine PW.bipush g (61) (by decide) d_rl_answerFor_79 ?_
    refine PW.icmp_ge g 93 (by decide) d_rl_answerFor_81 (fun c7 => ?_) (fun c7 => ?_)
    · have h := h.1 c7
      refine PW.iconst g (0) (by decide) d_rl_answerFor_93 ?_
      exact PX.iret g hF rfl d_rl_answerFor_94 hL h
    · have h := h.2 c7
      refine PW.aload_n g rfl rfl d_rl_answerFor_84 ?_
      refine PW.getR (q := (t + 8)) g fi_rl_33 ht (hL t 8 7 ht (by decide)) d_rl_answerFor_85 ?_
      refine PW.iload_n g rfl rfl d_rl_answerFor_88 ?_
      refine PW.iald g (pw_shp ht 7 (by decide)) h.1 d_rl_answerFor_89 ?_
      have h := h.2
      refine PW.goto g 94 (by decide) d_rl_answerFor_90 ?_
      exact PX.iret g hF rfl d_rl_answerFor_94 hL h
def w_rl_answerFor (t : Nat) (a1 : Int32) (a2 : Int32) (I : pI) (R : pR) (Q : Int32 → pI → pR → Prop) : Prop := ((a1 < 0 → Q (0 : Int32) I R) ∧ (¬ a1 < 0 → (((I t 8) ≤ a1 → Q (0 : Int32) I R) ∧ (¬ (I t 8) ≤ a1 → (((22 : Int32) ≤ a1 → Q (0 : Int32) I R) ∧ (¬ (22 : Int32) ≤ a1 → (vp_in a1 22 ∧ (vp_in a1 22 ∧ (((I (t + 6) a1.toNatClampNeg) < (I (t + 7) a1.toNatClampNeg) → (vp_in a1 22 ∧ (vp_in a1 22 ∧ (((I (t + 7) a1.toNatClampNeg) < ((I (t + 6) a1.toNatClampNeg) + a2) → (vp_in a1 22 ∧ (j_rl_answerFor_73 t Q ((I (t + 7) a1.toNatClampNeg) - (1 : Int32)) I R))) ∧ (¬ (I (t + 7) a1.toNatClampNeg) < ((I (t + 6) a1.toNatClampNeg) + a2) → (vp_in a1 22 ∧ (j_rl_answerFor_73 t Q (((I (t + 6) a1.toNatClampNeg) + a2) - (1 : Int32)) I R))))))) ∧ (¬ (I (t + 6) a1.toNatClampNeg) < (I (t + 7) a1.toNatClampNeg) → Q (0 : Int32) I R))))))))))
set_option maxHeartbeats 4000000 in
set_option maxRecDepth 100000 in
theorem c_rl_answerFor (d : Nat) {t : Nat} (ht : pSH[t]? = some (0, 8)) {a1 : Int32} {a2 : Int32} {I : pI} {R : pR} {Q : Int32 → pI → pR → Prop} (hL : pw_Lay R) (h : w_rl_answerFor t a1 a2 I R Q) : Cm (d + 1) m_rl_answerFor [.ref t, .int a1, .int a2] I R (qi Q) := by
  refine Cm.of [some (.ref t), some (.int a1), some (.int a2), none] (by decide) rfl (Nat.le_of_ble_eq_true rfl) (by simp) (fun E B g hF => ?_)
  unfold w_rl_answerFor at h
  refine PW.iload_n g rfl rfl d_rl_answerFor_0 ?_
  refine PW.if_lt g 33 (by decide) d_rl_answerFor_1 (fun c1 => ?_) (fun c1 => ?_)
  · have h := h.1 c1
    refine PW.iconst g (0) (by decide) d_rl_answerFor_33 ?_
    exact PX.iret g hF rfl d_rl_answerFor_34 hL h
  · have h := h.2 c1
    refine PW.iload_n g rfl rfl d_rl_answerFor_4 ?_
    refine PW.aload_n g rfl rfl d_rl_answerFor_5 ?_
    refine PW.getI g fi_rl_36 ht d_rl_answerFor_6 ?_
    refine PW.icmp_ge g 33 (by decide) d_rl_answerFor_9 (fun c2 => ?_) (fun c2 => ?_)
    · have h := h.1 c2
      refine PW.iconst g (0) (by decide) d_rl_answerFor_33 ?_
      exact PX.iret g hF rfl d_rl_answerFor_34 hL h
    · have h := h.2 c2
      refine PW.iload_n g rfl rfl d_rl_answerFor_12 ?_
      refine PW.bipush g (22) (by decide) d_rl_answerFor_13 ?_
      refine PW.icmp_ge g 33 (by decide) d_rl_answerFor_15 (fun c3 => ?_) (fun c3 => ?_)
      · have h := h.1 c3
        refine PW.iconst g (0) (by decide) d_rl_answerFor_33 ?_
        exact PX.iret g hF rfl d_rl_answerFor_34 hL h
      · have h := h.2 c3
        refine PW.aload_n g rfl rfl d_rl_answerFor_18 ?_
        refine PW.getR (q := (t + 6)) g fi_rl_27 ht (hL t 8 5 ht (by decide)) d_rl_answerFor_19 ?_
        refine PW.iload_n g rfl rfl d_rl_answerFor_22 ?_
        refine PW.iald g (pw_shp ht 5 (by decide)) h.1 d_rl_answerFor_23 ?_
        have h := h.2
        refine PW.aload_n g rfl rfl d_rl_answerFor_24 ?_
        refine PW.getR (q := (t + 7)) g fi_rl_30 ht (hL t 8 6 ht (by decide)) d_rl_answerFor_25 ?_
        refine PW.iload_n g rfl rfl d_rl_answerFor_28 ?_
        refine PW.iald g (pw_shp ht 6 (by decide)) h.1 d_rl_answerFor_29 ?_
        have h := h.2
        refine PW.icmp_lt g 35 (by decide) d_rl_answerFor_30 (fun c4 => ?_) (fun c4 => ?_)
        · have h := h.1 c4
          refine PW.aload_n g rfl rfl d_rl_answerFor_35 ?_
          refine PW.getR (q := (t + 6)) g fi_rl_27 ht (hL t 8 5 ht (by decide)) d_rl_answerFor_36 ?_
          refine PW.iload_n g rfl rfl d_rl_answerFor_39 ?_
          refine PW.iald g (pw_shp ht 5 (by decide)) h.1 d_rl_answerFor_40 ?_
          have h := h.2
          refine PW.iload_n g rfl rfl d_rl_answerFor_41 ?_
          refine PW.iadd g d_rl_answerFor_42 ?_
          refine PW.aload_n g rfl rfl d_rl_answerFor_43 ?_
          refine PW.getR (q := (t + 7)) g fi_rl_30 ht (hL t 8 6 ht (by decide)) d_rl_answerFor_44 ?_
          refine PW.iload_n g rfl rfl d_rl_answerFor_47 ?_
          refine PW.iald g (pw_shp ht 6 (by decide)) h.1 d_rl_answerFor_48 ?_
          have h := h.2
          refine PW.icmp_gt g 65 (by decide) d_rl_answerFor_49 (fun c5 => ?_) (fun c5 => ?_)
          · have h := h.1 c5
            refine PW.aload_n g rfl rfl d_rl_answerFor_65 ?_
            refine PW.getR (q := (t + 7)) g fi_rl_30 ht (hL t 8 6 ht (by decide)) d_rl_answerFor_66 ?_
            refine PW.iload_n g rfl rfl d_rl_answerFor_69 ?_
            refine PW.iald g (pw_shp ht 6 (by decide)) h.1 d_rl_answerFor_70 ?_
            have h := h.2
            refine PW.iconst g (1) (by decide) d_rl_answerFor_71 ?_
            refine PW.isub g d_rl_answerFor_72 ?_
            refine PX.sub [some (.ref t), none, none, none] ⟨rfl, trivial⟩ ?_
            exact J_rl_answerFor_73 d ht g hF hL h
          · have h := h.2 c5
            refine PW.aload_n g rfl rfl d_rl_answerFor_52 ?_
            refine PW.getR (q := (t + 6)) g fi_rl_27 ht (hL t 8 5 ht (by decide)) d_rl_answerFor_53 ?_
            refine PW.iload_n g rfl rfl d_rl_answerFor_56 ?_
            refine PW.iald g (pw_shp ht 5 (by decide)) h.1 d_rl_answerFor_57 ?_
            have h := h.2
            refine PW.iload_n g rfl rfl d_rl_answerFor_58 ?_
            refine PW.iadd g d_rl_answerFor_59 ?_
            refine PW.iconst g (1) (by decide) d_rl_answerFor_60 ?_
            refine PW.isub g d_rl_answerFor_61 ?_
            refine PW.goto g 73 (by decide) d_rl_answerFor_62 ?_
            refine PX.sub [some (.ref t), none, none, none] ⟨rfl, trivial⟩ ?_
            exact J_rl_answerFor_73 d ht g hF hL h
        · have h := h.2 c4
          refine PW.iconst g (0) (by decide) d_rl_answerFor_33 ?_
          exact PX.iret g hF rfl d_rl_answerFor_34 hL h
