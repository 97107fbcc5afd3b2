def w_sr_mayBeTyped (a1 : Int32) (I : pI) (R : pR) (Q : Int32 → pI → pR → Prop) : Prop := (w_sr_isSmallLetter a1 I R (fun v1 I1 R1 => ((¬ v1 = 0 → Q (1 : Int32) I1 R1) ∧ (v1 = 0 → (w_sr_isDigit a1 I1 R1 (fun v2 I2 R2 => ((¬ v2 = 0 → Q (1 : Int32) I2 R2) ∧ (v2 = 0 → (¬ a1 < 0 ∧ ¬ 255 < a1 ∧ (((pw_ix a1.toInt8.toInt32 28 0) < 0 → Q (0 : Int32) I2 R2) ∧ (¬ (pw_ix a1.toInt8.toInt32 28 0) < 0 → Q (1 : Int32) I2 R2)))))))))))
set_option maxHeartbeats 4000000 in
set_option maxRecDepth 100000 in
theorem c_sr_mayBeTyped (d : Nat) {a1 : Int32} {I : pI} {R : pR} {Q : Int32 → pI → pR → Prop} (hL : pw_Lay R) (h : w_sr_mayBeTyped a1 I R Q) : Cm (d + 5) m_sr_mayBeTyped [.int a1] I R (qz Q) := by
  refine Cm.of [some (.int a1)] (by decide) rfl (Nat.le_of_ble_eq_true rfl) (by simp) (fun E B g hF => ?_)
  unfold w_sr_mayBeTyped at h
  refine PW.iload_n g rfl rfl d_sr_mayBeTyped_0 ?_
  refine PX.cSz [.int a1] [] g (c_sr_isSmallLetter d  hL h) cl_sr_153 (by omega) (by decide) rfl rfl (Nat.le_of_ble_eq_true rfl) d_sr_mayBeTyped_1 (fun v1 I1 R1 hL hzv1 h => ?_)
  refine PW.if_ne g 23 (by decide) d_sr_mayBeTyped_4 (fun c1 => ?_) (fun c1 => ?_)
  · have h := h.1 c1
    refine PW.iconst g (1) (by decide) d_sr_mayBeTyped_23 ?_
    refine PW.goto g 28 (by decide) d_sr_mayBeTyped_24 ?_
    exact PX.zret g hF rfl (Or.inr rfl) d_sr_mayBeTyped_28 hL h
  · have h := h.2 c1
    refine PW.iload_n g rfl rfl d_sr_mayBeTyped_7 ?_
    refine PX.cSz [.int a1] [] g (c_sr_isDigit d  hL h) cl_sr_156 (by omega) (by decide) rfl rfl (Nat.le_of_ble_eq_true rfl) d_sr_mayBeTyped_8 (fun v2 I2 R2 hL hzv2 h => ?_)
    refine PW.if_ne g 23 (by decide) d_sr_mayBeTyped_11 (fun c2 => ?_) (fun c2 => ?_)
    · have h := h.1 c2
      refine PW.iconst g (1) (by decide) d_sr_mayBeTyped_23 ?_
      refine PW.goto g 28 (by decide) d_sr_mayBeTyped_24 ?_
      exact PX.zret g hF rfl (Or.inr rfl) d_sr_mayBeTyped_28 hL h
    · have h := h.2 c2
      refine PX.ldcS g rfl d_sr_mayBeTyped_14 ?_
      refine PW.iload_n g rfl rfl d_sr_mayBeTyped_16 ?_
      obtain ⟨hj0, hj1, h⟩ := h
      refine PX.cX [.int a1] [] g rfl (j_ix1 d hL hj0 hj1) cl_j_161 (by omega) (by decide) rfl rfl (Nat.le_of_ble_eq_true rfl) d_sr_mayBeTyped_17 (fun v_ I_ R_ hL hh => ?_)
      obtain ⟨rfl, rfl, rfl⟩ := hh
      refine PW.if_lt g 27 (by decide) d_sr_mayBeTyped_20 (fun c3 => ?_) (fun c3 => ?_)
      · have h := h.1 c3
        refine PW.iconst g (0) (by decide) d_sr_mayBeTyped_27 ?_
        exact PX.zret g hF rfl (Or.inl rfl) d_sr_mayBeTyped_28 hL h
      · have h := h.2 c3
        refine PW.iconst g (1) (by decide) d_sr_mayBeTyped_23 ?_
        refine PW.goto g 28 (by decide) d_sr_mayBeTyped_24 ?_
        exact PX.zret g hF rfl (Or.inr rfl) d_sr_mayBeTyped_28 hL h
def l_sr_type_27 (f1 : Int64) (f3 : Int32) (K : pI → pR → Prop) (Q : Int32 → pI → pR → Prop) : Nat → Int32 → pI → pR → Prop
  | 0, _, _, _ => False
  | n + 1, x4, I, R => ((f3 ≤ x4 → K I R) ∧ (¬ f3 ≤ x4 → (w_sr_characterOf f1 ((f3 - (1 : Int32)) - x4) I R (fun v1 I1 R1 => (w_sr_mayBeTyped v1 I1 R1 (fun v2 I2 R2 => ((¬ v2 = 0 → l_sr_type_27 f1 f3 K Q n (x4 + 1) I2 R2) ∧ (v2 = 0 → Q (0 : Int32) I2 R2))))))))
set_option maxHeartbeats 4000000 in
set_option maxRecDepth 100000 in
theorem L_sr_type_27 (d : Nat) {f1 : Int64} {f3 : Int32} {K : pI → pR → Prop} {Q : Int32 → pI → pR → Prop} {E : pE} {B : pB} (g : pw_G m_sr_type (d + 6) 0 0 E B) (hF : pX (qz Q) E B) (hK : ∀ (I : pI) (R : pR), pw_Lay R → K  I R → PX E B m_sr_type.2.2.1 57 [some (.ref 0), some (.long f1), none, some (.int f3), none] [] I R) : ∀ (n : Nat) (x4 : Int32) (I : pI) (R : pR), pw_Lay R → l_sr_type_27 f1 f3 K Q n x4 I R → PX E B m_sr_type.2.2.1 27 [some (.ref 0), some (.long f1), none, some (.int f3), some (.int x4)] [] I R := by
  intro n
  induction n with
  | zero => intro x4 I R hL h; exact False.elim h
  | succ n ih =>
    intro x4 I R hL h
    refine PW.iload g rfl d_sr_type_27 ?_
    refine PW.iload_n g rfl rfl d_sr_type_29 ?_
    refine PW.icmp_ge g 57 (by decide) d_sr_type_30 (fun c4 => ?_) (fun c4 => ?_)
    · have h := h.1 c4
      refine PX.sub [some (.ref 0), some (.long f1), none, some (.int f3), none] ⟨rfl, ⟨rfl, ⟨rfl, trivial⟩⟩⟩ ?_
      exact hK _ _ hL h
    · have h := h.2 c4
      refine PW.lload_n g rfl rfl d_sr_type_33 ?_
      refine PW.iload_n g rfl rfl d_sr_type_34 ?_
      refine PW.iconst g (1) (by decide) d_sr_type_35 ?_
      refine PW.isub g d_sr_type_36 ?_
      refine PW.iload g rfl d_sr_type_37 ?_
      refine PW.isub g d_sr_type_39 ?_
      refine PX.cSi [.long f1, .int ((f3 - (1 : Int32)) - x4)] [] g (c_sr_characterOf d  hL h) cl_sr_64 (by omega) (by decide) rfl rfl (Nat.le_of_ble_eq_true rfl) d_sr_type_40 (fun v1 I1 R1 hL h => ?_)
      refine PX.cSz [.int v1] [] g (c_sr_mayBeTyped d  hL h) cl_sr_68 (by omega) (by decide) rfl rfl (Nat.le_of_ble_eq_true rfl) d_sr_type_43 (fun v2 I2 R2 hL hzv2 h => ?_)
      refine PW.if_ne g 51 (by decide) d_sr_type_46 (fun c5 => ?_) (fun c5 => ?_)
      · have h := h.1 c5
        refine PW.iinc g rfl (show x4 + Int32.ofInt (1) = (x4 + 1) from congrArg (HAdd.hAdd x4) (by decide)) (by decide) rfl (L' := [some (.ref 0), some (.long f1), none, some (.int f3), some (.int (x4 + 1))]) rfl d_sr_type_51 ?_
        refine PW.goto g 27 (by decide) d_sr_type_54 ?_
        refine PX.sub [some (.ref 0), some (.long f1), none, some (.int f3), some (.int (x4 + 1))] ⟨rfl, ⟨rfl, ⟨rfl, ⟨rfl, trivial⟩⟩⟩⟩ ?_
        exact ih _ _ _ hL h
      · have h := h.2 c5
        refine PW.iconst g (0) (by decide) d_sr_type_49 ?_
        exact PX.zret g hF rfl (Or.inl rfl) d_sr_type_50 hL h
def l_sr_type_60 (f1 : Int64) (f3 : Int32) (K : pI → pR → Prop) (Q : Int32 → pI → pR → Prop) : Nat → Int32 → pI → pR → Prop
  | 0, _, _, _ => False
  | n + 1, x4, I, R => ((f3 ≤ x4 → K I R) ∧ (¬ f3 ≤ x4 → (((120 : Int32) ≤ (I 0 5) → K I R) ∧ (¬ (120 : Int32) ≤ (I 0 5) → (w_sr_characterOf f1 ((f3 - (1 : Int32)) - x4) I R (fun v3 I4 R4 => (vp_in (I 0 5) 120 ∧ ∀ I5, I5 = pw_wI I4 1 (I 0 5).toNatClampNeg (vp_nar .char v3) → (∀ I6, I6 = pw_wI I5 0 5 ((I5 0 5) + (1 : Int32)) → l_sr_type_60 f1 f3 K Q n (x4 + 1) I6 R4))))))))
set_option maxHeartbeats 4000000 in
set_option maxRecDepth 100000 in
theorem L_sr_type_60 (d : Nat) {f1 : Int64} {f3 : Int32} {K : pI → pR → Prop} {Q : Int32 → pI → pR → Prop} {E : pE} {B : pB} (g : pw_G m_sr_type (d + 6) 0 0 E B) (hF : pX (qz Q) E B) (hK : ∀ (I : pI) (R : pR), pw_Lay R → K  I R → PX E B m_sr_type.2.2.1 110 [none, none, none, none, none] [] I R) : ∀ (n : Nat) (x4 : Int32) (I : pI) (R : pR), pw_Lay R → l_sr_type_60 f1 f3 K Q n x4 I R → PX E B m_sr_type.2.2.1 60 [some (.ref 0), some (.long f1), none, some (.int f3), some (.int x4)] [] I R := by
  intro n
  induction n with
  | zero => intro x4 I R hL h; exact False.elim h
  | succ n ih =>
    intro x4 I R hL h
    refine PW.iload g rfl d_sr_type_60 ?_
    refine PW.iload_n g rfl rfl d_sr_type_62 ?_
    refine PW.icmp_ge g 110 (by decide) d_sr_type_63 (fun c6 => ?_) (fun c6 => ?_)
    · have h := h.1 c6
      refine PX.sub [none, none, none, none, none] trivial ?_
      exact hK _ _ hL h
    · have h := h.2 c6
      refine PW.aload_n g rfl rfl d_sr_type_66 ?_
      refine PW.getI g fi_sr_61 rfl d_sr_type_67 ?_
      refine PW.bipush g (120) (by decide) d_sr_type_70 ?_
      refine PW.icmp_ge g 110 (by decide) d_sr_type_72 (fun c7 => ?_) (fun c7 => ?_)
      · have h := h.1 c7
        refine PX.sub [none, none, none, none, none] trivial ?_
        exact hK _ _ hL h
      · have h := h.2 c7
        refine PW.aload_n g rfl rfl d_sr_type_75 ?_
        refine PW.getR (q := 1) g fi_sr_11 rfl (hL 0 0 0 rfl (by decide)) d_sr_type_76 ?_
        refine PW.aload_n g rfl rfl d_sr_type_79 ?_
        refine PW.getI g fi_sr_61 rfl d_sr_type_80 ?_
        refine PW.lload_n g rfl rfl d_sr_type_83 ?_
        refine PW.iload_n g rfl rfl d_sr_type_84 ?_
        refine PW.iconst g (1) (by decide) d_sr_type_85 ?_
        refine PW.isub g d_sr_type_86 ?_
        refine PW.iload g rfl d_sr_type_87 ?_
        refine PW.isub g d_sr_type_89 ?_
        refine PX.cSi [.long f1, .int ((f3 - (1 : Int32)) - x4)] [.int (I 0 5), .ref 1] g (c_sr_characterOf d  hL h) cl_sr_64 (by omega) (by decide) rfl rfl (Nat.le_of_ble_eq_true rfl) d_sr_type_90 (fun v3 I4 R4 hL h => ?_)
        refine PW.cast g rfl h.1 d_sr_type_93 ?_
        refine PX.gI (fun I5 eI5 => ?_)
        have h := h.2 _ eI5
        refine PW.aload_n g rfl rfl d_sr_type_94 ?_
        refine PW.dup g rfl d_sr_type_95 ?_
        refine PW.getI g fi_sr_61 rfl d_sr_type_96 ?_
        refine PW.iconst g (1) (by decide) d_sr_type_99 ?_
        refine PW.iadd g d_sr_type_100 ?_
        refine PW.putI g fi_sr_61 rfl rfl rfl d_sr_type_101 ?_
        refine PX.gI (fun I6 eI6 => ?_)
        have h := h _ eI6
        refine PW.iinc g rfl (show x4 + Int32.ofInt (1) = (x4 + 1) from congrArg (HAdd.hAdd x4) (by decide)) (by decide) rfl (L' := [some (.ref 0), some (.long f1), none, some (.int f3), some (.int (x4 + 1))]) rfl d_sr_type_104 ?_
        refine PW.goto g 60 (by decide) d_sr_type_107 ?_
        refine PX.sub [some (.ref 0), some (.long f1), none, some (.int f3), some (.int (x4 + 1))] ⟨rfl, ⟨rfl, ⟨rfl, ⟨rfl, trivial⟩⟩⟩⟩ ?_
        exact ih _ _ _ hL h
def w_sr_type (a1 : Int64) (a2 : Int32) (I : pI) (R : pR) (Q : Int32 → pI → pR → Prop) : Prop := ((a2 < (1 : Int32) → Q (0 : Int32) I R) ∧ (¬ a2 < (1 : Int32) → (((8 : Int32) < a2 → Q (0 : Int32) I R) ∧ (¬ (8 : Int32) < a2 → ((((I 0 5) + a2) ≤ (120 : Int32) → (∃ n2, l_sr_type_27 a1 a2 (fun I3 R3 => (∃ n1, l_sr_type_60 a1 a2 (fun I7 R5 => Q (1 : Int32) I7 R5) Q n1 (0 : Int32) I3 R3)) Q n2 (0 : Int32) I R)) ∧ (¬ ((I 0 5) + a2) ≤ (120 : Int32) → Q (0 : Int32) I R))))))
set_option maxHeartbeats 4000000 in
set_option maxRecDepth 100000 in
theorem c_sr_type (d : Nat) {a1 : Int64} {a2 : Int32} {I : pI} {R : pR} {Q : Int32 → pI → pR → Prop} (hL : pw_Lay R) (h : w_sr_type a1 a2 I R Q) : Cm (d + 6) m_sr_type [.ref 0, .long a1, .int a2] I R (qz Q) := by
  refine Cm.of [some (.ref 0), some (.long a1), none, some (.int a2), none] (by decide) rfl (Nat.le_of_ble_eq_true rfl) (by simp) (fun E B g hF => ?_)
  unfold w_sr_type at h
  refine PW.iload_n g rfl rfl d_sr_type_0 ?_
  refine PW.iconst g (1) (by decide) d_sr_type_1 ?_
  refine PW.icmp_lt g 22 (by decide) d_sr_type_2 (fun c1 => ?_) (fun c1 => ?_)
  · have h := h.1 c1
    refine PW.iconst g (0) (by decide) d_sr_type_22 ?_
    exact PX.zret g hF rfl (Or.inl rfl) d_sr_type_23 hL h
  · have h := h.2 c1
    refine PW.iload_n g rfl rfl d_sr_type_5 ?_
    refine PW.bipush g (8) (by decide) d_sr_type_6 ?_
    refine PW.icmp_gt g 22 (by decide) d_sr_type_8 (fun c2 => ?_) (fun c2 => ?_)
    · have h := h.1 c2
      refine PW.iconst g (0) (by decide) d_sr_type_22 ?_
      exact PX.zret g hF rfl (Or.inl rfl) d_sr_type_23 hL h
    · have h := h.2 c2
      refine PW.aload_n g rfl rfl d_sr_type_11 ?_
      refine PW.getI g fi_sr_61 rfl d_sr_type_12 ?_
      refine PW.iload_n g rfl rfl d_sr_type_15 ?_
      refine PW.iadd g d_sr_type_16 ?_
      refine PW.bipush g (120) (by decide) d_sr_type_17 ?_
      refine PW.icmp_le g 24 (by decide) d_sr_type_19 (fun c3 => ?_) (fun c3 => ?_)
      · have h := h.1 c3
        refine PW.iconst g (0) (by decide) d_sr_type_24 ?_
        refine PW.istore g (L' := [some (.ref 0), some (.long a1), none, some (.int a2), some (.int (0 : Int32))]) (by decide) rfl rfl d_sr_type_25 ?_
        refine PX.sub [some (.ref 0), some (.long a1), none, some (.int a2), some (.int (0 : Int32))] ⟨rfl, ⟨rfl, ⟨rfl, ⟨rfl, trivial⟩⟩⟩⟩ ?_
        obtain ⟨n2, h⟩ := h
        refine L_sr_type_27 d g hF (fun I3 R3 hL h => ?_) n2 (0 : Int32) I R hL h
        refine PW.iconst g (0) (by decide) d_sr_type_57 ?_
        refine PW.istore g (L' := [some (.ref 0), some (.long a1), none, some (.int a2), some (.int (0 : Int32))]) (by decide) rfl rfl d_sr_type_58 ?_
        refine PX.sub [some (.ref 0), some (.long a1), none, some (.int a2), some (.int (0 : Int32))] ⟨rfl, ⟨rfl, ⟨rfl, ⟨rfl, trivial⟩⟩⟩⟩ ?_
        obtain ⟨n1, h⟩ := h
        refine L_sr_type_60 d g hF (fun I7 R5 hL h => ?_) n1 (0 : Int32) I3 R3 hL h
        refine PW.iconst g (1) (by decide) d_sr_type_110 ?_
        exact PX.zret g hF rfl (Or.inr rfl) d_sr_type_111 hL h
      · have h := h.2 c3
        refine PW.iconst g (0) (by decide) d_sr_type_22 ?_
        exact PX.zret g hF rfl (Or.inl rfl) d_sr_type_23 hL h
