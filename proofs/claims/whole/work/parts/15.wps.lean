def w_ps_take (a1 : Int32) (I : pI) (R : pR) (Q : Int32 → pI → pR → Prop) : Prop := (w_tk_kindAt (I 108 2) I R (fun v1 I1 R1 => ((v1 = a1 → (∀ I2, I2 = pw_wI I1 108 2 ((I1 108 2) + (1 : Int32)) → Q (1 : Int32) I2 R1)) ∧ (¬ v1 = a1 → Q (0 : Int32) I1 R1))))
set_option maxHeartbeats 4000000 in
set_option maxRecDepth 100000 in
theorem c_ps_take (d : Nat) {a1 : Int32} {I : pI} {R : pR} {Q : Int32 → pI → pR → Prop} (hL : pw_Lay R) (h : w_ps_take a1 I R Q) : Cm (d + 2) m_ps_take [.ref 108, .int a1] I R (qz Q) := by
  refine Cm.of [some (.ref 108), some (.int a1)] (by decide) rfl (Nat.le_of_ble_eq_true rfl) (by simp) (fun E B g hF => ?_)
  unfold w_ps_take at h
  refine PW.aload_n g rfl rfl d_ps_take_0 ?_
  refine PW.getR (q := 109) g fi_ps_12 rfl (hL 108 7 0 rfl (by decide)) d_ps_take_1 ?_
  refine PW.aload_n g rfl rfl d_ps_take_4 ?_
  refine PW.getI g fi_ps_31 rfl d_ps_take_5 ?_
  refine PX.cVi [.int (I 108 2)] [] g rfl ck_tk (c_tk_kindAt d  hL h) cl_ps_106 (by omega) (by decide) rfl rfl (Nat.le_of_ble_eq_true rfl) d_ps_take_8 (fun v1 I1 R1 hL h => ?_)
  refine PW.iload_n g rfl rfl d_ps_take_11 ?_
  refine PW.icmp_eq g 17 (by decide) d_ps_take_12 (fun c1 => ?_) (fun c1 => ?_)
  · have h := h.1 c1
    refine PW.aload_n g rfl rfl d_ps_take_17 ?_
    refine PW.dup g rfl d_ps_take_18 ?_
    refine PW.getI g fi_ps_31 rfl d_ps_take_19 ?_
    refine PW.iconst g (1) (by decide) d_ps_take_22 ?_
    refine PW.iadd g d_ps_take_23 ?_
    refine PW.putI g fi_ps_31 rfl rfl rfl d_ps_take_24 ?_
    refine PX.gI (fun I2 eI2 => ?_)
    have h := h _ eI2
    refine PW.iconst g (1) (by decide) d_ps_take_27 ?_
    exact PX.zret g hF rfl (Or.inr rfl) d_ps_take_28 hL h
  · have h := h.2 c1
    refine PW.iconst g (0) (by decide) d_ps_take_15 ?_
    exact PX.zret g hF rfl (Or.inl rfl) d_ps_take_16 hL h
def w_ps_fail (I : pI) (R : pR) (Q : pI → pR → Prop) : Prop := ((0 ≤ (I 108 3) → (∀ I1, I1 = pw_wI I 108 2 (I 109 4) → Q I1 R)) ∧ (¬ 0 ≤ (I 108 3) → (((I 108 2) < 0 → (∀ I2, I2 = pw_wI I 108 3 (I 109 5) → (∀ I3, I3 = pw_wI I2 108 2 (I2 109 4) → Q I3 R))) ∧ (¬ (I 108 2) < 0 → (((I 109 4) ≤ (I 108 2) → (∀ I4, I4 = pw_wI I 108 3 (I 109 5) → (∀ I5, I5 = pw_wI I4 108 2 (I4 109 4) → Q I5 R))) ∧ (¬ (I 109 4) ≤ (I 108 2) → (((120 : Int32) ≤ (I 108 2) → (∀ I6, I6 = pw_wI I 108 3 (I 109 5) → (∀ I7, I7 = pw_wI I6 108 2 (I6 109 4) → Q I7 R))) ∧ (¬ (120 : Int32) ≤ (I 108 2) → (vp_in (I 108 2) 120 ∧ (∀ I8, I8 = pw_wI I 108 3 (I 111 (I 108 2).toNatClampNeg) → (∀ I9, I9 = pw_wI I8 108 2 (I8 109 4) → Q I9 R)))))))))))
set_option maxHeartbeats 4000000 in
set_option maxRecDepth 100000 in
theorem c_ps_fail (d : Nat) {I : pI} {R : pR} {Q : pI → pR → Prop} (hL : pw_Lay R) (h : w_ps_fail  I R Q) : Cm (d + 1) m_ps_fail [.ref 108] I R (qv Q) := by
  refine Cm.of [some (.ref 108)] (by decide) rfl (Nat.le_of_ble_eq_true rfl) (by simp) (fun E B g hF => ?_)
  unfold w_ps_fail at h
  refine PW.aload_n g rfl rfl d_ps_fail_0 ?_
  refine PW.getI g fi_ps_35 rfl d_ps_fail_1 ?_
  refine PW.if_ge g 63 (by decide) d_ps_fail_4 (fun c1 => ?_) (fun c1 => ?_)
  · have h := h.1 c1
    refine PW.aload_n g rfl rfl d_ps_fail_63 ?_
    refine PW.aload_n g rfl rfl d_ps_fail_64 ?_
    refine PW.getR (q := 109) g fi_ps_12 rfl (hL 108 7 0 rfl (by decide)) d_ps_fail_65 ?_
    refine PW.getI g fi_ps_182 rfl d_ps_fail_68 ?_
    refine PW.putI g fi_ps_31 rfl rfl rfl d_ps_fail_71 ?_
    refine PX.gI (fun I1 eI1 => ?_)
    have h := h _ eI1
    exact PX.vret g hF rfl d_ps_fail_74 hL h
  · have h := h.2 c1
    refine PW.aload_n g rfl rfl d_ps_fail_7 ?_
    refine PW.aload_n g rfl rfl d_ps_fail_8 ?_
    refine PW.getI g fi_ps_31 rfl d_ps_fail_9 ?_
    refine PW.if_lt g 53 (by decide) d_ps_fail_12 (fun c2 => ?_) (fun c2 => ?_)
    · have h := h.1 c2
      refine PW.aload_n g rfl rfl d_ps_fail_53 ?_
      refine PW.getR (q := 109) g fi_ps_12 rfl (hL 108 7 0 rfl (by decide)) d_ps_fail_54 ?_
      refine PW.getI g fi_ps_186 rfl d_ps_fail_57 ?_
      refine PW.putI g fi_ps_35 rfl rfl rfl d_ps_fail_60 ?_
      refine PX.gI (fun I2 eI2 => ?_)
      have h := h _ eI2
      refine PW.aload_n g rfl rfl d_ps_fail_63 ?_
      refine PW.aload_n g rfl rfl d_ps_fail_64 ?_
      refine PW.getR (q := 109) g fi_ps_12 rfl (hL 108 7 0 rfl (by decide)) d_ps_fail_65 ?_
      refine PW.getI g fi_ps_182 rfl d_ps_fail_68 ?_
      refine PW.putI g fi_ps_31 rfl rfl rfl d_ps_fail_71 ?_
      refine PX.gI (fun I3 eI3 => ?_)
      have h := h _ eI3
      exact PX.vret g hF rfl d_ps_fail_74 hL h
    · have h := h.2 c2
      refine PW.aload_n g rfl rfl d_ps_fail_15 ?_
      refine PW.getI g fi_ps_31 rfl d_ps_fail_16 ?_
      refine PW.aload_n g rfl rfl d_ps_fail_19 ?_
      refine PW.getR (q := 109) g fi_ps_12 rfl (hL 108 7 0 rfl (by decide)) d_ps_fail_20 ?_
      refine PW.getI g fi_ps_182 rfl d_ps_fail_23 ?_
      refine PW.icmp_ge g 53 (by decide) d_ps_fail_26 (fun c3 => ?_) (fun c3 => ?_)
      · have h := h.1 c3
        refine PW.aload_n g rfl rfl d_ps_fail_53 ?_
        refine PW.getR (q := 109) g fi_ps_12 rfl (hL 108 7 0 rfl (by decide)) d_ps_fail_54 ?_
        refine PW.getI g fi_ps_186 rfl d_ps_fail_57 ?_
        refine PW.putI g fi_ps_35 rfl rfl rfl d_ps_fail_60 ?_
        refine PX.gI (fun I4 eI4 => ?_)
        have h := h _ eI4
        refine PW.aload_n g rfl rfl d_ps_fail_63 ?_
        refine PW.aload_n g rfl rfl d_ps_fail_64 ?_
        refine PW.getR (q := 109) g fi_ps_12 rfl (hL 108 7 0 rfl (by decide)) d_ps_fail_65 ?_
        refine PW.getI g fi_ps_182 rfl d_ps_fail_68 ?_
        refine PW.putI g fi_ps_31 rfl rfl rfl d_ps_fail_71 ?_
        refine PX.gI (fun I5 eI5 => ?_)
        have h := h _ eI5
        exact PX.vret g hF rfl d_ps_fail_74 hL h
      · have h := h.2 c3
        refine PW.aload_n g rfl rfl d_ps_fail_29 ?_
        refine PW.getI g fi_ps_31 rfl d_ps_fail_30 ?_
        refine PW.bipush g (120) (by decide) d_ps_fail_33 ?_
        refine PW.icmp_ge g 53 (by decide) d_ps_fail_35 (fun c4 => ?_) (fun c4 => ?_)
        · have h := h.1 c4
          refine PW.aload_n g rfl rfl d_ps_fail_53 ?_
          refine PW.getR (q := 109) g fi_ps_12 rfl (hL 108 7 0 rfl (by decide)) d_ps_fail_54 ?_
          refine PW.getI g fi_ps_186 rfl d_ps_fail_57 ?_
          refine PW.putI g fi_ps_35 rfl rfl rfl d_ps_fail_60 ?_
          refine PX.gI (fun I6 eI6 => ?_)
          have h := h _ eI6
          refine PW.aload_n g rfl rfl d_ps_fail_63 ?_
          refine PW.aload_n g rfl rfl d_ps_fail_64 ?_
          refine PW.getR (q := 109) g fi_ps_12 rfl (hL 108 7 0 rfl (by decide)) d_ps_fail_65 ?_
          refine PW.getI g fi_ps_182 rfl d_ps_fail_68 ?_
          refine PW.putI g fi_ps_31 rfl rfl rfl d_ps_fail_71 ?_
          refine PX.gI (fun I7 eI7 => ?_)
          have h := h _ eI7
          exact PX.vret g hF rfl d_ps_fail_74 hL h
        · have h := h.2 c4
          refine PW.aload_n g rfl rfl d_ps_fail_38 ?_
          refine PW.getR (q := 109) g fi_ps_12 rfl (hL 108 7 0 rfl (by decide)) d_ps_fail_39 ?_
          refine PW.getR (q := 111) g fi_ps_183 rfl (hL 109 11 1 rfl (by decide)) d_ps_fail_42 ?_
          refine PW.aload_n g rfl rfl d_ps_fail_45 ?_
          refine PW.getI g fi_ps_31 rfl d_ps_fail_46 ?_
          refine PW.iald g rfl h.1 d_ps_fail_49 ?_
          have h := h.2
          refine PW.goto g 60 (by decide) d_ps_fail_50 ?_
          refine PW.putI g fi_ps_35 rfl rfl rfl d_ps_fail_60 ?_
          refine PX.gI (fun I8 eI8 => ?_)
          have h := h _ eI8
          refine PW.aload_n g rfl rfl d_ps_fail_63 ?_
          refine PW.aload_n g rfl rfl d_ps_fail_64 ?_
          refine PW.getR (q := 109) g fi_ps_12 rfl (hL 108 7 0 rfl (by decide)) d_ps_fail_65 ?_
          refine PW.getI g fi_ps_182 rfl d_ps_fail_68 ?_
          refine PW.putI g fi_ps_31 rfl rfl rfl d_ps_fail_71 ?_
          refine PX.gI (fun I9 eI9 => ?_)
          have h := h _ eI9
          exact PX.vret g hF rfl d_ps_fail_74 hL h
def w_ps_need (a1 : Int32) (I : pI) (R : pR) (Q : pI → pR → Prop) : Prop := (w_tk_kindAt (I 108 2) I R (fun v1 I1 R1 => ((v1 = a1 → (∀ I2, I2 = pw_wI I1 108 2 ((I1 108 2) + (1 : Int32)) → Q I2 R1)) ∧ (¬ v1 = a1 → (w_ps_fail  I1 R1 (fun I3 R2 => Q I3 R2))))))
set_option maxHeartbeats 4000000 in
set_option maxRecDepth 100000 in
theorem c_ps_need (d : Nat) {a1 : Int32} {I : pI} {R : pR} {Q : pI → pR → Prop} (hL : pw_Lay R) (h : w_ps_need a1 I R Q) : Cm (d + 2) m_ps_need [.ref 108, .int a1] I R (qv Q) := by
  refine Cm.of [some (.ref 108), some (.int a1)] (by decide) rfl (Nat.le_of_ble_eq_true rfl) (by simp) (fun E B g hF => ?_)
  unfold w_ps_need at h
  refine PW.aload_n g rfl rfl d_ps_need_0 ?_
  refine PW.getR (q := 109) g fi_ps_12 rfl (hL 108 7 0 rfl (by decide)) d_ps_need_1 ?_
  refine PW.aload_n g rfl rfl d_ps_need_4 ?_
  refine PW.getI g fi_ps_31 rfl d_ps_need_5 ?_
  refine PX.cVi [.int (I 108 2)] [] g rfl ck_tk (c_tk_kindAt d  hL h) cl_ps_106 (by omega) (by decide) rfl rfl (Nat.le_of_ble_eq_true rfl) d_ps_need_8 (fun v1 I1 R1 hL h => ?_)
  refine PW.iload_n g rfl rfl d_ps_need_11 ?_
  refine PW.icmp_eq g 22 (by decide) d_ps_need_12 (fun c1 => ?_) (fun c1 => ?_)
  · have h := h.1 c1
    refine PW.aload_n g rfl rfl d_ps_need_22 ?_
    refine PW.dup g rfl d_ps_need_23 ?_
    refine PW.getI g fi_ps_31 rfl d_ps_need_24 ?_
    refine PW.iconst g (1) (by decide) d_ps_need_27 ?_
    refine PW.iadd g d_ps_need_28 ?_
    refine PW.putI g fi_ps_31 rfl rfl rfl d_ps_need_29 ?_
    refine PX.gI (fun I2 eI2 => ?_)
    have h := h _ eI2
    exact PX.vret g hF rfl d_ps_need_32 hL h
  · have h := h.2 c1
    refine PW.aload_n g rfl rfl d_ps_need_15 ?_
    refine PX.cVv [] [] g rfl ck_ps (c_ps_fail d  hL h) cl_ps_56 (by omega) (by decide) rfl rfl (Nat.le_of_ble_eq_true rfl) d_ps_need_16 (fun I3 R2 hL h => ?_)
    refine PW.goto g 32 (by decide) d_ps_need_19 ?_
    exact PX.vret g hF rfl d_ps_need_32 hL h
def w_ps_next (I : pI) (R : pR) (Q : Int32 → pI → pR → Prop) : Prop := (w_tk_kindAt (I 108 2) I R (fun v1 I1 R1 => Q v1 I1 R1))
set_option maxHeartbeats 4000000 in
set_option maxRecDepth 100000 in
theorem c_ps_next (d : Nat) {I : pI} {R : pR} {Q : Int32 → pI → pR → Prop} (hL : pw_Lay R) (h : w_ps_next  I R Q) : Cm (d + 2) m_ps_next [.ref 108] I R (qi Q) := by
  refine Cm.of [some (.ref 108)] (by decide) rfl (Nat.le_of_ble_eq_true rfl) (by simp) (fun E B g hF => ?_)
  unfold w_ps_next at h
  refine PW.aload_n g rfl rfl d_ps_next_0 ?_
  refine PW.getR (q := 109) g fi_ps_12 rfl (hL 108 7 0 rfl (by decide)) d_ps_next_1 ?_
  refine PW.aload_n g rfl rfl d_ps_next_4 ?_
  refine PW.getI g fi_ps_31 rfl d_ps_next_5 ?_
  refine PX.cVi [.int (I 108 2)] [] g rfl ck_tk (c_tk_kindAt d  hL h) cl_ps_106 (by omega) (by decide) rfl rfl (Nat.le_of_ble_eq_true rfl) d_ps_next_8 (fun v1 I1 R1 hL h => ?_)
  exact PX.iret g hF rfl d_ps_next_11 hL h
def j_ps_ruleIsNext_80 (Q : Int32 → pI → pR → Prop) (x1 : Int32) (I : pI) (R : pR) : Prop := (w_tk_kindAt (x1 + (1 : Int32)) I R (fun v3 I3 R3 => (w_tk_kindAt x1 I3 R3 (fun v4 I4 R4 => ((¬ v4 = (42 : Int32) → Q (0 : Int32) I4 R4) ∧ (v4 = (42 : Int32) → ((v3 = (77 : Int32) → Q (1 : Int32) I4 R4) ∧ (¬ v3 = (77 : Int32) → ((¬ v3 = (78 : Int32) → Q (0 : Int32) I4 R4) ∧ (v3 = (78 : Int32) → Q (1 : Int32) I4 R4))))))))))
set_option maxHeartbeats 4000000 in
set_option maxRecDepth 100000 in
theorem J_ps_ruleIsNext_80 (d : Nat) {Q : Int32 → pI → pR → Prop} {x1 : Int32} {E : pE} {B : pB} (g : pw_G m_ps_ruleIsNext (d + 3) 0 0 E B) (hF : pX (qz Q) E B) {I : pI} {R : pR} (hL : pw_Lay R) (h : j_ps_ruleIsNext_80  Q x1 I R) : PX E B m_ps_ruleIsNext.2.2.1 80 [some (.ref 108), some (.int x1), none] [] I R := by
  unfold j_ps_ruleIsNext_80 at h
  refine PW.aload_n g rfl rfl d_ps_ruleIsNext_80 ?_
  refine PW.getR (q := 109) g fi_ps_12 rfl (hL 108 7 0 rfl (by decide)) d_ps_ruleIsNext_81 ?_
  refine PW.iload_n g rfl rfl d_ps_ruleIsNext_84 ?_
  refine PW.iconst g (1) (by decide) d_ps_ruleIsNext_85 ?_
  refine PW.iadd g d_ps_ruleIsNext_86 ?_
  refine PX.cVi [.int (x1 + (1 : Int32))] [] g rfl ck_tk (c_tk_kindAt d  hL h) cl_ps_106 (by omega) (by decide) rfl rfl (Nat.le_of_ble_eq_true rfl) d_ps_ruleIsNext_87 (fun v3 I3 R3 hL h => ?_)
  refine PW.istore_n g rfl (L' := [some (.ref 108), some (.int x1), some (.int v3)]) (by decide) rfl rfl d_ps_ruleIsNext_90 ?_
  refine PW.aload_n g rfl rfl d_ps_ruleIsNext_91 ?_
  refine PW.getR (q := 109) g fi_ps_12 rfl (hL 108 7 0 rfl (by decide)) d_ps_ruleIsNext_92 ?_
  refine PW.iload_n g rfl rfl d_ps_ruleIsNext_95 ?_
  refine PX.cVi [.int x1] [] g rfl ck_tk (c_tk_kindAt d  hL h) cl_ps_106 (by omega) (by decide) rfl rfl (Nat.le_of_ble_eq_true rfl) d_ps_ruleIsNext_96 (fun v4 I4 R4 hL h => ?_)
  refine PW.bipush g (42) (by decide) d_ps_ruleIsNext_99 ?_
  refine PW.icmp_ne g 120 (by decide) d_ps_ruleIsNext_101 (fun c3 => ?_) (fun c3 => ?_)
  · have h := h.1 c3
    refine PW.iconst g (0) (by decide) d_ps_ruleIsNext_120 ?_
    exact PX.zret g hF rfl (Or.inl rfl) d_ps_ruleIsNext_121 hL h
  · have h := h.2 c3
    refine PW.iload_n g rfl rfl d_ps_ruleIsNext_104 ?_
    refine PW.bipush g (77) (by decide) d_ps_ruleIsNext_105 ?_
    refine PW.icmp_eq g 116 (by decide) d_ps_ruleIsNext_107 (fun c4 => ?_) (fun c4 => ?_)
    · have h := h.1 c4
      refine PW.iconst g (1) (by decide) d_ps_ruleIsNext_116 ?_
      refine PW.goto g 121 (by decide) d_ps_ruleIsNext_117 ?_
      exact PX.zret g hF rfl (Or.inr rfl) d_ps_ruleIsNext_121 hL h
    · have h := h.2 c4
      refine PW.iload_n g rfl rfl d_ps_ruleIsNext_110 ?_
      refine PW.bipush g (78) (by decide) d_ps_ruleIsNext_111 ?_
      refine PW.icmp_ne g 120 (by decide) d_ps_ruleIsNext_113 (fun c5 => ?_) (fun c5 => ?_)
      · have h := h.1 c5
        refine PW.iconst g (0) (by decide) d_ps_ruleIsNext_120 ?_
        exact PX.zret g hF rfl (Or.inl rfl) d_ps_ruleIsNext_121 hL h
      · have h := h.2 c5
        refine PW.iconst g (1) (by decide) d_ps_ruleIsNext_116 ?_
        refine PW.goto g 121 (by decide) d_ps_ruleIsNext_117 ?_
        exact PX.zret g hF rfl (Or.inr rfl) d_ps_ruleIsNext_121 hL h
def w_ps_ruleIsNext (I : pI) (R : pR) (Q : Int32 → pI → pR → Prop) : Prop := (w_ps_next  I R (fun v1 I1 R1 => ((v1 = (258 : Int32) → (w_tk_kindAt ((I1 108 2) + (1 : Int32)) I1 R1 (fun v2 I2 R2 => ((¬ v2 = (45 : Int32) → (j_ps_ruleIsNext_80 Q ((I1 108 2) + (1 : Int32)) I2 R2)) ∧ (v2 = (45 : Int32) → (w_tk_kindAt ((I2 108 2) + (2 : Int32)) I2 R2 (fun v5 I5 R5 => ((¬ v5 = (95 : Int32) → (w_tk_kindAt ((I5 108 2) + (2 : Int32)) I5 R5 (fun v6 I6 R6 => ((v6 = (258 : Int32) → (j_ps_ruleIsNext_80 Q ((I6 108 2) + (3 : Int32)) I6 R6)) ∧ (¬ v6 = (258 : Int32) → Q (0 : Int32) I6 R6))))) ∧ (v5 = (95 : Int32) → Q (1 : Int32) I5 R5))))))))) ∧ (¬ v1 = (258 : Int32) → Q (0 : Int32) I1 R1))))
set_option maxHeartbeats 4000000 in
set_option maxRecDepth 100000 in
theorem c_ps_ruleIsNext (d : Nat) {I : pI} {R : pR} {Q : Int32 → pI → pR → Prop} (hL : pw_Lay R) (h : w_ps_ruleIsNext  I R Q) : Cm (d + 3) m_ps_ruleIsNext [.ref 108] I R (qz Q) := by
  refine Cm.of [some (.ref 108), none, none] (by decide) rfl (Nat.le_of_ble_eq_true rfl) (by simp) (fun E B g hF => ?_)
  unfold w_ps_ruleIsNext at h
  refine PW.aload_n g rfl rfl d_ps_ruleIsNext_0 ?_
  refine PX.cVi [] [] g rfl ck_ps (c_ps_next d  hL h) cl_ps_49 (by omega) (by decide) rfl rfl (Nat.le_of_ble_eq_true rfl) d_ps_ruleIsNext_1 (fun v1 I1 R1 hL h => ?_)
  refine PW.sipush g (258) (by decide) d_ps_ruleIsNext_4 ?_
  refine PW.icmp_eq g 12 (by decide) d_ps_ruleIsNext_7 (fun c1 => ?_) (fun c1 => ?_)
  · have h := h.1 c1
    refine PW.aload_n g rfl rfl d_ps_ruleIsNext_12 ?_
    refine PW.getI g fi_ps_31 rfl d_ps_ruleIsNext_13 ?_
    refine PW.iconst g (1) (by decide) d_ps_ruleIsNext_16 ?_
    refine PW.iadd g d_ps_ruleIsNext_17 ?_
    refine PW.istore_n g rfl (L' := [some (.ref 108), some (.int ((I1 108 2) + (1 : Int32))), none]) (by decide) rfl rfl d_ps_ruleIsNext_18 ?_
    refine PW.aload_n g rfl rfl d_ps_ruleIsNext_19 ?_
    refine PW.getR (q := 109) g fi_ps_12 rfl (hL 108 7 0 rfl (by decide)) d_ps_ruleIsNext_20 ?_
    refine PW.iload_n g rfl rfl d_ps_ruleIsNext_23 ?_
    refine PX.cVi [.int ((I1 108 2) + (1 : Int32))] [] g rfl ck_tk (c_tk_kindAt d  hL h) cl_ps_106 (by omega) (by decide) rfl rfl (Nat.le_of_ble_eq_true rfl) d_ps_ruleIsNext_24 (fun v2 I2 R2 hL h => ?_)
    refine PW.bipush g (45) (by decide) d_ps_ruleIsNext_27 ?_
    refine PW.icmp_ne g 80 (by decide) d_ps_ruleIsNext_29 (fun c2 => ?_) (fun c2 => ?_)
    · have h := h.1 c2
      refine PX.sub [some (.ref 108), some (.int ((I1 108 2) + (1 : Int32))), none] ⟨rfl, ⟨rfl, trivial⟩⟩ ?_
      exact J_ps_ruleIsNext_80 d g hF hL h
    · have h := h.2 c2
      refine PW.aload_n g rfl rfl d_ps_ruleIsNext_32 ?_
      refine PW.getR (q := 109) g fi_ps_12 rfl (hL 108 7 0 rfl (by decide)) d_ps_ruleIsNext_33 ?_
      refine PW.aload_n g rfl rfl d_ps_ruleIsNext_36 ?_
      refine PW.getI g fi_ps_31 rfl d_ps_ruleIsNext_37 ?_
      refine PW.iconst g (2) (by decide) d_ps_ruleIsNext_40 ?_
      refine PW.iadd g d_ps_ruleIsNext_41 ?_
      refine PX.cVi [.int ((I2 108 2) + (2 : Int32))] [] g rfl ck_tk (c_tk_kindAt d  hL h) cl_ps_106 (by omega) (by decide) rfl rfl (Nat.le_of_ble_eq_true rfl) d_ps_ruleIsNext_42 (fun v5 I5 R5 hL h => ?_)
      refine PW.bipush g (95) (by decide) d_ps_ruleIsNext_45 ?_
      refine PW.icmp_ne g 52 (by decide) d_ps_ruleIsNext_47 (fun c6 => ?_) (fun c6 => ?_)
      · have h := h.1 c6
        refine PW.aload_n g rfl rfl d_ps_ruleIsNext_52 ?_
        refine PW.getR (q := 109) g fi_ps_12 rfl (hL 108 7 0 rfl (by decide)) d_ps_ruleIsNext_53 ?_
        refine PW.aload_n g rfl rfl d_ps_ruleIsNext_56 ?_
        refine PW.getI g fi_ps_31 rfl d_ps_ruleIsNext_57 ?_
        refine PW.iconst g (2) (by decide) d_ps_ruleIsNext_60 ?_
        refine PW.iadd g d_ps_ruleIsNext_61 ?_
        refine PX.cVi [.int ((I5 108 2) + (2 : Int32))] [] g rfl ck_tk (c_tk_kindAt d  hL h) cl_ps_106 (by omega) (by decide) rfl rfl (Nat.le_of_ble_eq_true rfl) d_ps_ruleIsNext_62 (fun v6 I6 R6 hL h => ?_)
        refine PW.sipush g (258) (by decide) d_ps_ruleIsNext_65 ?_
        refine PW.icmp_eq g 73 (by decide) d_ps_ruleIsNext_68 (fun c7 => ?_) (fun c7 => ?_)
        · have h := h.1 c7
          refine PW.aload_n g rfl rfl d_ps_ruleIsNext_73 ?_
          refine PW.getI g fi_ps_31 rfl d_ps_ruleIsNext_74 ?_
          refine PW.iconst g (3) (by decide) d_ps_ruleIsNext_77 ?_
          refine PW.iadd g d_ps_ruleIsNext_78 ?_
          refine PW.istore_n g rfl (L' := [some (.ref 108), some (.int ((I6 108 2) + (3 : Int32))), none]) (by decide) rfl rfl d_ps_ruleIsNext_79 ?_
          refine PX.sub [some (.ref 108), some (.int ((I6 108 2) + (3 : Int32))), none] ⟨rfl, ⟨rfl, trivial⟩⟩ ?_
          exact J_ps_ruleIsNext_80 d g hF hL h
        · have h := h.2 c7
          refine PW.iconst g (0) (by decide) d_ps_ruleIsNext_71 ?_
          exact PX.zret g hF rfl (Or.inl rfl) d_ps_ruleIsNext_72 hL h
      · have h := h.2 c6
        refine PW.iconst g (1) (by decide) d_ps_ruleIsNext_50 ?_
        exact PX.zret g hF rfl (Or.inr rfl) d_ps_ruleIsNext_51 hL h
  · have h := h.2 c1
    refine PW.iconst g (0) (by decide) d_ps_ruleIsNext_10 ?_
    exact PX.zret g hF rfl (Or.inl rfl) d_ps_ruleIsNext_11 hL h
def w_ps_number (I : pI) (R : pR) (Q : Int32 → pI → pR → Prop) : Prop := (w_tk_kindAt (I 108 2) I R (fun v1 I1 R1 => ((v1 = (258 : Int32) → (∀ I2, I2 = pw_wI I1 108 2 ((I1 108 2) + (1 : Int32)) → (w_tk_numberOf ((I2 108 2) - (1 : Int32)) I2 R1 (fun v2 I3 R2 => Q v2 I3 R2)))) ∧ (¬ v1 = (258 : Int32) → (w_ps_fail  I1 R1 (fun I4 R3 => Q (0 : Int32) I4 R3))))))
set_option maxHeartbeats 4000000 in
set_option maxRecDepth 100000 in
theorem c_ps_number (d : Nat) {I : pI} {R : pR} {Q : Int32 → pI → pR → Prop} (hL : pw_Lay R) (h : w_ps_number  I R Q) : Cm (d + 2) m_ps_number [.ref 108] I R (qi Q) := by
  refine Cm.of [some (.ref 108)] (by decide) rfl (Nat.le_of_ble_eq_true rfl) (by simp) (fun E B g hF => ?_)
  unfold w_ps_number at h
  refine PW.aload_n g rfl rfl d_ps_number_0 ?_
  refine PW.getR (q := 109) g fi_ps_12 rfl (hL 108 7 0 rfl (by decide)) d_ps_number_1 ?_
  refine PW.aload_n g rfl rfl d_ps_number_4 ?_
  refine PW.getI g fi_ps_31 rfl d_ps_number_5 ?_
  refine PX.cVi [.int (I 108 2)] [] g rfl ck_tk (c_tk_kindAt d  hL h) cl_ps_106 (by omega) (by decide) rfl rfl (Nat.le_of_ble_eq_true rfl) d_ps_number_8 (fun v1 I1 R1 hL h => ?_)
  refine PW.sipush g (258) (by decide) d_ps_number_11 ?_
  refine PW.icmp_eq g 23 (by decide) d_ps_number_14 (fun c1 => ?_) (fun c1 => ?_)
  · have h := h.1 c1
    refine PW.aload_n g rfl rfl d_ps_number_23 ?_
    refine PW.dup g rfl d_ps_number_24 ?_
    refine PW.getI g fi_ps_31 rfl d_ps_number_25 ?_
    refine PW.iconst g (1) (by decide) d_ps_number_28 ?_
    refine PW.iadd g d_ps_number_29 ?_
    refine PW.putI g fi_ps_31 rfl rfl rfl d_ps_number_30 ?_
    refine PX.gI (fun I2 eI2 => ?_)
    have h := h _ eI2
    refine PW.aload_n g rfl rfl d_ps_number_33 ?_
    refine PW.getR (q := 109) g fi_ps_12 rfl (hL 108 7 0 rfl (by decide)) d_ps_number_34 ?_
    refine PW.aload_n g rfl rfl d_ps_number_37 ?_
    refine PW.getI g fi_ps_31 rfl d_ps_number_38 ?_
    refine PW.iconst g (1) (by decide) d_ps_number_41 ?_
    refine PW.isub g d_ps_number_42 ?_
    refine PX.cVi [.int ((I2 108 2) - (1 : Int32))] [] g rfl ck_tk (c_tk_numberOf d  hL h) cl_ps_119 (by omega) (by decide) rfl rfl (Nat.le_of_ble_eq_true rfl) d_ps_number_43 (fun v2 I3 R2 hL h => ?_)
    exact PX.iret g hF rfl d_ps_number_46 hL h
  · have h := h.2 c1
    refine PW.aload_n g rfl rfl d_ps_number_17 ?_
    refine PX.cVv [] [] g rfl ck_ps (c_ps_fail d  hL h) cl_ps_56 (by omega) (by decide) rfl rfl (Nat.le_of_ble_eq_true rfl) d_ps_number_18 (fun I4 R3 hL h => ?_)
    refine PW.iconst g (0) (by decide) d_ps_number_21 ?_
    exact PX.iret g hF rfl d_ps_number_22 hL h
def j_ps_rule_192 (q1 : Nat) (K166 : Int32 → Int32 → pI → pR → Prop) (Q : Int32 → pI → pR → Prop) (f4 : Int32) (x8 : Int32) (s0 : Int32) (I : pI) (R : pR) : Prop := (w_ps_number  I R (fun v15 I15 R15 => (w_rl_addAnswer (q1 + 14) f4 (s0 * v15) I15 R15 (fun I16 R16 => (w_ps_take (44 : Int32) I16 R16 (fun v17 I17 R17 => K166 v17 (x8 + 1) I17 R17))))))
set_option maxHeartbeats 4000000 in
set_option maxRecDepth 100000 in
theorem J_ps_rule_192 (d : Nat) {q1 : Nat} (hq1 : pSH[q1]? = some (0, 5)) {K166 : Int32 → Int32 → pI → pR → Prop} {Q : Int32 → pI → pR → Prop} {f4 : Int32} {x8 : Int32} {s0 : Int32} {E : pE} {B : pB} (g : pw_G m_ps_rule (d + 3) 0 0 E B) (hF : pX (qi Q) E B) (hK166 : ∀ (y7 : Int32) (y8 : Int32) (I : pI) (R : pR), pw_Lay R → K166 y7 y8 I R → PX E B m_ps_rule.2.2.1 166 [some (.ref 108), some (.ref (q1 + 14)), none, none, some (.int f4), none, none, some (.int y7), some (.int y8), none] [] I R) {I : pI} {R : pR} (hL : pw_Lay R) (h : j_ps_rule_192 q1 K166 Q f4 x8 s0 I R) : PX E B m_ps_rule.2.2.1 192 [some (.ref 108), some (.ref (q1 + 14)), none, none, some (.int f4), none, none, none, some (.int x8), none] [.int s0] I R := by
  unfold j_ps_rule_192 at h
  refine PW.istore g (L' := [some (.ref 108), some (.ref (q1 + 14)), none, none, some (.int f4), none, none, none, some (.int x8), some (.int s0)]) (by decide) rfl rfl d_ps_rule_192 ?_
  refine PW.aload_n g rfl rfl d_ps_rule_194 ?_
  refine PW.iload g rfl d_ps_rule_195 ?_
  refine PW.iload g rfl d_ps_rule_197 ?_
  refine PW.aload_n g rfl rfl d_ps_rule_199 ?_
  refine PX.cVi [] [.int s0, .int f4, .ref (q1 + 14)] g rfl ck_ps (c_ps_number d  hL h) cl_ps_137 (by omega) (by decide) rfl rfl (Nat.le_of_ble_eq_true rfl) d_ps_rule_200 (fun v15 I15 R15 hL h => ?_)
  refine PW.imul g d_ps_rule_203 ?_
  refine PX.cVv [.int f4, .int (s0 * v15)] [] g (pw_shp hq1 3 (by decide)) ck_rl (c_rl_addAnswer d (pw_shp hq1 3 (by decide)) hL h) cl_ps_151 (by omega) (by decide) rfl rfl (Nat.le_of_ble_eq_true rfl) d_ps_rule_204 (fun I16 R16 hL h => ?_)
  refine PW.aload_n g rfl rfl d_ps_rule_207 ?_
  refine PW.bipush g (44) (by decide) d_ps_rule_208 ?_
  refine PX.cVz [.int (44 : Int32)] [] g rfl ck_ps (c_ps_take d  hL h) cl_ps_38 (by omega) (by decide) rfl rfl (Nat.le_of_ble_eq_true rfl) d_ps_rule_210 (fun v17 I17 R17 hL hzv17 h => ?_)
  refine PW.istore g (L' := [some (.ref 108), some (.ref (q1 + 14)), none, none, some (.int f4), none, none, some (.int v17), some (.int x8), some (.int s0)]) (by decide) rfl rfl d_ps_rule_213 ?_
  refine PW.iinc g rfl (show x8 + Int32.ofInt (1) = (x8 + 1) from congrArg (HAdd.hAdd x8) (by decide)) (by decide) rfl (L' := [some (.ref 108), some (.ref (q1 + 14)), none, none, some (.int f4), none, none, some (.int v17), some (.int (x8 + 1)), some (.int s0)]) rfl d_ps_rule_215 ?_
  refine PW.goto g 166 (by decide) d_ps_rule_218 ?_
  refine PX.sub [some (.ref 108), some (.ref (q1 + 14)), none, none, some (.int f4), none, none, some (.int v17), some (.int (x8 + 1)), none] ⟨rfl, ⟨rfl, ⟨rfl, ⟨rfl, ⟨rfl, trivial⟩⟩⟩⟩⟩ ?_
  exact hK166 _ _ _ _ hL h
def l_ps_rule_166 (q1 : Nat) (f4 : Int32) (K : pI → pR → Prop) (Q : Int32 → pI → pR → Prop) : Nat → Int32 → Int32 → pI → pR → Prop
  | 0, _, _, _, _ => False
  | n + 1, x7, x8, I, R => (((120 : Int32) ≤ x8 → K I R) ∧ (¬ (120 : Int32) ≤ x8 → ((x7 = 0 → K I R) ∧ (¬ x7 = 0 → (w_ps_take (45 : Int32) I R (fun v14 I14 R14 => ((v14 = 0 → (j_ps_rule_192 q1 (fun y1 y2 I18 R18 => l_ps_rule_166 q1 f4 K Q n y1 y2 I18 R18) Q f4 x8 (1 : Int32) I14 R14)) ∧ (¬ v14 = 0 → (j_ps_rule_192 q1 (fun y3 y4 I19 R19 => l_ps_rule_166 q1 f4 K Q n y3 y4 I19 R19) Q f4 x8 (-1 : Int32) I14 R14)))))))))
set_option maxHeartbeats 4000000 in
set_option maxRecDepth 100000 in
theorem L_ps_rule_166 (d : Nat) {q1 : Nat} (hq1 : pSH[q1]? = some (0, 5)) {f4 : Int32} {K : pI → pR → Prop} {Q : Int32 → pI → pR → Prop} {E : pE} {B : pB} (g : pw_G m_ps_rule (d + 3) 0 0 E B) (hF : pX (qi Q) E B) (hK : ∀ (I : pI) (R : pR), pw_Lay R → K  I R → PX E B m_ps_rule.2.2.1 221 [none, none, none, none, some (.int f4), none, none, none, none, none] [] I R) : ∀ (n : Nat) (x7 : Int32) (x8 : Int32) (I : pI) (R : pR), pw_Lay R → l_ps_rule_166 q1 f4 K Q n x7 x8 I R → PX E B m_ps_rule.2.2.1 166 [some (.ref 108), some (.ref (q1 + 14)), none, none, some (.int f4), none, none, some (.int x7), some (.int x8), none] [] I R := by
  intro n
  induction n with
  | zero => intro x7 x8 I R hL h; exact False.elim h
  | succ n ih =>
    intro x7 x8 I R hL h
    refine PW.iload g rfl d_ps_rule_166 ?_
    refine PW.bipush g (120) (by decide) d_ps_rule_168 ?_
    refine PW.icmp_ge g 221 (by decide) d_ps_rule_170 (fun c7 => ?_) (fun c7 => ?_)
    · have h := h.1 c7
      refine PX.sub [none, none, none, none, some (.int f4), none, none, none, none, none] ⟨rfl, trivial⟩ ?_
      exact hK _ _ hL h
    · have h := h.2 c7
      refine PW.iload g rfl d_ps_rule_173 ?_
      refine PW.if_eq g 221 (by decide) d_ps_rule_175 (fun c8 => ?_) (fun c8 => ?_)
      · have h := h.1 c8
        refine PX.sub [none, none, none, none, some (.int f4), none, none, none, none, none] ⟨rfl, trivial⟩ ?_
        exact hK _ _ hL h
      · have h := h.2 c8
        refine PW.aload_n g rfl rfl d_ps_rule_178 ?_
        refine PW.bipush g (45) (by decide) d_ps_rule_179 ?_
        refine PX.cVz [.int (45 : Int32)] [] g rfl ck_ps (c_ps_take d  hL h) cl_ps_38 (by omega) (by decide) rfl rfl (Nat.le_of_ble_eq_true rfl) d_ps_rule_181 (fun v14 I14 R14 hL hzv14 h => ?_)
        refine PW.if_eq g 191 (by decide) d_ps_rule_184 (fun c9 => ?_) (fun c9 => ?_)
        · have h := h.1 c9
          refine PW.iconst g (1) (by decide) d_ps_rule_191 ?_
          refine PX.sub [some (.ref 108), some (.ref (q1 + 14)), none, none, some (.int f4), none, none, none, some (.int x8), none] ⟨rfl, ⟨rfl, ⟨rfl, ⟨rfl, trivial⟩⟩⟩⟩ ?_
          refine J_ps_rule_192 d hq1 g hF (fun y1 y2 I18 R18 hL h => ?_) hL h
          refine PX.sub [some (.ref 108), some (.ref (q1 + 14)), none, none, some (.int f4), none, none, some (.int y1), some (.int y2), none] ⟨rfl, ⟨rfl, ⟨rfl, ⟨rfl, ⟨rfl, trivial⟩⟩⟩⟩⟩ ?_
          exact ih _ _ _ _ hL h
        · have h := h.2 c9
          refine PW.iconst g (-1) (by decide) d_ps_rule_187 ?_
          refine PW.goto g 192 (by decide) d_ps_rule_188 ?_
          refine PX.sub [some (.ref 108), some (.ref (q1 + 14)), none, none, some (.int f4), none, none, none, some (.int x8), none] ⟨rfl, ⟨rfl, ⟨rfl, ⟨rfl, trivial⟩⟩⟩⟩ ?_
          refine J_ps_rule_192 d hq1 g hF (fun y3 y4 I19 R19 hL h => ?_) hL h
          refine PX.sub [some (.ref 108), some (.ref (q1 + 14)), none, none, some (.int f4), none, none, some (.int y3), some (.int y4), none] ⟨rfl, ⟨rfl, ⟨rfl, ⟨rfl, ⟨rfl, trivial⟩⟩⟩⟩⟩ ?_
          exact ih _ _ _ _ hL h
def j_ps_rule_145 (q1 : Nat) (Q : Int32 → pI → pR → Prop) (x4 : Int32) (s1 : Int32) (s2 : Int32) (s3 : Int32) (s4 : Int32) (I : pI) (R : pR) : Prop := (w_rl_aim (q1 + 14) s1 s2 s3 s4 I R (fun I11 R11 => (w_ps_need (41 : Int32) I11 R11 (fun I12 R12 => (w_ps_take (266 : Int32) I12 R12 (fun v13 I13 R13 => (∃ n1, l_ps_rule_166 q1 x4 (fun I20 R20 => Q x4 I20 R20) Q n1 v13 (0 : Int32) I13 R13)))))))
set_option maxHeartbeats 4000000 in
set_option maxRecDepth 100000 in
theorem J_ps_rule_145 (d : Nat) {q1 : Nat} (hq1 : pSH[q1]? = some (0, 5)) {Q : Int32 → pI → pR → Prop} {x4 : Int32} {s1 : Int32} {s2 : Int32} {s3 : Int32} {s4 : Int32} {E : pE} {B : pB} (g : pw_G m_ps_rule (d + 3) 0 0 E B) (hF : pX (qi Q) E B) {I : pI} {R : pR} (hL : pw_Lay R) (h : j_ps_rule_145 q1 Q x4 s1 s2 s3 s4 I R) : PX E B m_ps_rule.2.2.1 145 [some (.ref 108), some (.ref (q1 + 14)), none, none, some (.int x4), none, none, none, none, none] [.int s4, .int s3, .int s2, .int s1, .ref (q1 + 14)] I R := by
  unfold j_ps_rule_145 at h
  refine PX.cVv [.int s1, .int s2, .int s3, .int s4] [] g (pw_shp hq1 3 (by decide)) ck_rl (c_rl_aim d (pw_shp hq1 3 (by decide)) hL h) cl_ps_147 (by omega) (by decide) rfl rfl (Nat.le_of_ble_eq_true rfl) d_ps_rule_145 (fun I11 R11 hL h => ?_)
  refine PW.aload_n g rfl rfl d_ps_rule_148 ?_
  refine PW.bipush g (41) (by decide) d_ps_rule_149 ?_
  refine PX.cVv [.int (41 : Int32)] [] g rfl ck_ps (c_ps_need d  hL h) cl_ps_62 (by omega) (by decide) rfl rfl (Nat.le_of_ble_eq_true rfl) d_ps_rule_151 (fun I12 R12 hL h => ?_)
  refine PW.aload_n g rfl rfl d_ps_rule_154 ?_
  refine PW.sipush g (266) (by decide) d_ps_rule_155 ?_
  refine PX.cVz [.int (266 : Int32)] [] g rfl ck_ps (c_ps_take d  hL h) cl_ps_38 (by omega) (by decide) rfl rfl (Nat.le_of_ble_eq_true rfl) d_ps_rule_158 (fun v13 I13 R13 hL hzv13 h => ?_)
  refine PW.istore g (L' := [some (.ref 108), some (.ref (q1 + 14)), none, none, some (.int x4), none, none, some (.int v13), none, none]) (by decide) rfl rfl d_ps_rule_161 ?_
  refine PW.iconst g (0) (by decide) d_ps_rule_163 ?_
  refine PW.istore g (L' := [some (.ref 108), some (.ref (q1 + 14)), none, none, some (.int x4), none, none, some (.int v13), some (.int (0 : Int32)), none]) (by decide) rfl rfl d_ps_rule_164 ?_
  refine PX.sub [some (.ref 108), some (.ref (q1 + 14)), none, none, some (.int x4), none, none, some (.int v13), some (.int (0 : Int32)), none] ⟨rfl, ⟨rfl, ⟨rfl, ⟨rfl, ⟨rfl, trivial⟩⟩⟩⟩⟩ ?_
  obtain ⟨n1, h⟩ := h
  refine L_ps_rule_166 d hq1 g hF (fun I20 R20 hL h => ?_) n1 v13 (0 : Int32) I13 R13 hL h
  refine PW.iload g rfl d_ps_rule_221 ?_
  exact PX.iret g hF rfl d_ps_rule_223 hL h
def j_ps_rule_123 (q1 : Nat) (Q : Int32 → pI → pR → Prop) (x4 : Int32) (x5 : Int32) (s0 : Int32) (I : pI) (R : pR) : Prop := ((¬ s0 = 0 → (w_ps_number  I R (fun v10 I10 R10 => (j_ps_rule_145 q1 Q x4 x4 x5 s0 v10 I10 R10)))) ∧ (s0 = 0 → (j_ps_rule_145 q1 Q x4 x4 x5 s0 (0 : Int32) I R)))
set_option maxHeartbeats 4000000 in
set_option maxRecDepth 100000 in
theorem J_ps_rule_123 (d : Nat) {q1 : Nat} (hq1 : pSH[q1]? = some (0, 5)) {Q : Int32 → pI → pR → Prop} {x4 : Int32} {x5 : Int32} {s0 : Int32} {E : pE} {B : pB} (g : pw_G m_ps_rule (d + 3) 0 0 E B) (hF : pX (qi Q) E B) {I : pI} {R : pR} (hL : pw_Lay R) (h : j_ps_rule_123 q1 Q x4 x5 s0 I R) : PX E B m_ps_rule.2.2.1 123 [some (.ref 108), some (.ref (q1 + 14)), none, none, some (.int x4), some (.int x5), none, none, none, none] [.int s0] I R := by
  unfold j_ps_rule_123 at h
  refine PW.istore g (L' := [some (.ref 108), some (.ref (q1 + 14)), none, none, some (.int x4), some (.int x5), some (.int s0), none, none, none]) (by decide) rfl rfl d_ps_rule_123 ?_
  refine PW.aload_n g rfl rfl d_ps_rule_125 ?_
  refine PW.iload g rfl d_ps_rule_126 ?_
  refine PW.iload g rfl d_ps_rule_128 ?_
  refine PW.iload g rfl d_ps_rule_130 ?_
  refine PW.iload g rfl d_ps_rule_132 ?_
  refine PW.if_ne g 141 (by decide) d_ps_rule_134 (fun c6 => ?_) (fun c6 => ?_)
  · have h := h.1 c6
    refine PW.aload_n g rfl rfl d_ps_rule_141 ?_
    refine PX.cVi [] [.int s0, .int x5, .int x4, .ref (q1 + 14)] g rfl ck_ps (c_ps_number d  hL h) cl_ps_137 (by omega) (by decide) rfl rfl (Nat.le_of_ble_eq_true rfl) d_ps_rule_142 (fun v10 I10 R10 hL h => ?_)
    refine PX.sub [some (.ref 108), some (.ref (q1 + 14)), none, none, some (.int x4), none, none, none, none, none] ⟨rfl, ⟨rfl, ⟨rfl, trivial⟩⟩⟩ ?_
    exact J_ps_rule_145 d hq1 g hF hL h
  · have h := h.2 c6
    refine PW.iconst g (0) (by decide) d_ps_rule_137 ?_
    refine PW.goto g 145 (by decide) d_ps_rule_138 ?_
    refine PX.sub [some (.ref 108), some (.ref (q1 + 14)), none, none, some (.int x4), none, none, none, none, none] ⟨rfl, ⟨rfl, ⟨rfl, trivial⟩⟩⟩ ?_
    exact J_ps_rule_145 d hq1 g hF hL h
def j_ps_rule_87 (q1 : Nat) (Q : Int32 → pI → pR → Prop) (x4 : Int32) (x5 : Int32) (s1 : Int32) (I : pI) (R : pR) : Prop := (w_ps_need s1 I R (fun I6 R6 => (w_ps_need (40 : Int32) I6 R6 (fun I7 R7 => (w_ps_take (95 : Int32) I7 R7 (fun v8 I8 R8 => ((v8 = 0 → (w_ps_take (33 : Int32) I8 R8 (fun v9 I9 R9 => ((v9 = 0 → (j_ps_rule_123 q1 Q x4 x5 (1 : Int32) I9 R9)) ∧ (¬ v9 = 0 → (j_ps_rule_123 q1 Q x4 x5 (2 : Int32) I9 R9)))))) ∧ (¬ v8 = 0 → (j_ps_rule_123 q1 Q x4 x5 (0 : Int32) I8 R8)))))))))
set_option maxHeartbeats 4000000 in
set_option maxRecDepth 100000 in
theorem J_ps_rule_87 (d : Nat) {q1 : Nat} (hq1 : pSH[q1]? = some (0, 5)) {Q : Int32 → pI → pR → Prop} {x4 : Int32} {x5 : Int32} {s1 : Int32} {E : pE} {B : pB} (g : pw_G m_ps_rule (d + 3) 0 0 E B) (hF : pX (qi Q) E B) {I : pI} {R : pR} (hL : pw_Lay R) (h : j_ps_rule_87 q1 Q x4 x5 s1 I R) : PX E B m_ps_rule.2.2.1 87 [some (.ref 108), some (.ref (q1 + 14)), none, none, some (.int x4), some (.int x5), none, none, none, none] [.int s1, .ref 108] I R := by
  unfold j_ps_rule_87 at h
  refine PX.cVv [.int s1] [] g rfl ck_ps (c_ps_need d  hL h) cl_ps_62 (by omega) (by decide) rfl rfl (Nat.le_of_ble_eq_true rfl) d_ps_rule_87 (fun I6 R6 hL h => ?_)
  refine PW.aload_n g rfl rfl d_ps_rule_90 ?_
  refine PW.bipush g (40) (by decide) d_ps_rule_91 ?_
  refine PX.cVv [.int (40 : Int32)] [] g rfl ck_ps (c_ps_need d  hL h) cl_ps_62 (by omega) (by decide) rfl rfl (Nat.le_of_ble_eq_true rfl) d_ps_rule_93 (fun I7 R7 hL h => ?_)
  refine PW.aload_n g rfl rfl d_ps_rule_96 ?_
  refine PW.bipush g (95) (by decide) d_ps_rule_97 ?_
  refine PX.cVz [.int (95 : Int32)] [] g rfl ck_ps (c_ps_take d  hL h) cl_ps_38 (by omega) (by decide) rfl rfl (Nat.le_of_ble_eq_true rfl) d_ps_rule_99 (fun v8 I8 R8 hL hzv8 h => ?_)
  refine PW.if_eq g 109 (by decide) d_ps_rule_102 (fun c4 => ?_) (fun c4 => ?_)
  · have h := h.1 c4
    refine PW.aload_n g rfl rfl d_ps_rule_109 ?_
    refine PW.bipush g (33) (by decide) d_ps_rule_110 ?_
    refine PX.cVz [.int (33 : Int32)] [] g rfl ck_ps (c_ps_take d  hL h) cl_ps_38 (by omega) (by decide) rfl rfl (Nat.le_of_ble_eq_true rfl) d_ps_rule_112 (fun v9 I9 R9 hL hzv9 h => ?_)
    refine PW.if_eq g 122 (by decide) d_ps_rule_115 (fun c5 => ?_) (fun c5 => ?_)
    · have h := h.1 c5
      refine PW.iconst g (1) (by decide) d_ps_rule_122 ?_
      refine PX.sub [some (.ref 108), some (.ref (q1 + 14)), none, none, some (.int x4), some (.int x5), none, none, none, none] ⟨rfl, ⟨rfl, ⟨rfl, ⟨rfl, trivial⟩⟩⟩⟩ ?_
      exact J_ps_rule_123 d hq1 g hF hL h
    · have h := h.2 c5
      refine PW.iconst g (2) (by decide) d_ps_rule_118 ?_
      refine PW.goto g 123 (by decide) d_ps_rule_119 ?_
      refine PX.sub [some (.ref 108), some (.ref (q1 + 14)), none, none, some (.int x4), some (.int x5), none, none, none, none] ⟨rfl, ⟨rfl, ⟨rfl, ⟨rfl, trivial⟩⟩⟩⟩ ?_
      exact J_ps_rule_123 d hq1 g hF hL h
  · have h := h.2 c4
    refine PW.iconst g (0) (by decide) d_ps_rule_105 ?_
    refine PW.goto g 123 (by decide) d_ps_rule_106 ?_
    refine PX.sub [some (.ref 108), some (.ref (q1 + 14)), none, none, some (.int x4), some (.int x5), none, none, none, none] ⟨rfl, ⟨rfl, ⟨rfl, ⟨rfl, trivial⟩⟩⟩⟩ ?_
    exact J_ps_rule_123 d hq1 g hF hL h
def j_ps_rule_71 (q1 : Nat) (Q : Int32 → pI → pR → Prop) (x4 : Int32) (s0 : Int32) (I : pI) (R : pR) : Prop := ((¬ s0 = (1 : Int32) → (j_ps_rule_87 q1 Q x4 s0 (77 : Int32) I R)) ∧ (s0 = (1 : Int32) → (j_ps_rule_87 q1 Q x4 s0 (78 : Int32) I R)))
set_option maxHeartbeats 4000000 in
set_option maxRecDepth 100000 in
theorem J_ps_rule_71 (d : Nat) {q1 : Nat} (hq1 : pSH[q1]? = some (0, 5)) {Q : Int32 → pI → pR → Prop} {x4 : Int32} {s0 : Int32} {E : pE} {B : pB} (g : pw_G m_ps_rule (d + 3) 0 0 E B) (hF : pX (qi Q) E B) {I : pI} {R : pR} (hL : pw_Lay R) (h : j_ps_rule_71 q1 Q x4 s0 I R) : PX E B m_ps_rule.2.2.1 71 [some (.ref 108), some (.ref (q1 + 14)), none, none, some (.int x4), none, none, none, none, none] [.int s0] I R := by
  unfold j_ps_rule_71 at h
  refine PW.istore g (L' := [some (.ref 108), some (.ref (q1 + 14)), none, none, some (.int x4), some (.int s0), none, none, none, none]) (by decide) rfl rfl d_ps_rule_71 ?_
  refine PW.aload_n g rfl rfl d_ps_rule_73 ?_
  refine PW.iload g rfl d_ps_rule_74 ?_
  refine PW.iconst g (1) (by decide) d_ps_rule_76 ?_
  refine PW.icmp_ne g 85 (by decide) d_ps_rule_77 (fun c3 => ?_) (fun c3 => ?_)
  · have h := h.1 c3
    refine PW.bipush g (77) (by decide) d_ps_rule_85 ?_
    refine PX.sub [some (.ref 108), some (.ref (q1 + 14)), none, none, some (.int x4), some (.int s0), none, none, none, none] ⟨rfl, ⟨rfl, ⟨rfl, ⟨rfl, trivial⟩⟩⟩⟩ ?_
    exact J_ps_rule_87 d hq1 g hF hL h
  · have h := h.2 c3
    refine PW.bipush g (78) (by decide) d_ps_rule_80 ?_
    refine PW.goto g 87 (by decide) d_ps_rule_82 ?_
    refine PX.sub [some (.ref 108), some (.ref (q1 + 14)), none, none, some (.int x4), some (.int s0), none, none, none, none] ⟨rfl, ⟨rfl, ⟨rfl, ⟨rfl, trivial⟩⟩⟩⟩ ?_
    exact J_ps_rule_87 d hq1 g hF hL h
def j_ps_rule_43 (q1 : Nat) (Q : Int32 → pI → pR → Prop) (x2 : Int32) (x3 : Int32) (I : pI) (R : pR) : Prop := (w_rl_add (q1 + 14) x2 x3 I R (fun v3 I3 R3 => (w_ps_need (42 : Int32) I3 R3 (fun I4 R4 => (w_ps_next  I4 R4 (fun v5 I5 R5 => ((¬ v5 = (78 : Int32) → (j_ps_rule_71 q1 Q v3 (0 : Int32) I5 R5)) ∧ (v5 = (78 : Int32) → (j_ps_rule_71 q1 Q v3 (1 : Int32) I5 R5)))))))))
set_option maxHeartbeats 4000000 in
set_option maxRecDepth 100000 in
theorem J_ps_rule_43 (d : Nat) {q1 : Nat} (hq1 : pSH[q1]? = some (0, 5)) {Q : Int32 → pI → pR → Prop} {x2 : Int32} {x3 : Int32} {E : pE} {B : pB} (g : pw_G m_ps_rule (d + 3) 0 0 E B) (hF : pX (qi Q) E B) {I : pI} {R : pR} (hL : pw_Lay R) (h : j_ps_rule_43 q1 Q x2 x3 I R) : PX E B m_ps_rule.2.2.1 43 [some (.ref 108), some (.ref (q1 + 14)), some (.int x2), some (.int x3), none, none, none, none, none, none] [] I R := by
  unfold j_ps_rule_43 at h
  refine PW.aload_n g rfl rfl d_ps_rule_43 ?_
  refine PW.iload_n g rfl rfl d_ps_rule_44 ?_
  refine PW.iload_n g rfl rfl d_ps_rule_45 ?_
  refine PX.cVi [.int x2, .int x3] [] g (pw_shp hq1 3 (by decide)) ck_rl (c_rl_add d (pw_shp hq1 3 (by decide)) hL h) cl_ps_141 (by omega) (by decide) rfl rfl (Nat.le_of_ble_eq_true rfl) d_ps_rule_46 (fun v3 I3 R3 hL h => ?_)
  refine PW.istore g (L' := [some (.ref 108), some (.ref (q1 + 14)), some (.int x2), some (.int x3), some (.int v3), none, none, none, none, none]) (by decide) rfl rfl d_ps_rule_49 ?_
  refine PW.aload_n g rfl rfl d_ps_rule_51 ?_
  refine PW.bipush g (42) (by decide) d_ps_rule_52 ?_
  refine PX.cVv [.int (42 : Int32)] [] g rfl ck_ps (c_ps_need d  hL h) cl_ps_62 (by omega) (by decide) rfl rfl (Nat.le_of_ble_eq_true rfl) d_ps_rule_54 (fun I4 R4 hL h => ?_)
  refine PW.aload_n g rfl rfl d_ps_rule_57 ?_
  refine PX.cVi [] [] g rfl ck_ps (c_ps_next d  hL h) cl_ps_49 (by omega) (by decide) rfl rfl (Nat.le_of_ble_eq_true rfl) d_ps_rule_58 (fun v5 I5 R5 hL h => ?_)
  refine PW.bipush g (78) (by decide) d_ps_rule_61 ?_
  refine PW.icmp_ne g 70 (by decide) d_ps_rule_63 (fun c2 => ?_) (fun c2 => ?_)
  · have h := h.1 c2
    refine PW.iconst g (0) (by decide) d_ps_rule_70 ?_
    refine PX.sub [some (.ref 108), some (.ref (q1 + 14)), none, none, some (.int v3), none, none, none, none, none] ⟨rfl, ⟨rfl, ⟨rfl, trivial⟩⟩⟩ ?_
    exact J_ps_rule_71 d hq1 g hF hL h
  · have h := h.2 c2
    refine PW.iconst g (1) (by decide) d_ps_rule_66 ?_
    refine PW.goto g 71 (by decide) d_ps_rule_67 ?_
    refine PX.sub [some (.ref 108), some (.ref (q1 + 14)), none, none, some (.int v3), none, none, none, none, none] ⟨rfl, ⟨rfl, ⟨rfl, trivial⟩⟩⟩ ?_
    exact J_ps_rule_71 d hq1 g hF hL h
def j_ps_rule_42 (q1 : Nat) (Q : Int32 → pI → pR → Prop) (x2 : Int32) (s0 : Int32) (I : pI) (R : pR) : Prop := (j_ps_rule_43 q1 Q x2 s0 I R)
set_option maxHeartbeats 4000000 in
set_option maxRecDepth 100000 in
theorem J_ps_rule_42 (d : Nat) {q1 : Nat} (hq1 : pSH[q1]? = some (0, 5)) {Q : Int32 → pI → pR → Prop} {x2 : Int32} {s0 : Int32} {E : pE} {B : pB} (g : pw_G m_ps_rule (d + 3) 0 0 E B) (hF : pX (qi Q) E B) {I : pI} {R : pR} (hL : pw_Lay R) (h : j_ps_rule_42 q1 Q x2 s0 I R) : PX E B m_ps_rule.2.2.1 42 [some (.ref 108), some (.ref (q1 + 14)), some (.int x2), none, none, none, none, none, none, none] [.int s0] I R := by
  unfold j_ps_rule_42 at h
  refine PW.istore_n g rfl (L' := [some (.ref 108), some (.ref (q1 + 14)), some (.int x2), some (.int s0), none, none, none, none, none, none]) (by decide) rfl rfl d_ps_rule_42 ?_
  refine PX.sub [some (.ref 108), some (.ref (q1 + 14)), some (.int x2), some (.int s0), none, none, none, none, none, none] ⟨rfl, ⟨rfl, ⟨rfl, ⟨rfl, trivial⟩⟩⟩⟩ ?_
  exact J_ps_rule_43 d hq1 g hF hL h
def w_ps_rule (I : pI) (R : pR) (Q : Int32 → pI → pR → Prop) : Prop := (∃ q1, R 108 1 = some q1 ∧ pSH[q1]? = some (0, 5) ∧ (w_ps_number  I R (fun v1 I1 R1 => (w_ps_take (45 : Int32) I1 R1 (fun v2 I2 R2 => ((v2 = 0 → (j_ps_rule_43 q1 Q v1 v1 I2 R2)) ∧ (¬ v2 = 0 → (w_ps_take (95 : Int32) I2 R2 (fun v18 I21 R21 => ((v18 = 0 → (w_ps_number  I21 R21 (fun v19 I22 R22 => (j_ps_rule_42 q1 Q v1 v19 I22 R22)))) ∧ (¬ v18 = 0 → (j_ps_rule_42 q1 Q v1 (2147483647 : Int32) I21 R21))))))))))))
set_option maxHeartbeats 4000000 in
set_option maxRecDepth 100000 in
theorem c_ps_rule (d : Nat) {I : pI} {R : pR} {Q : Int32 → pI → pR → Prop} (hL : pw_Lay R) (h : w_ps_rule  I R Q) : Cm (d + 3) m_ps_rule [.ref 108] I R (qi Q) := by
  refine Cm.of [some (.ref 108), none, none, none, none, none, none, none, none, none] (by decide) rfl (Nat.le_of_ble_eq_true rfl) (by simp) (fun E B g hF => ?_)
  unfold w_ps_rule at h
  refine PW.aload_n g rfl rfl d_ps_rule_0 ?_
  obtain ⟨q1, eq1, hq1, h⟩ := h
  refine PW.getR (q := q1) g fi_ps_18 rfl eq1 d_ps_rule_1 ?_
  refine PW.getR (q := (q1 + 14)) g fi_ps_133 hq1 (hL q1 5 3 hq1 (by decide)) d_ps_rule_4 ?_
  refine PW.astore_n g rfl (L' := [some (.ref 108), some (.ref (q1 + 14)), none, none, none, none, none, none, none, none]) (by decide) rfl rfl d_ps_rule_7 ?_
  refine PW.aload_n g rfl rfl d_ps_rule_8 ?_
  refine PX.cVi [] [] g rfl ck_ps (c_ps_number d  hL h) cl_ps_137 (by omega) (by decide) rfl rfl (Nat.le_of_ble_eq_true rfl) d_ps_rule_9 (fun v1 I1 R1 hL h => ?_)
  refine PW.istore_n g rfl (L' := [some (.ref 108), some (.ref (q1 + 14)), some (.int v1), none, none, none, none, none, none, none]) (by decide) rfl rfl d_ps_rule_12 ?_
  refine PW.iload_n g rfl rfl d_ps_rule_13 ?_
  refine PW.istore_n g rfl (L' := [some (.ref 108), some (.ref (q1 + 14)), some (.int v1), some (.int v1), none, none, none, none, none, none]) (by decide) rfl rfl d_ps_rule_14 ?_
  refine PW.aload_n g rfl rfl d_ps_rule_15 ?_
  refine PW.bipush g (45) (by decide) d_ps_rule_16 ?_
  refine PX.cVz [.int (45 : Int32)] [] g rfl ck_ps (c_ps_take d  hL h) cl_ps_38 (by omega) (by decide) rfl rfl (Nat.le_of_ble_eq_true rfl) d_ps_rule_18 (fun v2 I2 R2 hL hzv2 h => ?_)
  refine PW.if_eq g 43 (by decide) d_ps_rule_21 (fun c1 => ?_) (fun c1 => ?_)
  · have h := h.1 c1
    refine PX.sub [some (.ref 108), some (.ref (q1 + 14)), some (.int v1), some (.int v1), none, none, none, none, none, none] ⟨rfl, ⟨rfl, ⟨rfl, ⟨rfl, trivial⟩⟩⟩⟩ ?_
    exact J_ps_rule_43 d hq1 g hF hL h
  · have h := h.2 c1
    refine PW.aload_n g rfl rfl d_ps_rule_24 ?_
    refine PW.bipush g (95) (by decide) d_ps_rule_25 ?_
    refine PX.cVz [.int (95 : Int32)] [] g rfl ck_ps (c_ps_take d  hL h) cl_ps_38 (by omega) (by decide) rfl rfl (Nat.le_of_ble_eq_true rfl) d_ps_rule_27 (fun v18 I21 R21 hL hzv18 h => ?_)
    refine PW.if_eq g 38 (by decide) d_ps_rule_30 (fun c10 => ?_) (fun c10 => ?_)
    · have h := h.1 c10
      refine PW.aload_n g rfl rfl d_ps_rule_38 ?_
      refine PX.cVi [] [] g rfl ck_ps (c_ps_number d  hL h) cl_ps_137 (by omega) (by decide) rfl rfl (Nat.le_of_ble_eq_true rfl) d_ps_rule_39 (fun v19 I22 R22 hL h => ?_)
      refine PX.sub [some (.ref 108), some (.ref (q1 + 14)), some (.int v1), none, none, none, none, none, none, none] ⟨rfl, ⟨rfl, ⟨rfl, trivial⟩⟩⟩ ?_
      exact J_ps_rule_42 d hq1 g hF hL h
    · have h := h.2 c10
      refine PW.ldc g (2147483647) (pw_gw 759 (by decide +kernel) (by decide +kernel)) d_ps_rule_33 ?_
      refine PW.goto g 42 (by decide) d_ps_rule_35 ?_
      refine PX.sub [some (.ref 108), some (.ref (q1 + 14)), some (.int v1), none, none, none, none, none, none, none] ⟨rfl, ⟨rfl, ⟨rfl, trivial⟩⟩⟩ ?_
      exact J_ps_rule_42 d hq1 g hF hL h
def w_ps_takeBar (I : pI) (R : pR) (Q : Int32 → pI → pR → Prop) : Prop := (w_ps_take (124 : Int32) I R (fun v1 I1 R1 => ((¬ v1 = 0 → Q (1 : Int32) I1 R1) ∧ (v1 = 0 → (w_ps_take (265 : Int32) I1 R1 (fun v2 I2 R2 => ((v2 = 0 → Q (0 : Int32) I2 R2) ∧ (¬ v2 = 0 → Q (1 : Int32) I2 R2))))))))
set_option maxHeartbeats 4000000 in
set_option maxRecDepth 100000 in
theorem c_ps_takeBar (d : Nat) {I : pI} {R : pR} {Q : Int32 → pI → pR → Prop} (hL : pw_Lay R) (h : w_ps_takeBar  I R Q) : Cm (d + 3) m_ps_takeBar [.ref 108] I R (qz Q) := by
  refine Cm.of [some (.ref 108)] (by decide) rfl (Nat.le_of_ble_eq_true rfl) (by simp) (fun E B g hF => ?_)
  unfold w_ps_takeBar at h
  refine PW.aload_n g rfl rfl d_ps_takeBar_0 ?_
  refine PW.bipush g (124) (by decide) d_ps_takeBar_1 ?_
  refine PX.cVz [.int (124 : Int32)] [] g rfl ck_ps (c_ps_take d  hL h) cl_ps_38 (by omega) (by decide) rfl rfl (Nat.le_of_ble_eq_true rfl) d_ps_takeBar_3 (fun v1 I1 R1 hL hzv1 h => ?_)
  refine PW.if_ne g 19 (by decide) d_ps_takeBar_6 (fun c1 => ?_) (fun c1 => ?_)
  · have h := h.1 c1
    refine PW.iconst g (1) (by decide) d_ps_takeBar_19 ?_
    refine PW.goto g 24 (by decide) d_ps_takeBar_20 ?_
    exact PX.zret g hF rfl (Or.inr rfl) d_ps_takeBar_24 hL h
  · have h := h.2 c1
    refine PW.aload_n g rfl rfl d_ps_takeBar_9 ?_
    refine PW.sipush g (265) (by decide) d_ps_takeBar_10 ?_
    refine PX.cVz [.int (265 : Int32)] [] g rfl ck_ps (c_ps_take d  hL h) cl_ps_38 (by omega) (by decide) rfl rfl (Nat.le_of_ble_eq_true rfl) d_ps_takeBar_13 (fun v2 I2 R2 hL hzv2 h => ?_)
    refine PW.if_eq g 23 (by decide) d_ps_takeBar_16 (fun c2 => ?_) (fun c2 => ?_)
    · have h := h.1 c2
      refine PW.iconst g (0) (by decide) d_ps_takeBar_23 ?_
      exact PX.zret g hF rfl (Or.inl rfl) d_ps_takeBar_24 hL h
    · have h := h.2 c2
      refine PW.iconst g (1) (by decide) d_ps_takeBar_19 ?_
      refine PW.goto g 24 (by decide) d_ps_takeBar_20 ?_
      exact PX.zret g hF rfl (Or.inr rfl) d_ps_takeBar_24 hL h
