def w_ps_take (a1 : Int32) (I : pI) (R : pR) (Q : Int32 → pI → pR → Prop) : Prop := (w_tk_kindAt (I 108 2) I R (fun v1 I1 R1 => ((v1 = a1 → (∀ I2, I2 = pw_wI I1 108 2 ((I1 108 2) + (1 : Int32)) → Q (1 : Int32) I2 R1)) ∧ (¬ v1 = a1 → Q (0 : Int32) I1 R1))))
set_option maxHeartbeats 4000000 in
set_option maxRecDepth 100000 in
theorem c_ps_take (d : Nat) {a1 : Int32} {I : pI} {R : pR} {Q : Int32 → pI → pR → Prop} (hL : pw_Lay R) (h : w_ps_take a1 I R Q) : Cm (d + 2) m_ps_take [.ref 108, .int a1] I R (qz Q) := by
  refine Cm.of [some (.ref 108), some (.int a1)] (by decide) rfl (Nat.le_of_ble_eq_true rfl) (by simp) (fun E B g hF => ?_)
  unfold w_ps_take at h
  refine PW.aload_n g rfl rfl d_ps_take_0 ?_
  refine PW.getR (q := 109) g fi_ps_12 rfl (hL 108 7 0 rfl (by decide)) d_ps_take_1 ?_
  refine PW.aload_n g rfl rfl d_ps_take_4 ?_
  refine PW.getI g fi_ps_31 rfl d_ps_take_5 ?_
  refine PX.cVi [.int (I 108 2)] [] g rfl ck_tk (c_tk_kindAt d  hL h) cl_ps_106 (by omega) (by decide) rfl rfl (Nat.le_of_ble_eq_true rfl) d_ps_take_8 (fun v1 I1 R1 hL h => ?_)
  refine PW.iload_n g rfl rfl d_ps_take_11 ?_
  refine PW.icmp_eq g 17 (by decide) d_ps_take_12 (fun c1 => ?_) (fun c1 => ?_)
  · have h := h.1 c1
    refine PW.aload_n g rfl rfl d_ps_take_17 ?_
    refine PW.dup g rfl d_ps_take_18 ?_
    refine PW.getI g fi_ps_31 rfl d_ps_take_19 ?_
    refine PW.iconst g (1) (by decide) d_ps_take_22 ?_
    refine PW.iadd g d_ps_take_23 ?_
    refine PW.putI g fi_ps_31 rfl rfl rfl d_ps_take_24 ?_
    refine PX.gI (fun I2 eI2 => ?_)
    have h := h _ eI2
    refine PW.iconst g (1) (by decide) d_ps_take_27 ?_
    exact PX.zret g hF rfl (Or.inr rfl) d_ps_take_28 hL h
  · have h := h.2 c1
    refine PW.iconst g (0) (by decide) d_ps_take_15 ?_
    exact PX.zret g hF rfl (Or.inl rfl) d_ps_take_16 hL h
def w_ps_fail (I : pI) (R : pR) (Q : pI → pR → Prop) : Prop := ((0 ≤ (I 108 3) → (∀ I1, I1 = pw_wI I 108 2 (I 109 4) → Q I1 R)) ∧ (¬ 0 ≤ (I 108 3) → (((I 108 2) < 0 → (∀ I2, I2 = pw_wI I 108 3 (I 109 5) → (∀ I3, I3 = pw_wI I2 108 2 (I2 109 4) → Q I3 R))) ∧ (¬ (I 108 2) < 0 → (((I 109 4) ≤ (I 108 2) → (∀ I4, I4 = pw_wI I 108 3 (I 109 5) → (∀ I5, I5 = pw_wI I4 108 2 (I4 109 4) → Q I5 R))) ∧ (¬ (I 109 4) ≤ (I 108 2) → (((120 : Int32) ≤ (I 108 2) → (∀ I6, I6 = pw_wI I 108 3 (I 109 5) → (∀ I7, I7 = pw_wI I6 108 2 (I6 109 4) → Q I7 R))) ∧ (¬ (120 : Int32) ≤ (I 108 2) → (vp_in (I 108 2) 120 ∧ (∀ I8, I8 = pw_wI I 108 3 (I 111 (I 108 2).toNatClampNeg) → (∀ I9, I9 = pw_wI I8 108 2 (I8 109 4) → Q I9 R)))))))))))
set_option maxHeartbeats 4000000 in
set_option maxRecDepth 100000 in
theorem c_ps_fail (d : Nat) {I : pI} {R : pR} {Q : pI → pR → Prop} (hL : pw_Lay R) (h : w_ps_fail  I R Q) : Cm (d + 1) m_ps_fail [.ref 108] I R (qv Q) := by
  refine Cm.of [some (.ref 108)] (by decide) rfl (Nat.le_of_ble_eq_true rfl) (by simp) (fun E B g hF => ?_)
  unfold w_ps_fail at h
  refine PW.aload_n g rfl rfl d_ps_fail_0 ?_
  refine PW.getI g fi_ps_35 rfl d_ps_fail_1 ?_
  refine PW.if_ge g 63 (by decide) d_ps_fail_4 (fun c1 => ?_) (fun c1 => ?_)
  · have h := h.1 c1
    refine PW.aload_n g rfl rfl d_ps_fail_63 ?_
    refine PW.aload_n g rfl rfl d_ps_fail_64 ?_
    refine PW.getR (q := 109) g fi_ps_12 rfl (hL 108 7 0 rfl (by decide)) d_ps_fail_65 ?_
    refine PW.getI g fi_ps_182 rfl d_ps_fail_68 ?_
    refine PW.putI g fi_ps_31 rfl rfl rfl d_ps_fail_71 ?_
    refine PX.gI (fun I1 eI1 => ?_)
    have h := h _ eI1
    exact PX.vret g hF rfl d_ps_fail_74 hL h
  · have h := h.2 c1
    refine PW.aload_n g rfl rfl d_ps_fail_7 ?_
    refine PW.aload_n g rfl rfl d_ps_fail_8 ?_
    refine PW.getI g fi_ps_31 rfl d_ps_fail_9 ?_
    refine PW.if_lt g 53 (by decide) d_ps_fail_12 (fun c2 => ?_) (fun c2 => ?_)
    · have h := h.1 c2
      refine PW.aload_n g rfl rfl d_ps_fail_53 ?_
      refine PW.getR (q := 109) g fi_ps_12 rfl (hL 108 7 0 rfl (by decide)) d_ps_fail_54 ?_
      refine PW.getI g fi_ps_186 rfl d_ps_fail_57 ?_
      refine PW.putI g fi_ps_35 rfl rfl rfl d_ps_fail_60 ?_
      refine PX.gI (fun I2 eI2 => ?_)
      have h := h _ eI2
      refine PW.aload_n g rfl rfl d_ps_fail_63 ?_
      refine PW.aload_n g rfl rfl d_ps_fail_64 ?_
      refine PW.getR (q := 109) g fi_ps_12 rfl (hL 108 7 0 rfl (by decide)) d_ps_fail_65 ?_
      refine PW.getI g fi_ps_182 rfl d_ps_fail_68 ?_
      refine PW.putI g fi_ps_31 rfl rfl rfl d_ps_fail_71 ?_
      refine PX.gI (fun I3 eI3 => ?_)
      have h := h _ eI3
      exact PX.vret g hF rfl d_ps_fail_74 hL h
    · have h := h.2 c2
      refine PW.aload_n g rfl rfl d_ps_fail_15 ?_
      refine PW.getI g fi_ps_31 rfl d_ps_fail_16 ?_
      refine PW.aload_n g rfl rfl d_ps_fail_19 ?_
      refine PW.getR (q := 109) g fi_ps_12 rfl (hL 108 7 0 rfl (by decide)) d_ps_fail_20 ?_
      refine PW.getI g fi_ps_182 rfl d_ps_fail_23 ?_
      refine PW.icmp_ge g 53 (by decide) d_ps_fail_26 (fun c3 => ?_) (fun c3 => ?_)
      · have h := h.1 c3
        refine PW.aload_n g rfl rfl d_ps_fail_53 ?_
        refine PW.getR (q := 109) g fi_ps_12 rfl (hL 108 7 0 rfl (by decide)) d_ps_fail_54 ?_
        refine PW.getI g fi_ps_186 rfl d_ps_fail_57 ?_
        refine PW.putI g fi_ps_35 rfl rfl rfl d_ps_fail_60 ?_
        refine PX.gI (fun I4 eI4 => ?_)
        have h := h _ eI4
        refine PW.aload_n g rfl rfl d_ps_fail_63 ?_
        refine PW.aload_n g rfl rfl d_ps_fail_64 ?_
        refine PW.getR (q := 109) g fi_ps_12 rfl (hL 108 7 0 rfl (by decide)) d_ps_fail_65 ?_
        refine PW.getI g fi_ps_182 rfl d_ps_fail_68 ?_
        refine PW.putI g fi_ps_31 rfl rfl rfl d_ps_fail_71 ?_
        refine PX.gI (fun I5 eI5 => ?_)
        have h := h _ eI5
        exact PX.vret g hF rfl d_ps_fail_74 hL h
      · have h := h.2 c3
        refine PW.aload_n g rfl rfl d_ps_fail_29 ?_
        refine PW.getI g fi_ps_31 rfl d_ps_fail_30 ?_
        refine PW.bipush g (120) (by decide) d_ps_fail_33 ?_
        refine PW.icmp_ge g 53 (by decide) d_ps_fail_35 (fun c4 => ?_) (fun c4 => ?_)
        · have h := h.1 c4
          refine PW.aload_n g rfl rfl d_ps_fail_53 ?_
          refine PW.getR (q := 109) g fi_ps_12 rfl (hL 108 7 0 rfl (by decide)) d_ps_fail_54 ?_
          refine PW.getI g fi_ps_186 rfl d_ps_fail_57 ?_
          refine PW.putI g fi_ps_35 rfl rfl rfl d_ps_fail_60 ?_
          refine PX.gI (fun I6 eI6 => ?_)
          have h := h _ eI6
          refine PW.aload_n g rfl rfl d_ps_fail_63 ?_
          refine PW.aload_n g rfl rfl d_ps_fail_64 ?_
          refine PW.getR (q := 109) g fi_ps_12 rfl (hL 108 7 0 rfl (by decide)) d_ps_fail_65 ?_
          refine PW.getI g fi_ps_182 rfl d_ps_fail_68 ?_
          refine PW.putI g fi_ps_31 rfl rfl rfl d_ps_fail_71 ?_
          refine PX.gI (fun I7 eI7 => ?_)
          have h := h _ eI7
          exact PX.vret g hF rfl d_ps_fail_74 hL h
        · have h := h.2 c4
          refine PW.aload_n g rfl rfl d_ps_fail_38 ?_
          refine PW.getR (q := 109) g fi_ps_12 rfl (hL 108 7 0 rfl (by decide)) d_ps_fail_39 ?_
          refine PW.getR (q := 111) g fi_ps_183 rfl (hL 109 11 1 rfl (by decide)) d_ps_fail_42 ?_
          refine PW.aload_n g rfl rfl d_ps_fail_45 ?_
          refine PW.getI g fi_ps_31 rfl d_ps_fail_46 ?_
          refine PW.iald g rfl h.1 d_ps_fail_49 ?_
          have h := h.2
          refine PW.goto g 60 (by decide) d_ps_fail_50 ?_
          refine PW.putI g fi_ps_35 rfl rfl rfl d_ps_fail_60 ?_
          refine PX.gI (fun I8 eI8 => ?_)
          have h := h _ eI8
          refine PW.aload_n g rfl rfl d_ps_fail_63 ?_
          refine PW.aload_n g rfl rfl d_ps_fail_64 ?_
          refine PW.getR (q := 109) g fi_ps_12 rfl (hL 108 7 0 rfl (by decide)) d_ps_fail_65 ?_
          refine PW.getI g fi_ps_182 rfl d_ps_fail_68 ?_
          refine PW.putI g fi_ps_31 rfl rfl rfl d_ps_fail_71 ?_
          refine PX.gI (fun I9 eI9 => ?_)
          have h := h _ eI9
          exact PX.vret g hF rfl d_ps_fail_74 hL h
def w_ps_need (a1 : Int32) (I : pI) (R : pR) (Q : pI → pR → Prop) : Prop := (w_tk_kindAt (I 108 2) I R (fun v1 I1 R1 => ((v1 = a1 → (∀ I2, I2 = pw_wI I1 108 2 ((I1 108 2) + (1 : Int32)) → Q I2 R1)) ∧ (¬ v1 = a1 → (w_ps_fail  I1 R1 (fun I3 R2 => Q I3 R2))))))
set_option maxHeartbeats 4000000 in
set_option maxRecDepth 100000 in
theorem c_ps_need (d : Nat) {a1 : Int32} {I : pI} {R : pR} {Q : pI → pR → Prop} (hL : pw_Lay R) (h : w_ps_need a1 I R Q) : Cm (d + 2) m_ps_need [.ref 108, .int a1] I R (qv Q) := by
  refine Cm.of [some (.ref 108), some (.int a1)] (by decide) rfl (Nat.le_of_ble_eq_true rfl) (by simp) (fun E B g hF => ?_)
  unfold w_ps_need at h
  refine PW.aload_n g rfl rfl d_ps_need_0 ?_
  refine PW.getR (q := 109) g fi_ps_12 rfl (hL 108 7 0 rfl (by decide)) d_ps_need_1 ?_
  refine PW.aload_n g rfl rfl d_ps_need_4 ?_
  refine PW.getI g fi_ps_31 rfl d_ps_need_5 ?_
  refine PX.cVi [.int (I 108 2)] [] g rfl ck_tk (c_tk_kindAt d  hL h) cl_ps_106 (by omega) (by decide) rfl rfl (Nat.le_of_ble_eq_true rfl) d_ps_need_8 (fun v1 I1 R1 hL h => ?_)
  refine PW.iload_n g rfl rfl d_ps_need_11 ?_
  refine PW.icmp_eq g 22 (by decide) d_ps_need_12 (fun c1 => ?_) (fun c1 => ?_)
  · have h := h.1 c1
    refine PW.aload_n g rfl rfl d_ps_need_22 ?_
    refine PW.dup g rfl d_ps_need_23 ?_
    refine PW.getI g fi_ps_31 rfl d_ps_need_24 ?_
    refine PW.iconst g (1) (by decide) d_ps_need_27 ?_
    refine PW.iadd g d_ps_need_28 ?_
    refine PW.putI g fi_ps_31 rfl rfl rfl d_ps_need_29 ?_
    refine PX.gI (fun I2 eI2 => ?_)
    have h := h _ eI2
    exact PX.vret g hF rfl d_ps_need_32 hL h
  · have h := h.2 c1
    refine PW.aload_n g rfl rfl d_ps_need_15 ?_
    refine PX.cVv [] [] g rfl ck_ps (c_ps_fail d  hL h) cl_ps_56 (by omega) (by decide) rfl rfl (Nat.le_of_ble_eq_true rfl) d_ps_need_16 (fun I3 R2 hL h => ?_)
    refine PW.goto g 32 (by decide) d_ps_need_19 ?_
    exact PX.vret g hF rfl d_ps_need_32 hL h
def w_ps_next (I : pI) (R : pR) (Q : Int32 → pI → pR → Prop) : Prop := (w_tk_kindAt (I 108 2) I R (fun v1 I1 R1 => Q v1 I1 R1))
set_option maxHeartbeats 4000000 in
set_option maxRecDepth 100000 in
theorem c_ps_next (d : Nat) {I : pI} {R : pR} {Q : Int32 → pI → pR → Prop} (hL : pw_Lay R) (h : w_ps_next  I R Q) : Cm (d + 2) m_ps_next [.ref 108] I R (qi Q) := by
  refine Cm.of [some (.ref 108)] (by decide) rfl (Nat.le_of_ble_eq_true rfl) (by simp) (fun E B g hF => ?_)
  unfold w_ps_next at h
  refine PW.aload_n g rfl rfl d_ps_next_0 ?_
  refine PW.getR (q := 109) g fi_ps_12 rfl (hL 108 7 0 rfl (by decide)) d_ps_next_1 ?_
  refine PW.aload_n g rfl rfl d_ps_next_4 ?_
  refine PW.getI g fi_ps_31 rfl d_ps_next_5 ?_
  refine PX.cVi [.int (I 108 2)] [] g rfl ck_tk (c_tk_kindAt d  hL h) cl_ps_106 (by omega) (by decide) rfl rfl (Nat.le_of_ble_eq_true rfl) d_ps_next_8 (fun v1 I1 R1 hL h => ?_)
  exact PX.iret g hF rfl d_ps_next_11 hL h
def j_ps_ruleIsNext_80 (Q : Int32 → pI → pR → Prop) (x1 : Int32) (I : pI) (R : pR) : Prop := (w_tk_kindAt (x1 + (1 : Int32)) I R (fun v3 I3 R3 => (w_tk_kindAt x1 I3 R3 (fun v4 I4 R4 => ((¬ v4 = (42 : Int32) → Q (0 : Int32) I4 R4) ∧ (v4 = (42 : Int32) → ((v3 = (77 : Int32) → Q (1 : Int32) I4 R4) ∧ (¬ v3 = (77 : Int32) → ((¬ v3 = (78 : Int32) → Q (0 : Int32) I4 R4) ∧ (v3 = (78 : Int32) → Q (1 : Int32) I4 R4))))))))))
set_option maxHeartbeats 4000000 in
set_option maxRecDepth 100000 in
theorem J_ps_ruleIsNext_80 (d : Nat) {Q : Int32 → pI → pR → Prop} {x1 : Int32} {E : pE} {B : pB} (g : pw_G m_ps_ruleIsNext (d + 3) 0 0 E B) (hF : pX (qz Q) E B) {I : pI} {R : pR} (hL : pw_Lay R) (h : j_ps_ruleIsNext_80  Q x1 I R) : PX E B m_ps_ruleIsNext.2.2.1 80 [some (.ref 108), some (.int x1), none] [] I R := by
  unfold j_ps_ruleIsNext_80 at h
  refine PW.aload_n g rfl rfl d_ps_ruleIsNext_80 ?_
  refine PW.getR (q := 109) g fi_ps_12 rfl (hL 108 7 0 rfl (by decide)) d_ps_ruleIsNext_81 ?_
  refine PW.iload_n g rfl rfl d_ps_ruleIsNext_84 ?_
  refine PW.iconst g (1) (by decide) d_ps_ruleIsNext_85 ?_
  refine PW.iadd g d_ps_ruleIsNext_86 ?_
  refine PX.cVi [.int (x1 + (1 : Int32))] [] g rfl ck_tk (c_tk_kindAt d  hL h) cl_ps_106 (by omega) (by decide) rfl rfl (Nat.le_of_ble_eq_true rfl) d_ps_ruleIsNext_87 (fun v3 I3 R3 hL h => ?_)
  refine PW.istore_n g rfl (L' := [some (.ref 108), some (.int x1), some (.int v3)]) (by decide) rfl rfl d_ps_ruleIsNext_90 ?_
  refine PW.aload_n g rfl rfl d_ps_ruleIsNext_91 ?_
  refine PW.getR (q := 109) g fi_ps_12 rfl (hL 108 7 0 rfl (by decide)) d_ps_ruleIsNext_92 ?_
  refine PW.iload_n g rfl rfl d_ps_ruleIsNext_95 ?_
  refine PX.cVi [.int x1] [] g rfl ck_tk (c_tk_kindAt d  hL h) cl_ps_106 (by omega) (by decide) rfl rfl (Nat.le_of_ble_eq_true rfl) d_ps_ruleIsNext_96 (fun v4 I4 R4 hL h => ?_)
  refine PW.bipush g (42) (by decide) d_ps_ruleIsNext_99 ?_
  refine PW.icmp_ne g 120 (by decide) d_ps_ruleIsNext_101 (fun c3 => ?_) (fun c3 => ?_)
  · have h := h.1 c3
    refine PW.iconst g (0) (by decide) d_ps_ruleIsNext_120 ?_
    exact PX.zret g hF rfl (Or.inl rfl) d_ps_ruleIsNext_121 hL h
  · have h := h.2 c3
    refine PW.iload_n g rfl rfl d_ps_ruleIsNext_104 ?_
    refine PW.bipush g (77) (by decide) d_ps_ruleIsNext_105 ?_
    refine PW.icmp_eq g 116 (by decide) d_ps_ruleIsNext_107 (fun c4 => ?_) (fun c4 => ?_)
    · have h := h.1 c4
      refine PW.iconst g (1) (by decide) d_ps_ruleIsNext_116 ?_
      refine PW.goto g 121 (by decide) d_ps_ruleIsNext_117 ?_
      exact PX.zret g hF rfl (Or.inr rfl) d_ps_ruleIsNext_121 hL h
    · have h := h.2 c4
      refine PW.iload_n g rfl rfl d_ps_ruleIsNext_110 ?_
      refine PW.bipush g (78) (by decide) d_ps_ruleIsNext_111 ?_
      refine PW.icmp_ne g 120 (by decide) d_ps_ruleIsNext_113 (fun c5 => ?_) (fun c5 => ?_)
      · have h := h.1 c5
        refine PW.iconst g (0) (by decide) d_ps_ruleIsNext_120 ?_
        exact PX.zret g hF rfl (Or.inl rfl) d_ps_ruleIsNext_121 hL h
      · have h := h.2 c5
        refine PW.iconst g (1) (by decide) d_ps_ruleIsNext_116 ?_
        refine PW.goto g 121 (by decide) d_ps_ruleIsNext_117 ?_
        exact PX.zret g hF rfl (Or.inr rfl) d_ps_ruleIsNext_121 hL h
def w_ps_ruleIsNext (I : pI) (R : pR) (Q : Int32 → pI → pR → Prop) : Prop := (w_ps_next  I R (fun v1 I1 R1 => ((v1 = (258 : Int32) → (w_tk_kindAt ((I1 108 2) + (1 : Int32)) I1 R1 (fun v2 I2 R2 => ((¬ v2 = (45 : Int32) → (j_ps_ruleIsNext_80 Q ((I1 108 2) + (1 : Int32)) I2 R2)) ∧ (v2 = (45 : Int32) → (w_tk_kindAt ((I2 108 2) + (2 : Int32)) I2 R2 (fun v5 I5 R5 => ((¬ v5 = (95 : Int32) → (w_tk_kindAt ((I5 108 2) + (2 : Int32)) I5 R5 (fun v6 I6 R6 => ((v6 = (258 : Int32) → (j_ps_ruleIsNext_80 Q ((I6 108 2) + (3 : Int32)) I6 R6)) ∧ (¬ v6 = (258 : Int32) → Q (0 : Int32) I6 R6))))) ∧ (v5 = (95 : Int32) → Q (1 : Int32) I5 R5))))))))) ∧ (¬ v1 = (258 : Int32) → Q (0 : Int32) I1 R1))))
set_option maxHeartbeats 4000000 in
set_option maxRecDepth 100000 in
theorem c_ps_ruleIsNext (d : Nat) {I : pI} {R : pR} {Q : Int32 → pI → pR → Prop} (hL : pw_Lay R) (h : w_ps_ruleIsNext  I R Q) : Cm (d + 3) m_ps_ruleIsNext [.ref 108] I R (qz Q) := by
  refine Cm.of [some (.ref 108), none, none] (by decide) rfl (Nat.le_of_ble_eq_true rfl) (by simp) (fun E B g hF => ?_)
  unfold w_ps_ruleIsNext at h
  refine PW.aload_n g rfl rfl d_ps_ruleIsNext_0 ?_
  refine PX.cVi [] [] g rfl ck_ps (c_ps_next d  hL h) cl_ps_49 (by omega) (by decide) rfl rfl (Nat.le_of_ble_eq_true rfl) d_ps_ruleIsNext_1 (fun v1 I1 R1 hL h => ?_)
  refine PW.sipush g (258) (by decide) d_ps_ruleIsNext_4 ?_
  refine PW.icmp_eq g 12 (by decide) d_ps_ruleIsNext_7 (fun c1 => ?_) (fun c1 => ?_)
  · have h := h.1 c1
    refine PW.aload_n g rfl rfl d_ps_ruleIsNext_12 ?_
    refine PW.getI g fi_ps_31 rfl d_ps_ruleIsNext_13 ?_
    refine PW.iconst g (1) (by decide) d_ps_ruleIsNext_16 ?_
    refine PW.iadd g d_ps_ruleIsNext_17 ?_
    refine PW.istore_n g rfl (L' := [some (.ref 108), some (.int ((I1 108 2) + (1 : Int32))), none]) (by decide) rfl rfl d_ps_ruleIsNext_18 ?_
    refine PW.aload_n g rfl rfl d_ps_ruleIsNext_19 ?_
    refine PW.getR (q := 109) g fi_ps_12 rfl (hL 108 7 0 rfl (by decide)) d_ps_ruleIsNext_20 ?_
    refine PW.iload_n g rfl rfl d_ps_ruleIsNext_23 ?_
    refine PX.cVi [.int ((I1 108 2) + (1 : Int32))] [] g rfl ck_tk (c_tk_kindAt d  hL h) cl_ps_106 (by omega) (by decide) rfl rfl (Nat.le_of_ble_eq_true rfl) d_ps_ruleIsNext_24 (fun v2 I2 R2 hL h => ?_)
    refine PW.bipush g (45) (by decide) d_ps_ruleIsNext_27 ?_
    refine PW.icmp_ne g 80 (by decide) d_ps_ruleIsNext_29 (fun c2 => ?_) (fun c2 => ?_)
    · have h := h.1 c2
      refine PX.sub [some (.ref 108), some (.int ((I1 108 2) + (1 : Int32))), none] ⟨rfl, ⟨rfl, trivial⟩⟩ ?_
      exact J_ps_ruleIsNext_80 d g hF hL h
    · have h := h.2 c2
      refine PW.aload_n g rfl rfl d_ps_ruleIsNext_32 ?_
      refine PW.getR (q := 109) g fi_ps_12 rfl (hL 108 7 0 rfl (by decide)) d_ps_ruleIsNext_33 ?_
      refine PW.aload_n g rfl rfl d_ps_ruleIsNext_36 ?_
      refine PW.getI g fi_ps_31 rfl d_ps_ruleIsNext_37 ?_
      refine PW.iconst g (2) (by decide) d_ps_ruleIsNext_40 ?_
      refine PW.iadd g d_ps_ruleIsNext_41 ?_
      refine PX.cVi [.int ((I2 108 2) + (2 : Int32))] [] g rfl ck_tk (c_tk_kindAt d  hL h) cl_ps_106 (by omega) (by decide) rfl rfl (Nat.le_of_ble_eq_true rfl) d_ps_ruleIsNext_42 (fun v5 I5 R5 hL h => ?_)
      refine PW.bipush g (95) (by decide) d_ps_ruleIsNext_45 ?_
      refine PW.icmp_ne g 52 (by decide) d_ps_ruleIsNext_47 (fun c6 => ?_) (fun c6 => ?_)
      · have h := h.1 c6
        refine PW.aload_n g rfl rfl d_ps_ruleIsNext_52 ?_
        refine PW.getR (q := 109) g fi_ps_12 rfl (hL 108 7 0 rfl (by decide)) d_ps_ruleIsNext_53 ?_
        refine PW.aload_n g rfl rfl d_ps_ruleIsNext_56 ?_
        refine PW.getI g fi_ps_31 rfl d_ps_ruleIsNext_57 ?_
        refine PW.iconst g (2) (by decide) d_ps_ruleIsNext_60 ?_
        refine PW.iadd g d_ps_ruleIsNext_61 ?_
        refine PX.cVi [.int ((I5 108 2) + (2 : Int32))] [] g rfl ck_tk (c_tk_kindAt d  hL h) cl_ps_106 (by omega) (by decide) rfl rfl (Nat.le_of_ble_eq_true rfl) d_ps_ruleIsNext_62 (fun v6 I6 R6 hL h => ?_)
        refine PW.sipush g (258) (by decide) d_ps_ruleIsNext_65 ?_
        refine PW.icmp_eq g 73 (by decide) d_ps_ruleIsNext_68 (fun c7 => ?_) (fun c7 => ?_)
        · have h := h.1 c7
          refine PW.aload_n g rfl rfl d_ps_ruleIsNext_73 ?_
          refine PW.getI g fi_ps_31 rfl d_ps_ruleIsNext_74 ?_
          refine PW.iconst g (3) (by decide) d_ps_ruleIsNext_77 ?_
          refine PW.iadd g d_ps_ruleIsNext_78 ?_
          refine PW.istore_n g rfl (L' := [some (.ref 108), some (.int ((I6 108 2) + (3 : Int32))), none]) (by decide) rfl rfl d_ps_ruleIsNext_79 ?_
          refine PX.sub [some (.ref 108), some (.int ((I6 108 2) + (3 : Int32))), none] ⟨rfl, ⟨rfl, trivial⟩⟩ ?_
          exact J_ps_ruleIsNext_80 d g hF hL h
        · have h := h.2 c7
          refine PW.iconst g (0) (by decide) d_ps_ruleIsNext_71 ?_
          exact PX.zret g hF rfl (Or.inl rfl) d_ps_ruleIsNext_72 hL h
      · have h := h.2 c6
        refine PW.iconst g (1) (by decide) d_ps_ruleIsNext_50 ?_
        exact PX.zret g hF rfl (Or.inr rfl) d_ps_ruleIsNext_51 hL h
  · have h := h.2 c1
    refine PW.iconst g (0) (by decide) d_ps_ruleIsNext_10 ?_
    exact PX.zret g hF rfl (Or.inl rfl) d_ps_ruleIsNext_11 hL h
def w_ps_number (I : pI) (R : pR) (Q : Int32 → pI → pR → Prop) : Prop := (w_tk_kindAt (I 108 2) I R (fun v1 I1 R1 => ((v1 = (258 : Int32) → (∀ I2, I2 = pw_wI I1 108 2 ((I1 108 2) + (1 : Int32)) → (w_tk_numberOf ((I2 108 2) - (1 : Int32)) I2 R1 (fun v2 I3 R2 => Q v2 I3 R2)))) ∧ (¬ v1 = (258 : Int32) → (w_ps_fail  I1 R1 (fun I4 R3 => Q (0 : Int32) I4 R3))))))
set_option maxHeartbeats 4000000 in
set_option maxRecDepth 100000 in
theorem c_ps_number (d : Nat) {I : pI} {R : pR} {Q : Int32 → pI → pR → Prop} (hL : pw_Lay R) (h : w_ps_number  I R Q) : Cm (d + 2) m_ps_number [.ref 108] I R (qi Q) := by
  refine Cm.of [some (.ref 108)] (by decide) rfl (Nat.le_of_ble_eq_true rfl) (by simp) (fun E B g hF => ?_)
  unfold w_ps_number at h
  refine PW.aload_n g rfl rfl d_ps_number_0 ?_
  refine PW.getR (q := 109) g fi_ps_12 rfl (hL 108 7 0 rfl (by decide)) d_ps_number_1 ?_
  refine PW.aload_n g rfl rfl d_ps_number_4 ?_
  refine PW.getI g fi_ps_31 rfl d_ps_number_5 ?_
  refine PX.cVi [.int (I 108 2)] [] g rfl ck_tk (c_tk_kindAt d  hL h) cl_ps_106 (by omega) (by decide) rfl rfl (Nat.le_of_ble_eq_true rfl) d_ps_number_8 (fun v1 I1 R1 hL h => ?_)
  refine PW.sipush g (258) (by decide) d_ps_number_11 ?_
  refine PW.icmp_eq g 23 (by decide) d_ps_number_14 (fun c1 => ?_) (fun c1 => ?_)
  · have h := h.1 c1
    refine PW.aload_n g rfl rfl d_ps_number_23 ?_
    refine PW.dup g rfl d_ps_number_24 ?_
    refine PW.getI g fi_ps_31 rfl d_ps_number_25 ?_
    refine PW.iconst g (1) (by decide) d_ps_number_28 ?_
    refine PW.iadd g d_ps_number_29 ?_
    refine PW.putI g fi_ps_31 rfl rfl rfl d_ps_number_30 ?_
    refine PX.gI (fun I2 eI2 => ?_)
    have h := h _ eI2
    refine PW.aload_n g rfl rfl d_ps_number_33 ?_
    refine PW.getR (q := 109) g fi_ps_12 rfl (hL 108 7 0 rfl (by decide)) d_ps_number_34 ?_
    refine PW.aload_n g rfl rfl d_ps_number_37 ?_
    refine PW.getI g fi_ps_31 rfl d_ps_number_38 ?_
    refine PW.iconst g (1) (by decide) d_ps_number_41 ?_
    refine PW.isub g d_ps_number_42 ?_
    refine PX.cVi [.int ((I2 108 2) - (1 : Int32))] [] g rfl ck_tk (c_tk_numberOf d  hL h) cl_ps_119 (by omega) (by decide) rfl rfl (Nat.le_of_ble_eq_true rfl) d_ps_number_43 (fun v2 I3 R2 hL h => ?_)
    exact PX.iret g hF rfl d_ps_number_46 hL h
  · have h := h.2 c1
    refine PW.aload_n g rfl rfl d_ps_number_17 ?_
    refine PX.cVv [] [] g rfl ck_ps (c_ps_fail d  hL h) cl_ps_56 (by omega) (by decide) rfl rfl (Nat.le_of_ble_eq_true rfl) d_ps_number_18 (fun I4 R3 hL h => ?_)
    refine PW.iconst g (0) (by decide) d_ps_number_21 ?_
    exact PX.iret g hF rfl d_ps_number_22 hL h
def j_ps_rule_192 (q1 : Nat) (K166 : Int32 → Int32 → pI → pR → Prop) (Q : Int32 → pI → pR → Prop) (f4 : Int32) (x8 : Int32) (s0 : Int32) (I : pI) (R : pR) : Prop := (w_ps_number  I R (fun v15 I15 R15 => (w_rl_addAnswer (q1 + 14) f4 (s0 * v15) I15 R15 (fun I16 R16 => (w_ps_take (44 : Int32) I16 R16 (fun v17 I17 R17 => K166 v17 (x8 + 1) I17 R17))))))
set_option maxHeartbeats 4000000 in
set_option maxRecDepth 100000 in
theorem J_ps_rule_192 (d : Nat) {q1 : Nat} (hq1 : pSH[q1]? = some (0, 5)) {K166 : Int32 → Int32 → pI → pR → Prop} {Q : Int32 → pI → pR → Prop} {f4 : Int32} {x8 : Int32} {s0 : Int32} {E : pE} {B : pB} (g : pw_G m_ps_rule (d + 3) 0 0 E B) (hF : pX (qi Q) E B) (hK166 : ∀ (y7 : Int32) (y8 : Int32) (I : pI) (R : pR), pw_Lay R → K166 y7 y8 I R → PX E B m_ps_rule.2.2.1 166 [some (.ref 108), some (.ref (q1 + 14)), none, none, some (.int f4), none, none, some (.int y7), some (.int y8), none] [] I R) {I : pI} {R : pR} (hL : pw_Lay R) (h : j_ps_rule_192 q1 K166 Q f4 x8 s0 I R) : PX E B m_ps_rule.2.2.1 192 [some (.ref 108), some (.ref (q1 + 14)), none, none, some (.int f4), none, none, none, some (.int x8), none] [.int s0] I R := by
  unfold j_ps_rule_192 at h
  refine PW.istore g (L' := [some (.ref 108), some (.ref (q1 + 14)), none, none, some (.int f4), none, none, none, some (.int x8), some (.int s0)]) (by decide) rfl rfl d_ps_rule_192 ?_
  refine PW.aload_n g rfl rfl d_ps_rule_194 ?_
  refine PW.iload g rfl d_ps_rule_195 ?_
  refine PW.iload g rfl d_ps_rule_197 ?_
  refine PW.aload_n g rfl rfl d_ps_rule_199 ?_
  refine PX.cVi [] [.int s0, .int f4, .ref (q1 + 14)] g rfl ck_ps (c_ps_number d  hL h) cl_ps_137 (by omega) (by decide) rfl rfl (Nat.le_of_ble_eq_true rfl) d_ps_rule_200 (fun v15 I15 R15 hL h => ?_)
  refine PW.imul g d_ps_rule_203 ?_
  refine PX.cVv [.int f4, .int (s0 * v15)] [] g (pw_shp hq1 3 (by decide)) ck_rl (c_rl_addAnswer d (pw_shp hq1 3 (by decide)) hL h) cl_ps_151 (by omega) (by decide) rfl rfl (Nat.le_of_ble_eq_true rfl) d_ps_rule_204 (fun I16 R16 hL h => ?_)
  refine PW.aload_n g rfl rfl d_ps_rule_207 ?_
  refine PW.bipush g (44) (by decide) d_ps_rule_208 ?_
  refine PX.cVz [.int (44 : Int32)] [] g rfl ck_ps (c_ps_take d  hL h) cl_ps_38 (by omega) (by decide) rfl rfl (Nat.le_of_ble_eq_true rfl) d_ps_rule_210 (fun v17 I17 R17 hL hzv17 h => ?_)
  refine PW.istore g (L' := [some (.ref 108), some (.ref (q1 + 14)), none, none, some (.int f4), none, none, some (.int v17), some (.int x8), some (.int s0)]) (by decide) rfl rfl d_ps_rule_213 ?_
  refine PW.iinc g rfl (show x8 + Int32.ofInt (1) = (x8 + 1) from congrArg (HAdd.hAdd x8) (by decide)) (by decide) rfl (L' := [some (.ref 108), some (.ref (q1 + 14)), none, none, some (.int f4), none, none, some (.int v17), some (.int (x8 + 1)), some (.int s0)]) rfl d_ps_rule_215 ?_
  refine PW.goto g 166 (by decide) d_ps_rule_218 ?_
  refine PX.sub [some (.ref 108), some (.ref (q1 + 14)), none, none, some (.int f4), none, none, some (.int v17), some (.int (x8 + 1)), none] ⟨rfl, ⟨rfl, ⟨rfl, ⟨rfl, ⟨rfl, trivial⟩⟩⟩⟩⟩ ?_
  exact hK166 _ _ _ _ hL h
def l_ps_rule_166 (q1 : Nat) (f4 : Int32) (K : pI → pR → Prop) (Q : Int32 → pI → pR → Prop) : Nat → Int32 → Int32 → pI → pR → Prop
  | 0, _, _, _, _ => False
  | n + 1, x7, x8, I, R => (((120 : Int32) ≤ x8 → K I R) ∧ (¬ (120 : Int32) ≤ x8 → ((x7 = 0 → K I R) ∧ (¬ x7 = 0 → (w_ps_take (45 : Int32) I R (fun v14 I14 R14 => ((v14 = 0 → (j_ps_rule_192 q1 (fun y1 y2 I18 R18 => l_ps_rule_166 q1 f4 K Q n y1 y2 I18 R18) Q f4 x8 (1 : Int32) I14 R14)) ∧ (¬ v14 = 0 → (j_ps_rule_192 q1 (fun y3 y4 I19 R19 => l_ps_rule_166 q1 f4 K Q n y3 y4 I19 R19) Q f4 x8 (-1 : Int32) I14 R14)))))))))
set_option maxHeartbeats 4000000 in
set_option maxRecDepth 100000 in
theorem L_ps_rule_166 (d : Nat) {q1 : Nat} (hq1 : pSH[q1]? = some (0, 5)) {f4 : Int32} {K : pI → pR → Prop} {Q : Int32 → pI → pR → Prop} {E : pE} {B : pB} (g : pw_G m_ps_rule (d + 3) 0 0 E B) (hF : pX (qi Q) E B) (hK : ∀ (I : pI) (R : pR), pw_Lay R → K  I R → PX E B m_ps_rule.2.2.1 221 [none, none, none, none, some (.int f4), none, none, none, none, none] [] I R) : ∀ (n : Nat) (x7 : Int32) (x8 : Int32) (I : pI) (R : pR), pw_Lay R → l_ps_rule_166 q1 f4 K Q n x7 x8 I R → PX E B m_ps_rule.2.2.1 166 [some (.ref 108), some (.ref (q1 + 14)), none, none, some (.int f4), none, none, some (.int x7), some (.int x8), none] [] I R := by
  intro n
  induction n with
  | zero => intro x7 x8 I R hL h; exact False.elim h
  | succ n ih =>
    intro x7 x8 I R hL h
    refine PW.iload g rfl d_ps_rule_166 ?_
    refine PW.bipush g (120) (by decide) d_ps_rule_168 ?_
    refine PW.icmp_ge g 221 (by decide) d_ps_rule_170 (fun c7 => ?_) (fun c7 => ?_)
    · have h := h.1 c7
      refine PX.sub [none, none, none, none, some (.int f4), none, none, none, none, none] ⟨rfl, trivial⟩ ?_
      exact hK _ _ hL h
    · have h := h.2 c7
      refine PW.iload g rfl d_ps_rule_173 ?_
      refine PW.if_eq g 221 (by decide) d_ps_rule_175 (fun c8 => ?_) (fun c8 => ?_)
      · have h := h.1 c8
        refine PX.sub [none, none, none, none, some (.int f4), none, none, none, none, none] ⟨rfl, trivial⟩ ?_
        exact hK _ _ hL h
      · have h := h.2 c8
        refine PW.aload_n g rfl rfl d_ps_rule_178 ?_
        refine PW.bipush g (45) (by decide) d_ps_rule_179 ?_
        refine PX.cVz [.int (45 : Int32)] [] g rfl ck_ps (c_ps_take d  hL h) cl_ps_38 (by omega) (by decide) rfl rfl (Nat.le_of_ble_eq_true rfl) d_ps_rule_181 (fun v14 I14 R14 hL hzv14 h => ?_)
        refine PW.if_eq g 191 (by decide) d_ps_rule_184 (fun c9 => ?_) (fun c9 => ?_)
        · have h := h.1 c9
          refine PW.iconst g (1) (by decide) d_ps_rule_191 ?_
          refine PX.sub [some (.ref 108), some (.ref (q1 + 14)), none, none, some (.int f4), none, none, none, some (.int x8), none] ⟨rfl, ⟨rfl, ⟨rfl, ⟨rfl, trivial⟩⟩⟩⟩ ?_
          refine J_ps_rule_192 d hq1 g hF (fun y1 y2 I18 R18 hL h => ?_) hL h
          refine PX.sub [some (.ref 108), some (.ref (q1 + 14)), none, none, some (.int f4), none, none, some (.int y1), some (.int y2), none] ⟨rfl, ⟨rfl, ⟨rfl, ⟨rfl, ⟨rfl, trivial⟩⟩⟩⟩⟩ ?_
          exact ih _ _ _ _ hL h
        · have h := h.2 c9
          refine PW.iconst g (-1) (by decide) d_ps_rule_187 ?_
          refine PW.goto g 192 (by decide) d_ps_rule_188 ?_
          refine PX.sub [some (.ref 108), some (.ref (q1 + 14)), none, none, some (.int f4), none, none, none, some (.int x8), none] ⟨rfl, ⟨rfl, ⟨rfl, ⟨rfl, trivial⟩⟩⟩⟩ ?_
          refine J_ps_rule_192 d hq1 g hF (fun y3 y4 I19 R19 hL h => ?_) hL h
          refine PX.sub [some (.ref 108), some (.ref (q1 + 14)), none, none, some (.int f4), none, none, some (.int y3), some (.int y4), none] ⟨rfl, ⟨rfl, ⟨rfl, ⟨rfl, ⟨rfl, trivial⟩⟩⟩⟩⟩ ?_
          exact ih _ _ _ _ hL h
def j_ps_rule_145 (q1 : Nat) (Q : Int32 → pI → pR → Prop) (x4 : Int32) (s1 : Int32) (s2 : Int32) (s3 : Int32) (s4 : Int32) (I : pI) (R : pR) : Prop := (w_rl_aim (q1 + 14) s1 s2 s3 s4 I R (fun I11 R11 => (w_ps_need (41 : Int32) I11 R11 (fun I12 R12 => (w_ps_take (266 : Int32) I12 R12 (fun v13 I13 R13 => (∃ n1, l_ps_rule_166 q1 x4 (fun I20 R20 => Q x4 I20 R20) Q n1 v13 (0 : Int32) I13 R13)))))))
set_option maxHeartbeats 4000000 in
set_option maxRecDepth 100000 in
theorem J_ps_rule_145 (d : Nat) {q1 : Nat} (hq1 : pSH[q1]? = some (0, 5)) {Q : Int32 → pI → pR → Prop} {x4 : Int32} {s1 : Int32} {s2 : Int32} {s3 : Int32} {s4 : Int32} {E : pE} {B : pB} (g : pw_G m_ps_rule (d + 3) 0 0 E B) (hF : pX (qi Q) E B) {I : pI} {R : pR} (hL : pw_Lay R) (h : j_ps_rule_145 q1 Q x4 s1 s2 s3 s4 I R) : PX E B m_ps_rule.2.2.1 145 [some (.ref 108), some (.ref (q1 + 14)), none, none, some (.int x4), none, none, none, none, none] [.int s4, .int s3, .int s2, .int s1, .ref (q1 + 14)] I R := by
  unfold j_ps_rule_145 at h
  refine PX.cVv [.int s1, .int s2, .int s3, .int s4] [] g (pw_shp hq1 3 (by decide)) ck_rl (c_rl_aim d (pw_shp hq1 3 (by decide)) hL h) cl_ps_147 (by omega) (by decide) rfl rfl (Nat.le_of_ble_eq_true rfl) d_ps_rule_145 (fun I11 R11 hL h => ?_)
  refine PW.aload_n g rfl rfl d_ps_rule_148 ?_
  refine PW.bipush g (41) (by decide) d_ps_rule_149 ?_
  refine PX.cVv [.int (41 : Int32)] [] g rfl ck_ps (c_ps_need d  hL h) cl_ps_62 (by omega) (by decide) rfl rfl (Nat.le_of_ble_eq_true rfl) d_ps_rule_151 (fun I12 R12 hL h => ?_)
  refine PW.aload_n g rfl rfl d_ps_rule_154 ?_
  refine PW.sipush g (266) (by decide) d_ps_rule_155 ?_
  refine PX.cVz [.int (266 : Int32)] [] g rfl ck_ps (c_ps_take d  hL h) cl_ps_38 (by omega) (by decide) rfl rfl (Nat.le_of_ble_eq_true rfl) d_ps_rule_158 (fun v13 I13 R13 hL hzv13 h => ?_)
  refine PW.istore g (L' := [some (.ref 108), some (.ref (q1 + 14)), none, none, some (.int x4), none, none, some (.int v13), none, none]) (by decide) rfl rfl d_ps_rule_161 ?_
  refine PW.iconst g (0) (by decide) d_ps_rule_163 ?_
  refine PW.istore g (L' := [some (.ref 108), some (.ref (q1 + 14)), none, none, some (.int x4), none, none, some (.int v13), some (.int (0 : Int32)), none]) (by decide) rfl rfl d_ps_rule_164 ?_
  refine PX.sub [some (.ref 108), some (.ref (q1 + 14)), none, none, some (.int x4), none, none, some (.int v13), some (.int (0 : Int32)), none] ⟨rfl, ⟨rfl, ⟨rfl, ⟨rfl, ⟨rfl, trivial⟩⟩⟩⟩⟩ ?_
  obtain ⟨n1, h⟩ := h
  refine L_ps_rule_166 d hq1 g hF (fun I20 R20 hL h => ?_) n1 v13 (0 : Int32) I13 R13 hL h
  refine PW.iload g rfl d_ps_rule_221 ?_
  exact PX.iret g hF rfl d_ps_rule_223 hL h
def j_ps_rule_123 (q1 : Nat) (Q : Int32 → pI → pR → Prop) (x4 : Int32) (x5 : Int32) (s0 : Int32) (I : pI) (R : pR) : Prop := ((¬ s0 = 0 → (w_ps_number  I R (fun v10 I10 R10 => (j_ps_rule_145 q1 Q x4 x4 x5 s0 v10 I10 R10)))) ∧ (s0 = 0 → (j_ps_rule_145 q1 Q x4 x4 x5 s0 (0 : Int32) I R)))
set_option maxHeartbeats 4000000 in
set_option maxRecDepth 100000 in
theorem J_ps_rule_123 (d : Nat) {q1 : Nat} (hq1 : pSH[q1]? = some (0, 5)) {Q : Int32 → pI → pR → Prop} {x4 : Int32} {x5 : Int32} {s0 : Int32} {E : pE} {B : pB} (g : pw_G m_ps_rule (d + 3) 0 0 E B) (hF : pX (qi Q) E B) {I : pI} {R : pR} (hL : pw_Lay R) (h : j_ps_rule_123 q1 Q x4 x5 s0 I R) : PX E B m_ps_rule.2.2.1 123 [some (.ref 108), some (.ref (q1 + 14)), none, none, some (.int x4), some (.int x5), none, none, none, none] [.int s0] I R := by
  unfold j_ps_rule_123 at h
  refine PW.istore g (L' := [some (.ref 108), some (.ref (q1 + 14)), none, none, some (.int x4), some (.int x5), some (.int s0), none, none, none]) (by decide) rfl rfl d_ps_rule_123 ?_
  refine PW.aload_n g rfl rfl d_ps_rule_125 ?_
  refine PW.iload g rfl d_ps_rule_126 ?_
  refine PW.iload g rfl d_ps_rule_128 ?_
  refine PW.iload g rfl d_ps_rule_130 ?_
  refine PW.iload g rfl d_ps_rule_132 ?_
  refine PW.if_ne g 141 (by decide) d_ps_rule_134 (fun c6 => ?_) (fun c6 => ?_)
  · have h := h.1 c6
    refine PW.aload_n g rfl rfl d_ps_rule_141 ?_
    refine PX.cVi [] [.int s0, .int x5, .int x4, .ref (q1 + 14)] g rfl ck_ps (c_ps_number d  hL h) cl_ps_137 (by omega) (by decide) rfl rfl (Nat.le_of_ble_eq_true rfl) d_ps_rule_142 (fun v10 I10 R10 hL h => ?_)
    refine PX.sub [some (.ref 108), some (.ref (q1 + 14)), none, none, some (.int x4), none, none, none, none, none] ⟨rfl, ⟨rfl, ⟨rfl, trivial⟩⟩⟩ ?_
    exact J_ps_rule_145 d hq1 g hF hL h
  · have h := h.2 c6
    refine PW.iconst g (0) (by decide) d_ps_rule_137 ?_
    refine PW.goto g 145 (by decide) d_ps_rule_138 ?_
    refine PX.sub [some (.ref 108), some (.ref (q1 + 14)), none, none, some (.int x4), none, none, none, none, none] ⟨rfl, ⟨rfl, ⟨rfl, trivial⟩⟩⟩ ?_
    exact J_ps_rule_145 d hq1 g hF hL h
def j_ps_rule_87 (q1 : Nat) (Q : Int32 → pI → pR → Prop) (x4 : Int32) (x5 : Int32) (s1 : Int32) (I : pI) (R : pR) : Prop := (w_ps_need s1 I R (fun I6 R6 => (w_ps_need (40 : Int32) I6 R6 (fun I7 R7 => (w_ps_take (95 : Int32) I7 R7 (fun v8 I8 R8 => ((v8 = 0 → (w_ps_take (33 : Int32) I8 R8 (fun v9 I9 R9 => ((v9 = 0 → (j_ps_rule_123 q1 Q x4 x5 (1 : Int32) I9 R9)) ∧ (¬ v9 = 0 → (j_ps_rule_123 q1 Q x4 x5 (2 : Int32) I9 R9)))))) ∧ (¬ v8 = 0 → (j_ps_rule_123 q1 Q x4 x5 (0 : Int32) I8 R8)))))))))
set_option maxHeartbeats 4000000 in
set_option maxRecDepth 100000 in
theorem J_ps_rule_87 (d : Nat) {q1 : Nat} (hq1 : pSH[q1]? = some (0, 5)) {Q : Int32 → pI → pR → Prop} {x4 : Int32} {x5 : Int32} {s1 : Int32} {E : pE} {B : pB} (g : pw_G m_ps_rule (d + 3) 0 0 E B) (hF : pX (qi Q) E B) {I : pI} {R : pR} (hL : pw_Lay R) (h : j_ps_rule_87 q1 Q x4 x5 s1 I R) : PX E B m_ps_rule.2.2.1 87 [some (.ref 108), some (.ref (q1 + 14)), none, none, some (.int x4), some (.int x5), none, none, none, none] [.int s1, .ref 108] I R := by
  unfold j_ps_rule_87 at h
  refine PX.cVv [.int s1] [] g rfl ck_ps (c_ps_need d  hL h) cl_ps_62 (by omega) (by decide) rfl rfl (Nat.le_of_ble_eq_true rfl) d_ps_rule_87 (fun I6 R6 hL h => ?_)
  refine PW.aload_n g rfl rfl d_ps_rule_90 ?_
  refine PW.bipush g (40) (by decide) d_ps_rule_91 ?_
  refine PX.cVv [.int (40 : Int32)] [] g rfl ck_ps (c_ps_need d  hL h) cl_ps_62 (by omega) (by decide) rfl rfl (Nat.le_of_ble_eq_true rfl) d_ps_rule_93 (fun I7 R7 hL h => ?_)
  refine PW.aload_n g rfl rfl d_ps_rule_96 ?_
  refine PW.bipush g (95) (by decide) d_ps_rule_97 ?_
  refine PX.cVz [.int (95 : Int32)] [] g rfl ck_ps (c_ps_take d  hL h) cl_ps_38 (by omega) (by decide) rfl rfl (Nat.le_of_ble_eq_true rfl) d_ps_rule_99 (fun v8 I8 R8 hL hzv8 h => ?_)
  refine PW.if_eq g 109 (by decide) d_ps_rule_102 (fun c4 => ?_) (fun c4 => ?_)
  · have h := h.1 c4
    refine PW.aload_n g rfl rfl d_ps_rule_109 ?_
    refine PW.bipush g (33) (by decide) d_ps_rule_110 ?_
    refine PX.cVz [.int (33 : Int32)] [] g rfl ck_ps (c_ps_take d  hL h) cl_ps_38 (by omega) (by decide) rfl rfl (Nat.le_of_ble_eq_true rfl) d_ps_rule_112 (fun v9 I9 R9 hL hzv9 h => ?_)
    refine PW.if_eq g 122 (by decide) d_ps_rule_115 (fun c5 => ?_) (fun c5 => ?_)
    · have h := h.1 c5
      refine PW.iconst g (1) (by decide) d_ps_rule_122 ?_
      refine PX.sub [some (.ref 108), some (.ref (q1 + 14)), none, none, some (.int x4), some (.int x5), none, none, none, none] ⟨rfl, ⟨rfl, ⟨rfl, ⟨rfl, trivial⟩⟩⟩⟩ ?_
      exact J_ps_rule_123 d hq1 g hF hL h
    · have h := h.2 c5
      refine PW.iconst g (2) (by decide) d_ps_rule_118 ?_
      refine PW.goto g 123 (by decide) d_ps_rule_119 ?_
      refine PX.sub [some (.ref 108), some (.ref (q1 + 14)), none, none, some (.int x4), some (.int x5), none, none, none, none] ⟨rfl, ⟨rfl, ⟨rfl, ⟨rfl, trivial⟩⟩⟩⟩ ?_
      exact J_ps_rule_123 d hq1 g hF hL h
  · have h := h.2 c4
    refine PW.iconst g (0) (by decide) d_ps_rule_105 ?_
    refine PW.goto g 123 (by decide) d_ps_rule_106 ?_
    refine PX.sub [some (.ref 108), some (.ref (q1 + 14)), none, none, some (.int x4), some (.int x5), none, none, none, none] ⟨rfl, ⟨rfl, ⟨rfl, ⟨rfl, trivial⟩⟩⟩⟩ ?_
    exact J_ps_rule_123 d hq1 g hF hL h
def j_ps_rule_71 (q1 : Nat) (Q : Int32 → pI → pR → Prop) (x4 : Int32) (s0 : Int32) (I : pI) (R : pR) : Prop := ((¬ s0 = (1 : Int32) → (j_ps_rule_87 q1 Q x4 s0 (77 : Int32) I R)) ∧ (s0 = (1 : Int32) → (j_ps_rule_87 q1 Q x4 s0 (78 : Int32) I R)))
set_option maxHeartbeats 4000000 in
set_option maxRecDepth 100000 in
theorem J_ps_rule_71 (d : Nat) {q1 : Nat} (hq1 : pSH[q1]? = some (0, 5)) {Q : Int32 → pI → pR → Prop} {x4 : Int32} {s0 : Int32} {E : pE} {B : pB} (g : pw_G m_ps_rule (d + 3) 0 0 E B) (hF : pX (qi Q) E B) {I : pI} {R : pR} (hL : pw_Lay R) (h : j_ps_rule_71 q1 Q x4 s0 I R) : PX E B m_ps_rule.2.2.1 71 [some (.ref 108), some (.ref (q1 + 14)), none, none, some (.int x4), none, none, none, none, none] [.int s0] I R := by
  unfold j_ps_rule_71 at h
  refine PW.istore g (L' := [some (.ref 108), some (.ref (q1 + 14)), none, none, some (.int x4), some (.int s0), none, none, none, none]) (by decide) rfl rfl d_ps_rule_71 ?_
  refine PW.aload_n g rfl rfl d_ps_rule_73 ?_
  refine PW.iload g rfl d_ps_rule_74 ?_
  refine PW.iconst g (1) (by decide) d_ps_rule_76 ?_
  refine PW.icmp_ne g 85 (by decide) d_ps_rule_77 (fun c3 => ?_) (fun c3 => ?_)
  · have h := h.1 c3
    refine PW.bipush g (77) (by decide) d_ps_rule_85 ?_
    refine PX.sub [some (.ref 108), some (.ref (q1 + 14)), none, none, some (.int x4), some (.int s0), none, none, none, none] ⟨rfl, ⟨rfl, ⟨rfl, ⟨rfl, trivial⟩⟩⟩⟩ ?_
    exact J_ps_rule_87 d hq1 g hF hL h
  · have h := h.2 c3
    refine PW.bipush g (78) (by decide) d_ps_rule_80 ?_
    refine PW.goto g 87 (by decide) d_ps_rule_82 ?_
    refine PX.sub [some (.ref 108), some (.ref (q1 + 14)), none, none, some (.int x4), some (.int s0), none, none, none, none] ⟨rfl, ⟨rfl, ⟨rfl, ⟨rfl, trivial⟩⟩⟩⟩ ?_
    exact J_ps_rule_87 d hq1 g hF hL h
def j_ps_rule_43 (q1 : Nat) (Q : Int32 → pI → pR → Prop) (x2 : Int32) (x3 : Int32) (I : pI) (R : pR) : Prop := (w_rl_add (q1 + 14) x2 x3 I R (fun v3 I3 R3 => (w_ps_need (42 : Int32) I3 R3 (fun I4 R4 => (w_ps_next  I4 R4 (fun v5 I5 R5 => ((¬ v5 = (78 : Int32) → (j_ps_rule_71 q1 Q v3 (0 : Int32) I5 R5)) ∧ (v5 = (78 : Int32) → (j_ps_rule_71 q1 Q v3 (1 : Int32) I5 R5)))))))))
set_option maxHeartbeats 4000000 in
set_option maxRecDepth 100000 in
theorem J_ps_rule_43 (d : Nat) {q1 : Nat} (hq1 : pSH[q1]? = some (0, 5)) {Q : Int32 → pI → pR → Prop} {x2 : Int32} {x3 : Int32} {E : pE} {B : pB} (g : pw_G m_ps_rule (d + 3) 0 0 E B) (hF : pX (qi Q) E B) {I : pI} {R : pR} (hL : pw_Lay R) (h : j_ps_rule_43 q1 Q x2 x3 I R) : PX E B m_ps_rule.2.2.1 43 [some (.ref 108), some (.ref (q1 + 14)), some (.int x2), some (.int x3), none, none, none, none, none, none] [] I R := by
  unfold j_ps_rule_43 at h
  refine PW.aload_n g rfl rfl d_ps_rule_43 ?_
  refine PW.iload_n g rfl rfl d_ps_rule_44 ?_
  refine PW.iload_n g rfl rfl d_ps_rule_45 ?_
  refine PX.cVi [.int x2, .int x3] [] g (pw_shp hq1 3 (by decide)) ck_rl (c_rl_add d (pw_shp hq1 3 (by decide)) hL h) cl_ps_141 (by omega) (by decide) rfl rfl (Nat.le_of_ble_eq_true rfl) d_ps_rule_46 (fun v3 I3 R3 hL h => ?_)
  refine PW.istore g (L' := [some (.ref 108), some (.ref (q1 + 14)), some (.int x2), some (.int x3), some (.int v3), none, none, none, none, none]) (by decide) rfl rfl d_ps_rule_49 ?_
  refine PW.aload_n g rfl rfl d_ps_rule_51 ?_
  refine PW.bipush g (42) (by decide) d_ps_rule_52 ?_
  refine PX.cVv [.int (42 : Int32)] [] g rfl ck_ps (c_ps_need d  hL h) cl_ps_62 (by omega) (by decide) rfl rfl (Nat.le_of_ble_eq_true rfl) d_ps_rule_54 (fun I4 R4 hL h => ?_)
  refine PW.aload_n g rfl rfl d_ps_rule_57 ?_
  refine PX.cVi [] [] g rfl ck_ps (c_ps_next d  hL h) cl_ps_49 (by omega) (by decide) rfl rfl (Nat.le_of_ble_eq_true rfl) d_ps_rule_58 (fun v5 I5 R5 hL h => ?_)
  refine PW.bipush g (78) (by decide) d_ps_rule_61 ?_
  refine PW.icmp_ne g 70 (by decide) d_ps_rule_63 (fun c2 => ?_) (fun c2 => ?_)
  · have h := h.1 c2
    refine PW.iconst g (0) (by decide) d_ps_rule_70 ?_
    refine PX.sub [some (.ref 108), some (.ref (q1 + 14)), none, none, some (.int v3), none, none, none, none, none] ⟨rfl, ⟨rfl, ⟨rfl, trivial⟩⟩⟩ ?_
    exact J_ps_rule_71 d hq1 g hF hL h
  · have h := h.2 c2
    refine PW.iconst g (1) (by decide) d_ps_rule_66 ?_
    refine PW.goto g 71 (by decide) d_ps_rule_67 ?_
    refine PX.sub [some (.ref 108), some (.ref (q1 + 14)), none, none, some (.int v3), none, none, none, none, none] ⟨rfl, ⟨rfl, ⟨rfl, trivial⟩⟩⟩ ?_
    exact J_ps_rule_71 d hq1 g hF hL h
def j_ps_rule_42 (q1 : Nat) (Q : Int32 → pI → pR → Prop) (x2 : Int32) (s0 : Int32) (I : pI) (R : pR) : Prop := (j_ps_rule_43 q1 Q x2 s0 I R)
set_option maxHeartbeats 4000000 in
set_option maxRecDepth 100000 in
theorem J_ps_rule_42 (d : Nat) {q1 : Nat} (hq1 : pSH[q1]? = some (0, 5)) {Q : Int32 → pI → pR → Prop} {x2 : Int32} {s0 : Int32} {E : pE} {B : pB} (g : pw_G m_ps_rule (d + 3) 0 0 E B) (hF : pX (qi Q) E B) {I : pI} {R : pR} (hL : pw_Lay R) (h : j_ps_rule_42 q1 Q x2 s0 I R) : PX E B m_ps_rule.2.2.1 42 [some (.ref 108), some (.ref (q1 + 14)), some (.int x2), none, none, none, none, none, none, none] [.int s0] I R := by
  unfold j_ps_rule_42 at h
  refine PW.istore_n g rfl (L' := [some (.ref 108), some (.ref (q1 + 14)), some (.int x2), some (.int s0), none, none, none, none, none, none]) (by decide) rfl rfl d_ps_rule_42 ?_
  refine PX.sub [some (.ref 108), some (.ref (q1 + 14)), some (.int x2), some (.int s0), none, none, none, none, none, none] ⟨rfl, ⟨rfl, ⟨rfl, ⟨rfl, trivial⟩⟩⟩⟩ ?_
  exact J_ps_rule_43 d hq1 g hF hL h
def w_ps_rule (I : pI) (R : pR) (Q : Int32 → pI → pR → Prop) : Prop := (∃ q1, R 108 1 = some q1 ∧ pSH[q1]? = some (0, 5) ∧ (w_ps_number  I R (fun v1 I1 R1 => (w_ps_take (45 : Int32) I1 R1 (fun v2 I2 R2 => ((v2 = 0 → (j_ps_rule_43 q1 Q v1 v1 I2 R2)) ∧ (¬ v2 = 0 → (w_ps_take (95 : Int32) I2 R2 (fun v18 I21 R21 => ((v18 = 0 → (w_ps_number  I21 R21 (fun v19 I22 R22 => (j_ps_rule_42 q1 Q v1 v19 I22 R22)))) ∧ (¬ v18 = 0 → (j_ps_rule_42 q1 Q v1 (2147483647 : Int32) I21 R21))))))))))))
set_option maxHeartbeats 4000000 in
set_option maxRecDepth 100000 in
theorem c_ps_rule (d : Nat) {I : pI} {R : pR} {Q : Int32 → pI → pR → Prop} (hL : pw_Lay R) (h : w_ps_rule  I R Q) : Cm (d + 3) m_ps_rule [.ref 108] I R (qi Q) := by
  refine Cm.of [some (.ref 108), none, none, none, none, none, none, none, none, none] (by decide) rfl (Nat.le_of_ble_eq_true rfl) (by simp) (fun E B g hF => ?_)
  unfold w_ps_rule at h
  refine PW.aload_n g rfl rfl d_ps_rule_0 ?_
  obtain ⟨q1, eq1, hq1, h⟩ := h
  refine PW.getR (q := q1) g fi_ps_18 rfl eq1 d_ps_rule_1 ?_
  refine PW.getR (q := (q1 + 14)) g fi_ps_133 hq1 (hL q1 5 3 hq1 (by decide)) d_ps_rule_4 ?_
  refine PW.astore_n g rfl (L' := [some (.ref 108), some (.ref (q1 + 14)), none, none, none, none, none, none, none, none]) (by decide) rfl rfl d_ps_rule_7 ?_
  refine PW.aload_n g rfl rfl d_ps_rule_8 ?_
  refine PX.cVi [] [] g rfl ck_ps (c_ps_number d  hL h) cl_ps_137 (by omega) (by decide) rfl rfl (Nat.le_of_ble_eq_true rfl) d_ps_rule_9 (fun v1 I1 R1 hL h => ?_)
  refine PW.istore_n g rfl (L' := [some (.ref 108), some (.ref (q1 + 14)), some (.int v1), none, none, none, none, none, none, none]) (by decide) rfl rfl d_ps_rule_12 ?_
  refine PW.iload_n g rfl rfl d_ps_rule_13 ?_
  refine PW.istore_n g rfl (L' := [some (.ref 108), some (.ref (q1 + 14)), some (.int v1), some (.int v1), none, none, none, none, none, none]) (by decide) rfl rfl d_ps_rule_14 ?_
  refine PW.aload_n g rfl rfl d_ps_rule_15 ?_
  refine PW.bipush g (45) (by decide) d_ps_rule_16 ?_
  refine PX.cVz [.int (45 : Int32)] [] g rfl ck_ps (c_ps_take d  hL h) cl_ps_38 (by omega) (by decide) rfl rfl (Nat.le_of_ble_eq_true rfl) d_ps_rule_18 (fun v2 I2 R2 hL hzv2 h => ?_)
  refine PW.if_eq g 43 (by decide) d_ps_rule_21 (fun c1 => ?_) (fun c1 => ?_)
  · have h := h.1 c1
    refine PX.sub [some (.ref 108), some (.ref (q1 + 14)), some (.int v1), some (.int v1), none, none, none, none, none, none] ⟨rfl, ⟨rfl, ⟨rfl, ⟨rfl, trivial⟩⟩⟩⟩ ?_
    exact J_ps_rule_43 d hq1 g hF hL h
  · have h := h.2 c1
    refine PW.aload_n g rfl rfl d_ps_rule_24 ?_
    refine PW.bipush g (95) (by decide) d_ps_rule_25 ?_
    refine PX.cVz [.int (95 : Int32)] [] g rfl ck_ps (c_ps_take d  hL h) cl_ps_38 (by omega) (by decide) rfl rfl (Nat.le_of_ble_eq_true rfl) d_ps_rule_27 (fun v18 I21 R21 hL hzv18 h => ?_)
    refine PW.if_eq g 38 (by decide) d_ps_rule_30 (fun c10 => ?_) (fun c10 => ?_)
    · have h := h.1 c10
      refine PW.aload_n g rfl rfl d_ps_rule_38 ?_
      refine PX.cVi [] [] g rfl ck_ps (c_ps_number d  hL h) cl_ps_137 (by omega) (by decide) rfl rfl (Nat.le_of_ble_eq_true rfl) d_ps_rule_39 (fun v19 I22 R22 hL h => ?_)
      refine PX.sub [some (.ref 108), some (.ref (q1 + 14)), some (.int v1), none, none, none, none, none, none, none] ⟨rfl, ⟨rfl, ⟨rfl, trivial⟩⟩⟩ ?_
      exact J_ps_rule_42 d hq1 g hF hL h
    · have h := h.2 c10
      refine PW.ldc g (2147483647) (pw_gw 759 (by decide +kernel) (by decide +kernel)) d_ps_rule_33 ?_
      refine PW.goto g 42 (by decide) d_ps_rule_35 ?_
      refine PX.sub [some (.ref 108), some (.ref (q1 + 14)), some (.int v1), none, none, none, none, none, none, none] ⟨rfl, ⟨rfl, ⟨rfl, trivial⟩⟩⟩ ?_
      exact J_ps_rule_42 d hq1 g hF hL h
def j_ps_chain_117 (W : Nat → Int32 → Int32 → pI → pR → (pI → pR → Prop) → Prop) (K34 : Int32 → pI → pR → Prop) (Q : pI → pR → Prop) (f1 : Int32) (f2 : Int32) (f3 : Int32) (x4 : Int32) (x5 : Int32) (x6 : Int32) (x7 : Int32) (s0 : Int32) (I : pI) (R : pR) : Prop := (W 0 (f1 + (1 : Int32)) f2 I R (fun I7 R6 => (∃ q1, R6 108 1 = some q1 ∧ pSH[q1]? = some (0, 5) ∧ (w_cd_add (q1 + 2) (7 : Int32) x5 x6 I7 R6 (fun v5 I8 R7 => ((x7 = 0 → K34 (x4 + 1) I8 R7) ∧ (¬ x7 = 0 → (∃ q2, R7 108 1 = some q2 ∧ pSH[q2]? = some (0, 5) ∧ (w_cd_aim (q2 + 2) s0 I8 R7 (fun I9 R8 => K34 (x4 + 1) I9 R8))))))))))
set_option maxHeartbeats 4000000 in
set_option maxRecDepth 100000 in
theorem J_ps_chain_117 (d : Nat) {W : Nat → Int32 → Int32 → pI → pR → (pI → pR → Prop) → Prop} (hW0 : ∀ a b I R Q, pw_Lay R → W 0 a b I R Q → Cm (d + 2) m_ps_chain [.ref 108, .int a, .int b] I R (qv Q)) (hW1 : ∀ a b I R Q, pw_Lay R → W 1 a b I R Q → Cm (d + 2) m_ps_unary [.ref 108, .int a] I R (qv Q)) (hW2 : ∀ a b I R Q, pw_Lay R → W 2 a b I R Q → Cm (d + 2) m_ps_atom [.ref 108, .int a] I R (qv Q)) (hW3 : ∀ a b I R Q, pw_Lay R → W 3 a b I R Q → Cm (d + 2) m_ps_group [.ref 108, .int a] I R (qv Q)) {K34 : Int32 → pI → pR → Prop} {Q : pI → pR → Prop} {f1 : Int32} {f2 : Int32} {f3 : Int32} {x4 : Int32} {x5 : Int32} {x6 : Int32} {x7 : Int32} {s0 : Int32} {E : pE} {B : pB} (g : pw_G m_ps_chain (d + 3) 0 0 E B) (hF : pX (qv Q) E B) (hK34 : ∀ (y4 : Int32) (I : pI) (R : pR), pw_Lay R → K34 y4 I R → PX E B m_ps_chain.2.2.1 34 [some (.ref 108), some (.int f1), some (.int f2), some (.int f3), some (.int y4), none, none, none, none] [] I R) {I : pI} {R : pR} (hL : pw_Lay R) (h : j_ps_chain_117 W K34 Q f1 f2 f3 x4 x5 x6 x7 s0 I R) : PX E B m_ps_chain.2.2.1 117 [some (.ref 108), some (.int f1), some (.int f2), some (.int f3), some (.int x4), some (.int x5), some (.int x6), some (.int x7), none] [.int s0] I R := by
  unfold j_ps_chain_117 at h
  refine PW.istore g (L' := [some (.ref 108), some (.int f1), some (.int f2), some (.int f3), some (.int x4), some (.int x5), some (.int x6), some (.int x7), some (.int s0)]) (by decide) rfl rfl d_ps_chain_117 ?_
  refine PW.aload_n g rfl rfl d_ps_chain_119 ?_
  refine PW.iload_n g rfl rfl d_ps_chain_120 ?_
  refine PW.iconst g (1) (by decide) d_ps_chain_121 ?_
  refine PW.iadd g d_ps_chain_122 ?_
  refine PW.iload_n g rfl rfl d_ps_chain_123 ?_
  refine PX.cVv [.int (f1 + (1 : Int32)), .int f2] [] g rfl ck_ps (hW0 _ _ _ _ _ hL h) cl_ps_122 (by omega) (by decide) rfl rfl (Nat.le_of_ble_eq_true rfl) d_ps_chain_124 (fun I7 R6 hL h => ?_)
  refine PW.aload_n g rfl rfl d_ps_chain_127 ?_
  obtain ⟨q1, eq1, hq1, h⟩ := h
  refine PW.getR (q := q1) g fi_ps_18 rfl eq1 d_ps_chain_128 ?_
  refine PW.getR (q := (q1 + 2)) g fi_ps_79 hq1 (hL q1 5 1 hq1 (by decide)) d_ps_chain_131 ?_
  refine PW.bipush g (7) (by decide) d_ps_chain_134 ?_
  refine PW.iload g rfl d_ps_chain_136 ?_
  refine PW.iload g rfl d_ps_chain_138 ?_
  refine PX.cVi [.int (7 : Int32), .int x5, .int x6] [] g (pw_shp hq1 1 (by decide)) ck_cd (c_cd_add d (pw_shp hq1 1 (by decide)) hL h) cl_ps_172 (by omega) (by decide) rfl rfl (Nat.le_of_ble_eq_true rfl) d_ps_chain_140 (fun v5 I8 R7 hL h => ?_)
  refine PW.pop g rfl d_ps_chain_143 ?_
  refine PW.iload g rfl d_ps_chain_144 ?_
  refine PW.if_eq g 161 (by decide) d_ps_chain_146 (fun c7 => ?_) (fun c7 => ?_)
  · have h := h.1 c7
    refine PW.iinc g rfl (show x4 + Int32.ofInt (1) = (x4 + 1) from congrArg (HAdd.hAdd x4) (by decide)) (by decide) rfl (L' := [some (.ref 108), some (.int f1), some (.int f2), some (.int f3), some (.int (x4 + 1)), some (.int x5), some (.int x6), some (.int x7), some (.int s0)]) rfl d_ps_chain_161 ?_
    refine PW.goto g 34 (by decide) d_ps_chain_164 ?_
    refine PX.sub [some (.ref 108), some (.int f1), some (.int f2), some (.int f3), some (.int (x4 + 1)), none, none, none, none] ⟨rfl, ⟨rfl, ⟨rfl, ⟨rfl, ⟨rfl, trivial⟩⟩⟩⟩⟩ ?_
    exact hK34 _ _ _ hL h
  · have h := h.2 c7
    refine PW.aload_n g rfl rfl d_ps_chain_149 ?_
    obtain ⟨q2, eq2, hq2, h⟩ := h
    refine PW.getR (q := q2) g fi_ps_18 rfl eq2 d_ps_chain_150 ?_
    refine PW.getR (q := (q2 + 2)) g fi_ps_79 hq2 (hL q2 5 1 hq2 (by decide)) d_ps_chain_153 ?_
    refine PW.iload g rfl d_ps_chain_156 ?_
    refine PX.cVv [.int s0] [] g (pw_shp hq2 1 (by decide)) ck_cd (c_cd_aim d (pw_shp hq2 1 (by decide)) hL h) cl_ps_174 (by omega) (by decide) rfl rfl (Nat.le_of_ble_eq_true rfl) d_ps_chain_158 (fun I9 R8 hL h => ?_)
    refine PW.iinc g rfl (show x4 + Int32.ofInt (1) = (x4 + 1) from congrArg (HAdd.hAdd x4) (by decide)) (by decide) rfl (L' := [some (.ref 108), some (.int f1), some (.int f2), some (.int f3), some (.int (x4 + 1)), some (.int x5), some (.int x6), some (.int x7), some (.int s0)]) rfl d_ps_chain_161 ?_
    refine PW.goto g 34 (by decide) d_ps_chain_164 ?_
    refine PX.sub [some (.ref 108), some (.int f1), some (.int f2), some (.int f3), some (.int (x4 + 1)), none, none, none, none] ⟨rfl, ⟨rfl, ⟨rfl, ⟨rfl, ⟨rfl, trivial⟩⟩⟩⟩⟩ ?_
    exact hK34 _ _ _ hL h
def j_ps_chain_90 (W : Nat → Int32 → Int32 → pI → pR → (pI → pR → Prop) → Prop) (K34 : Int32 → pI → pR → Prop) (Q : pI → pR → Prop) (f1 : Int32) (f2 : Int32) (f3 : Int32) (x4 : Int32) (x5 : Int32) (x6 : Int32) (s0 : Int32) (I : pI) (R : pR) : Prop := ((s0 = 0 → (j_ps_chain_117 W (fun y1 I10 R9 => K34 y1 I10 R9) Q f1 f2 f3 x4 x5 x6 s0 (-1 : Int32) I R)) ∧ (¬ s0 = 0 → (∃ q3, R 108 1 = some q3 ∧ pSH[q3]? = some (0, 5) ∧ (w_cd_add (q3 + 2) (6 : Int32) x5 x6 I R (fun v7 I11 R10 => (j_ps_chain_117 W (fun y2 I12 R11 => K34 y2 I12 R11) Q f1 f2 f3 x4 x5 x6 s0 v7 I11 R10))))))
set_option maxHeartbeats 4000000 in
set_option maxRecDepth 100000 in
theorem J_ps_chain_90 (d : Nat) {W : Nat → Int32 → Int32 → pI → pR → (pI → pR → Prop) → Prop} (hW0 : ∀ a b I R Q, pw_Lay R → W 0 a b I R Q → Cm (d + 2) m_ps_chain [.ref 108, .int a, .int b] I R (qv Q)) (hW1 : ∀ a b I R Q, pw_Lay R → W 1 a b I R Q → Cm (d + 2) m_ps_unary [.ref 108, .int a] I R (qv Q)) (hW2 : ∀ a b I R Q, pw_Lay R → W 2 a b I R Q → Cm (d + 2) m_ps_atom [.ref 108, .int a] I R (qv Q)) (hW3 : ∀ a b I R Q, pw_Lay R → W 3 a b I R Q → Cm (d + 2) m_ps_group [.ref 108, .int a] I R (qv Q)) {K34 : Int32 → pI → pR → Prop} {Q : pI → pR → Prop} {f1 : Int32} {f2 : Int32} {f3 : Int32} {x4 : Int32} {x5 : Int32} {x6 : Int32} {s0 : Int32} {E : pE} {B : pB} (g : pw_G m_ps_chain (d + 3) 0 0 E B) (hF : pX (qv Q) E B) (hK34 : ∀ (y4 : Int32) (I : pI) (R : pR), pw_Lay R → K34 y4 I R → PX E B m_ps_chain.2.2.1 34 [some (.ref 108), some (.int f1), some (.int f2), some (.int f3), some (.int y4), none, none, none, none] [] I R) {I : pI} {R : pR} (hL : pw_Lay R) (h : j_ps_chain_90 W K34 Q f1 f2 f3 x4 x5 x6 s0 I R) : PX E B m_ps_chain.2.2.1 90 [some (.ref 108), some (.int f1), some (.int f2), some (.int f3), some (.int x4), some (.int x5), some (.int x6), none, none] [.int s0] I R := by
  unfold j_ps_chain_90 at h
  refine PW.istore g (L' := [some (.ref 108), some (.int f1), some (.int f2), some (.int f3), some (.int x4), some (.int x5), some (.int x6), some (.int s0), none]) (by decide) rfl rfl d_ps_chain_90 ?_
  refine PW.iload g rfl d_ps_chain_92 ?_
  refine PW.if_eq g 116 (by decide) d_ps_chain_94 (fun c6 => ?_) (fun c6 => ?_)
  · have h := h.1 c6
    refine PW.iconst g (-1) (by decide) d_ps_chain_116 ?_
    refine PX.sub [some (.ref 108), some (.int f1), some (.int f2), some (.int f3), some (.int x4), some (.int x5), some (.int x6), some (.int s0), none] ⟨rfl, ⟨rfl, ⟨rfl, ⟨rfl, ⟨rfl, ⟨rfl, ⟨rfl, ⟨rfl, trivial⟩⟩⟩⟩⟩⟩⟩⟩ ?_
    refine J_ps_chain_117 d hW0 hW1 hW2 hW3 g hF (fun y1 I10 R9 hL h => ?_) hL h
    refine PX.sub [some (.ref 108), some (.int f1), some (.int f2), some (.int f3), some (.int y1), none, none, none, none] ⟨rfl, ⟨rfl, ⟨rfl, ⟨rfl, ⟨rfl, trivial⟩⟩⟩⟩⟩ ?_
    exact hK34 _ _ _ hL h
  · have h := h.2 c6
    refine PW.aload_n g rfl rfl d_ps_chain_97 ?_
    obtain ⟨q3, eq3, hq3, h⟩ := h
    refine PW.getR (q := q3) g fi_ps_18 rfl eq3 d_ps_chain_98 ?_
    refine PW.getR (q := (q3 + 2)) g fi_ps_79 hq3 (hL q3 5 1 hq3 (by decide)) d_ps_chain_101 ?_
    refine PW.bipush g (6) (by decide) d_ps_chain_104 ?_
    refine PW.iload g rfl d_ps_chain_106 ?_
    refine PW.iload g rfl d_ps_chain_108 ?_
    refine PX.cVi [.int (6 : Int32), .int x5, .int x6] [] g (pw_shp hq3 1 (by decide)) ck_cd (c_cd_add d (pw_shp hq3 1 (by decide)) hL h) cl_ps_172 (by omega) (by decide) rfl rfl (Nat.le_of_ble_eq_true rfl) d_ps_chain_110 (fun v7 I11 R10 hL h => ?_)
    refine PW.goto g 117 (by decide) d_ps_chain_113 ?_
    refine PX.sub [some (.ref 108), some (.int f1), some (.int f2), some (.int f3), some (.int x4), some (.int x5), some (.int x6), some (.int s0), none] ⟨rfl, ⟨rfl, ⟨rfl, ⟨rfl, ⟨rfl, ⟨rfl, ⟨rfl, ⟨rfl, trivial⟩⟩⟩⟩⟩⟩⟩⟩ ?_
    refine J_ps_chain_117 d hW0 hW1 hW2 hW3 g hF (fun y2 I12 R11 hL h => ?_) hL h
    refine PX.sub [some (.ref 108), some (.int f1), some (.int f2), some (.int f3), some (.int y2), none, none, none, none] ⟨rfl, ⟨rfl, ⟨rfl, ⟨rfl, ⟨rfl, trivial⟩⟩⟩⟩⟩ ?_
    exact hK34 _ _ _ hL h
def l_ps_chain_34 (W : Nat → Int32 → Int32 → pI → pR → (pI → pR → Prop) → Prop) (f1 : Int32) (f2 : Int32) (f3 : Int32) (K : pI → pR → Prop) (Q : pI → pR → Prop) : Nat → Int32 → pI → pR → Prop
  | 0, _, _, _ => False
  | n + 1, x4, I, R => ((f3 ≤ x4 → K I R) ∧ (¬ f3 ≤ x4 → (w_ps_next  I R (fun v1 I2 R2 => (w_sr_levelOf v1 I2 R2 (fun v2 I3 R3 => ((¬ v2 = f1 → K I3 R3) ∧ (v2 = f1 → (w_ps_next  I3 R3 (fun v3 I4 R4 => (w_tk_placeOf (I4 108 2) I4 R4 (fun v4 I5 R5 => (∀ I6, I6 = pw_wI I5 108 2 ((I5 108 2) + (1 : Int32)) → (((1 : Int32) < f1 → (j_ps_chain_90 W (fun y3 I13 R12 => l_ps_chain_34 W f1 f2 f3 K Q n y3 I13 R12) Q f1 f2 f3 x4 v3 v4 (0 : Int32) I6 R5)) ∧ (¬ (1 : Int32) < f1 → (j_ps_chain_90 W (fun y4 I14 R13 => l_ps_chain_34 W f1 f2 f3 K Q n y4 I14 R13) Q f1 f2 f3 x4 v3 v4 (1 : Int32) I6 R5))))))))))))))))
set_option maxHeartbeats 4000000 in
set_option maxRecDepth 100000 in
theorem L_ps_chain_34 (d : Nat) {W : Nat → Int32 → Int32 → pI → pR → (pI → pR → Prop) → Prop} (hW0 : ∀ a b I R Q, pw_Lay R → W 0 a b I R Q → Cm (d + 2) m_ps_chain [.ref 108, .int a, .int b] I R (qv Q)) (hW1 : ∀ a b I R Q, pw_Lay R → W 1 a b I R Q → Cm (d + 2) m_ps_unary [.ref 108, .int a] I R (qv Q)) (hW2 : ∀ a b I R Q, pw_Lay R → W 2 a b I R Q → Cm (d + 2) m_ps_atom [.ref 108, .int a] I R (qv Q)) (hW3 : ∀ a b I R Q, pw_Lay R → W 3 a b I R Q → Cm (d + 2) m_ps_group [.ref 108, .int a] I R (qv Q)) {f1 : Int32} {f2 : Int32} {f3 : Int32} {K : pI → pR → Prop} {Q : pI → pR → Prop} {E : pE} {B : pB} (g : pw_G m_ps_chain (d + 3) 0 0 E B) (hF : pX (qv Q) E B) (hK : ∀ (I : pI) (R : pR), pw_Lay R → K  I R → PX E B m_ps_chain.2.2.1 167 [none, none, none, none, none, none, none, none, none] [] I R) : ∀ (n : Nat) (x4 : Int32) (I : pI) (R : pR), pw_Lay R → l_ps_chain_34 W f1 f2 f3 K Q n x4 I R → PX E B m_ps_chain.2.2.1 34 [some (.ref 108), some (.int f1), some (.int f2), some (.int f3), some (.int x4), none, none, none, none] [] I R := by
  intro n
  induction n with
  | zero => intro x4 I R hL h; exact False.elim h
  | succ n ih =>
    intro x4 I R hL h
    refine PW.iload g rfl d_ps_chain_34 ?_
    refine PW.iload_n g rfl rfl d_ps_chain_36 ?_
    refine PW.icmp_ge g 167 (by decide) d_ps_chain_37 (fun c3 => ?_) (fun c3 => ?_)
    · have h := h.1 c3
      refine PX.sub [none, none, none, none, none, none, none, none, none] trivial ?_
      exact hK _ _ hL h
    · have h := h.2 c3
      refine PW.aload_n g rfl rfl d_ps_chain_40 ?_
      refine PX.cVi [] [] g rfl ck_ps (c_ps_next d  hL h) cl_ps_49 (by omega) (by decide) rfl rfl (Nat.le_of_ble_eq_true rfl) d_ps_chain_41 (fun v1 I2 R2 hL h => ?_)
      refine PX.cSi [.int v1] [] g (c_sr_levelOf d  hL h) cl_ps_169 (by omega) (by decide) rfl rfl (Nat.le_of_ble_eq_true rfl) d_ps_chain_44 (fun v2 I3 R3 hL h => ?_)
      refine PW.iload_n g rfl rfl d_ps_chain_47 ?_
      refine PW.icmp_ne g 167 (by decide) d_ps_chain_48 (fun c4 => ?_) (fun c4 => ?_)
      · have h := h.1 c4
        refine PX.sub [none, none, none, none, none, none, none, none, none] trivial ?_
        exact hK _ _ hL h
      · have h := h.2 c4
        refine PW.aload_n g rfl rfl d_ps_chain_51 ?_
        refine PX.cVi [] [] g rfl ck_ps (c_ps_next d  hL h) cl_ps_49 (by omega) (by decide) rfl rfl (Nat.le_of_ble_eq_true rfl) d_ps_chain_52 (fun v3 I4 R4 hL h => ?_)
        refine PW.istore g (L' := [some (.ref 108), some (.int f1), some (.int f2), some (.int f3), some (.int x4), some (.int v3), none, none, none]) (by decide) rfl rfl d_ps_chain_55 ?_
        refine PW.aload_n g rfl rfl d_ps_chain_57 ?_
        refine PW.getR (q := 109) g fi_ps_12 rfl (hL 108 7 0 rfl (by decide)) d_ps_chain_58 ?_
        refine PW.aload_n g rfl rfl d_ps_chain_61 ?_
        refine PW.getI g fi_ps_31 rfl d_ps_chain_62 ?_
        refine PX.cVi [.int (I4 108 2)] [] g rfl ck_tk (c_tk_placeOf d  hL h) cl_ps_75 (by omega) (by decide) rfl rfl (Nat.le_of_ble_eq_true rfl) d_ps_chain_65 (fun v4 I5 R5 hL h => ?_)
        refine PW.istore g (L' := [some (.ref 108), some (.int f1), some (.int f2), some (.int f3), some (.int x4), some (.int v3), some (.int v4), none, none]) (by decide) rfl rfl d_ps_chain_68 ?_
        refine PW.aload_n g rfl rfl d_ps_chain_70 ?_
        refine PW.dup g rfl d_ps_chain_71 ?_
        refine PW.getI g fi_ps_31 rfl d_ps_chain_72 ?_
        refine PW.iconst g (1) (by decide) d_ps_chain_75 ?_
        refine PW.iadd g d_ps_chain_76 ?_
        refine PW.putI g fi_ps_31 rfl rfl rfl d_ps_chain_77 ?_
        refine PX.gI (fun I6 eI6 => ?_)
        have h := h _ eI6
        refine PW.iload_n g rfl rfl d_ps_chain_80 ?_
        refine PW.iconst g (1) (by decide) d_ps_chain_81 ?_
        refine PW.icmp_gt g 89 (by decide) d_ps_chain_82 (fun c5 => ?_) (fun c5 => ?_)
        · have h := h.1 c5
          refine PW.iconst g (0) (by decide) d_ps_chain_89 ?_
          refine PX.sub [some (.ref 108), some (.int f1), some (.int f2), some (.int f3), some (.int x4), some (.int v3), some (.int v4), none, none] ⟨rfl, ⟨rfl, ⟨rfl, ⟨rfl, ⟨rfl, ⟨rfl, ⟨rfl, trivial⟩⟩⟩⟩⟩⟩⟩ ?_
          refine J_ps_chain_90 d hW0 hW1 hW2 hW3 g hF (fun y3 I13 R12 hL h => ?_) hL h
          refine PX.sub [some (.ref 108), some (.int f1), some (.int f2), some (.int f3), some (.int y3), none, none, none, none] ⟨rfl, ⟨rfl, ⟨rfl, ⟨rfl, ⟨rfl, trivial⟩⟩⟩⟩⟩ ?_
          exact ih _ _ _ hL h
        · have h := h.2 c5
          refine PW.iconst g (1) (by decide) d_ps_chain_85 ?_
          refine PW.goto g 90 (by decide) d_ps_chain_86 ?_
          refine PX.sub [some (.ref 108), some (.int f1), some (.int f2), some (.int f3), some (.int x4), some (.int v3), some (.int v4), none, none] ⟨rfl, ⟨rfl, ⟨rfl, ⟨rfl, ⟨rfl, ⟨rfl, ⟨rfl, trivial⟩⟩⟩⟩⟩⟩⟩ ?_
          refine J_ps_chain_90 d hW0 hW1 hW2 hW3 g hF (fun y4 I14 R13 hL h => ?_) hL h
          refine PX.sub [some (.ref 108), some (.int f1), some (.int f2), some (.int f3), some (.int y4), none, none, none, none] ⟨rfl, ⟨rfl, ⟨rfl, ⟨rfl, ⟨rfl, trivial⟩⟩⟩⟩⟩ ?_
          exact ih _ _ _ hL h
def v_ps_chain (W : Nat → Int32 → Int32 → pI → pR → (pI → pR → Prop) → Prop) (a1 : Int32) (a2 : Int32) (I : pI) (R : pR) (Q : pI → pR → Prop) : Prop := ((a1 ≤ (4 : Int32) → (W 0 (a1 + (1 : Int32)) a2 I R (fun I1 R1 => ((¬ a1 = (2 : Int32) → (∃ n1, l_ps_chain_34 W a1 a2 (120 : Int32) (fun I15 R14 => Q I15 R14) Q n1 (0 : Int32) I1 R1)) ∧ (a1 = (2 : Int32) → (∃ n2, l_ps_chain_34 W a1 a2 (1 : Int32) (fun I16 R15 => Q I16 R15) Q n2 (0 : Int32) I1 R1)))))) ∧ (¬ a1 ≤ (4 : Int32) → (W 1 a2 0 I R (fun I17 R16 => Q I17 R16))))
set_option maxHeartbeats 4000000 in
set_option maxRecDepth 100000 in
theorem b_ps_chain (d : Nat) {W : Nat → Int32 → Int32 → pI → pR → (pI → pR → Prop) → Prop} (hW0 : ∀ a b I R Q, pw_Lay R → W 0 a b I R Q → Cm (d + 2) m_ps_chain [.ref 108, .int a, .int b] I R (qv Q)) (hW1 : ∀ a b I R Q, pw_Lay R → W 1 a b I R Q → Cm (d + 2) m_ps_unary [.ref 108, .int a] I R (qv Q)) (hW2 : ∀ a b I R Q, pw_Lay R → W 2 a b I R Q → Cm (d + 2) m_ps_atom [.ref 108, .int a] I R (qv Q)) (hW3 : ∀ a b I R Q, pw_Lay R → W 3 a b I R Q → Cm (d + 2) m_ps_group [.ref 108, .int a] I R (qv Q)) {a1 : Int32} {a2 : Int32} {I : pI} {R : pR} {Q : pI → pR → Prop} (hL : pw_Lay R) (h : v_ps_chain W a1 a2 I R Q) : Cm (d + 3) m_ps_chain [.ref 108, .int a1, .int a2] I R (qv Q) := by
  refine Cm.of [some (.ref 108), some (.int a1), some (.int a2), none, none, none, none, none, none] (by decide) rfl (Nat.le_of_ble_eq_true rfl) (by simp) (fun E B g hF => ?_)
  unfold v_ps_chain at h
  refine PW.iload_n g rfl rfl d_ps_chain_0 ?_
  refine PW.iconst g (4) (by decide) d_ps_chain_1 ?_
  refine PW.icmp_le g 11 (by decide) d_ps_chain_2 (fun c1 => ?_) (fun c1 => ?_)
  · have h := h.1 c1
    refine PW.aload_n g rfl rfl d_ps_chain_11 ?_
    refine PW.iload_n g rfl rfl d_ps_chain_12 ?_
    refine PW.iconst g (1) (by decide) d_ps_chain_13 ?_
    refine PW.iadd g d_ps_chain_14 ?_
    refine PW.iload_n g rfl rfl d_ps_chain_15 ?_
    refine PX.cVv [.int (a1 + (1 : Int32)), .int a2] [] g rfl ck_ps (hW0 _ _ _ _ _ hL h) cl_ps_122 (by omega) (by decide) rfl rfl (Nat.le_of_ble_eq_true rfl) d_ps_chain_16 (fun I1 R1 hL h => ?_)
    refine PW.iload_n g rfl rfl d_ps_chain_19 ?_
    refine PW.iconst g (2) (by decide) d_ps_chain_20 ?_
    refine PW.icmp_ne g 28 (by decide) d_ps_chain_21 (fun c2 => ?_) (fun c2 => ?_)
    · have h := h.1 c2
      refine PW.bipush g (120) (by decide) d_ps_chain_28 ?_
      refine PW.istore_n g rfl (L' := [some (.ref 108), some (.int a1), some (.int a2), some (.int (120 : Int32)), none, none, none, none, none]) (by decide) rfl rfl d_ps_chain_30 ?_
      refine PW.iconst g (0) (by decide) d_ps_chain_31 ?_
      refine PW.istore g (L' := [some (.ref 108), some (.int a1), some (.int a2), some (.int (120 : Int32)), some (.int (0 : Int32)), none, none, none, none]) (by decide) rfl rfl d_ps_chain_32 ?_
      refine PX.sub [some (.ref 108), some (.int a1), some (.int a2), some (.int (120 : Int32)), some (.int (0 : Int32)), none, none, none, none] ⟨rfl, ⟨rfl, ⟨rfl, ⟨rfl, ⟨rfl, trivial⟩⟩⟩⟩⟩ ?_
      obtain ⟨n1, h⟩ := h
      refine L_ps_chain_34 d hW0 hW1 hW2 hW3 g hF (fun I15 R14 hL h => ?_) n1 (0 : Int32) I1 R1 hL h
      exact PX.vret g hF rfl d_ps_chain_167 hL h
    · have h := h.2 c2
      refine PW.iconst g (1) (by decide) d_ps_chain_24 ?_
      refine PW.goto g 30 (by decide) d_ps_chain_25 ?_
      refine PW.istore_n g rfl (L' := [some (.ref 108), some (.int a1), some (.int a2), some (.int (1 : Int32)), none, none, none, none, none]) (by decide) rfl rfl d_ps_chain_30 ?_
      refine PW.iconst g (0) (by decide) d_ps_chain_31 ?_
      refine PW.istore g (L' := [some (.ref 108), some (.int a1), some (.int a2), some (.int (1 : Int32)), some (.int (0 : Int32)), none, none, none, none]) (by decide) rfl rfl d_ps_chain_32 ?_
      refine PX.sub [some (.ref 108), some (.int a1), some (.int a2), some (.int (1 : Int32)), some (.int (0 : Int32)), none, none, none, none] ⟨rfl, ⟨rfl, ⟨rfl, ⟨rfl, ⟨rfl, trivial⟩⟩⟩⟩⟩ ?_
      obtain ⟨n2, h⟩ := h
      refine L_ps_chain_34 d hW0 hW1 hW2 hW3 g hF (fun I16 R15 hL h => ?_) n2 (0 : Int32) I1 R1 hL h
      exact PX.vret g hF rfl d_ps_chain_167 hL h
  · have h := h.2 c1
    refine PW.aload_n g rfl rfl d_ps_chain_5 ?_
    refine PW.iload_n g rfl rfl d_ps_chain_6 ?_
    refine PX.cVv [.int a2] [] g rfl ck_ps (hW1 _ _ _ _ _ hL h) cl_ps_166 (by omega) (by decide) rfl rfl (Nat.le_of_ble_eq_true rfl) d_ps_chain_7 (fun I17 R16 hL h => ?_)
    exact PX.vret g hF rfl d_ps_chain_10 hL h
def j_ps_unary_25 (W : Nat → Int32 → Int32 → pI → pR → (pI → pR → Prop) → Prop) (Q : pI → pR → Prop) (x1 : Int32) (x2 : Int32) (I : pI) (R : pR) : Prop := ((x1 < (4 : Int32) → (w_tk_placeOf (I 108 2) I R (fun v2 I2 R2 => (∀ I3, I3 = pw_wI I2 108 2 ((I2 108 2) + (1 : Int32)) → (W 1 (x1 + (1 : Int32)) 0 I3 R2 (fun I4 R3 => (∃ q1, R3 108 1 = some q1 ∧ pSH[q1]? = some (0, 5) ∧ ((¬ x2 = (45 : Int32) → (w_cd_add (q1 + 2) (3 : Int32) (0 : Int32) v2 I4 R3 (fun v3 I5 R4 => Q I5 R4))) ∧ (x2 = (45 : Int32) → (w_cd_add (q1 + 2) (2 : Int32) (0 : Int32) v2 I4 R3 (fun v4 I6 R5 => Q I6 R5))))))))))) ∧ (¬ x1 < (4 : Int32) → (w_ps_fail  I R (fun I7 R6 => Q I7 R6))))
set_option maxHeartbeats 4000000 in
set_option maxRecDepth 100000 in
theorem J_ps_unary_25 (d : Nat) {W : Nat → Int32 → Int32 → pI → pR → (pI → pR → Prop) → Prop} (hW0 : ∀ a b I R Q, pw_Lay R → W 0 a b I R Q → Cm (d + 2) m_ps_chain [.ref 108, .int a, .int b] I R (qv Q)) (hW1 : ∀ a b I R Q, pw_Lay R → W 1 a b I R Q → Cm (d + 2) m_ps_unary [.ref 108, .int a] I R (qv Q)) (hW2 : ∀ a b I R Q, pw_Lay R → W 2 a b I R Q → Cm (d + 2) m_ps_atom [.ref 108, .int a] I R (qv Q)) (hW3 : ∀ a b I R Q, pw_Lay R → W 3 a b I R Q → Cm (d + 2) m_ps_group [.ref 108, .int a] I R (qv Q)) {Q : pI → pR → Prop} {x1 : Int32} {x2 : Int32} {E : pE} {B : pB} (g : pw_G m_ps_unary (d + 3) 0 0 E B) (hF : pX (qv Q) E B) {I : pI} {R : pR} (hL : pw_Lay R) (h : j_ps_unary_25 W Q x1 x2 I R) : PX E B m_ps_unary.2.2.1 25 [some (.ref 108), some (.int x1), some (.int x2), none] [] I R := by
  unfold j_ps_unary_25 at h
  refine PW.iload_n g rfl rfl d_ps_unary_25 ?_
  refine PW.iconst g (4) (by decide) d_ps_unary_26 ?_
  refine PW.icmp_lt g 37 (by decide) d_ps_unary_27 (fun c2 => ?_) (fun c2 => ?_)
  · have h := h.1 c2
    refine PW.aload_n g rfl rfl d_ps_unary_37 ?_
    refine PW.getR (q := 109) g fi_ps_12 rfl (hL 108 7 0 rfl (by decide)) d_ps_unary_38 ?_
    refine PW.aload_n g rfl rfl d_ps_unary_41 ?_
    refine PW.getI g fi_ps_31 rfl d_ps_unary_42 ?_
    refine PX.cVi [.int (I 108 2)] [] g rfl ck_tk (c_tk_placeOf d  hL h) cl_ps_75 (by omega) (by decide) rfl rfl (Nat.le_of_ble_eq_true rfl) d_ps_unary_45 (fun v2 I2 R2 hL h => ?_)
    refine PW.istore_n g rfl (L' := [some (.ref 108), some (.int x1), some (.int x2), some (.int v2)]) (by decide) rfl rfl d_ps_unary_48 ?_
    refine PW.aload_n g rfl rfl d_ps_unary_49 ?_
    refine PW.dup g rfl d_ps_unary_50 ?_
    refine PW.getI g fi_ps_31 rfl d_ps_unary_51 ?_
    refine PW.iconst g (1) (by decide) d_ps_unary_54 ?_
    refine PW.iadd g d_ps_unary_55 ?_
    refine PW.putI g fi_ps_31 rfl rfl rfl d_ps_unary_56 ?_
    refine PX.gI (fun I3 eI3 => ?_)
    have h := h _ eI3
    refine PW.aload_n g rfl rfl d_ps_unary_59 ?_
    refine PW.iload_n g rfl rfl d_ps_unary_60 ?_
    refine PW.iconst g (1) (by decide) d_ps_unary_61 ?_
    refine PW.iadd g d_ps_unary_62 ?_
    refine PX.cVv [.int (x1 + (1 : Int32))] [] g rfl ck_ps (hW1 _ _ _ _ _ hL h) cl_ps_166 (by omega) (by decide) rfl rfl (Nat.le_of_ble_eq_true rfl) d_ps_unary_63 (fun I4 R3 hL h => ?_)
    refine PW.aload_n g rfl rfl d_ps_unary_66 ?_
    obtain ⟨q1, eq1, hq1, h⟩ := h
    refine PW.getR (q := q1) g fi_ps_18 rfl eq1 d_ps_unary_67 ?_
    refine PW.getR (q := (q1 + 2)) g fi_ps_79 hq1 (hL q1 5 1 hq1 (by decide)) d_ps_unary_70 ?_
    refine PW.iload_n g rfl rfl d_ps_unary_73 ?_
    refine PW.bipush g (45) (by decide) d_ps_unary_74 ?_
    refine PW.icmp_ne g 83 (by decide) d_ps_unary_76 (fun c3 => ?_) (fun c3 => ?_)
    · have h := h.1 c3
      refine PW.iconst g (3) (by decide) d_ps_unary_83 ?_
      refine PW.iconst g (0) (by decide) d_ps_unary_84 ?_
      refine PW.iload_n g rfl rfl d_ps_unary_85 ?_
      refine PX.cVi [.int (3 : Int32), .int (0 : Int32), .int v2] [] g (pw_shp hq1 1 (by decide)) ck_cd (c_cd_add d (pw_shp hq1 1 (by decide)) hL h) cl_ps_172 (by omega) (by decide) rfl rfl (Nat.le_of_ble_eq_true rfl) d_ps_unary_86 (fun v3 I5 R4 hL h => ?_)
      refine PW.pop g rfl d_ps_unary_89 ?_
      exact PX.vret g hF rfl d_ps_unary_90 hL h
    · have h := h.2 c3
      refine PW.iconst g (2) (by decide) d_ps_unary_79 ?_
      refine PW.goto g 84 (by decide) d_ps_unary_80 ?_
      refine PW.iconst g (0) (by decide) d_ps_unary_84 ?_
      refine PW.iload_n g rfl rfl d_ps_unary_85 ?_
      refine PX.cVi [.int (2 : Int32), .int (0 : Int32), .int v2] [] g (pw_shp hq1 1 (by decide)) ck_cd (c_cd_add d (pw_shp hq1 1 (by decide)) hL h) cl_ps_172 (by omega) (by decide) rfl rfl (Nat.le_of_ble_eq_true rfl) d_ps_unary_86 (fun v4 I6 R5 hL h => ?_)
      refine PW.pop g rfl d_ps_unary_89 ?_
      exact PX.vret g hF rfl d_ps_unary_90 hL h
  · have h := h.2 c2
    refine PW.aload_n g rfl rfl d_ps_unary_30 ?_
    refine PX.cVv [] [] g rfl ck_ps (c_ps_fail d  hL h) cl_ps_56 (by omega) (by decide) rfl rfl (Nat.le_of_ble_eq_true rfl) d_ps_unary_31 (fun I7 R6 hL h => ?_)
    refine PW.goto g 90 (by decide) d_ps_unary_34 ?_
    exact PX.vret g hF rfl d_ps_unary_90 hL h
def v_ps_unary (W : Nat → Int32 → Int32 → pI → pR → (pI → pR → Prop) → Prop) (a1 : Int32) (I : pI) (R : pR) (Q : pI → pR → Prop) : Prop := (w_ps_next  I R (fun v1 I1 R1 => ((v1 = (45 : Int32) → (j_ps_unary_25 W Q a1 v1 I1 R1)) ∧ (¬ v1 = (45 : Int32) → ((v1 = (33 : Int32) → (j_ps_unary_25 W Q a1 v1 I1 R1)) ∧ (¬ v1 = (33 : Int32) → (W 2 a1 0 I1 R1 (fun I8 R7 => Q I8 R7))))))))
set_option maxHeartbeats 4000000 in
set_option maxRecDepth 100000 in
theorem b_ps_unary (d : Nat) {W : Nat → Int32 → Int32 → pI → pR → (pI → pR → Prop) → Prop} (hW0 : ∀ a b I R Q, pw_Lay R → W 0 a b I R Q → Cm (d + 2) m_ps_chain [.ref 108, .int a, .int b] I R (qv Q)) (hW1 : ∀ a b I R Q, pw_Lay R → W 1 a b I R Q → Cm (d + 2) m_ps_unary [.ref 108, .int a] I R (qv Q)) (hW2 : ∀ a b I R Q, pw_Lay R → W 2 a b I R Q → Cm (d + 2) m_ps_atom [.ref 108, .int a] I R (qv Q)) (hW3 : ∀ a b I R Q, pw_Lay R → W 3 a b I R Q → Cm (d + 2) m_ps_group [.ref 108, .int a] I R (qv Q)) {a1 : Int32} {I : pI} {R : pR} {Q : pI → pR → Prop} (hL : pw_Lay R) (h : v_ps_unary W a1 I R Q) : Cm (d + 3) m_ps_unary [.ref 108, .int a1] I R (qv Q) := by
  refine Cm.of [some (.ref 108), some (.int a1), none, none] (by decide) rfl (Nat.le_of_ble_eq_true rfl) (by simp) (fun E B g hF => ?_)
  unfold v_ps_unary at h
  refine PW.aload_n g rfl rfl d_ps_unary_0 ?_
  refine PX.cVi [] [] g rfl ck_ps (c_ps_next d  hL h) cl_ps_49 (by omega) (by decide) rfl rfl (Nat.le_of_ble_eq_true rfl) d_ps_unary_1 (fun v1 I1 R1 hL h => ?_)
  refine PW.istore_n g rfl (L' := [some (.ref 108), some (.int a1), some (.int v1), none]) (by decide) rfl rfl d_ps_unary_4 ?_
  refine PW.iload_n g rfl rfl d_ps_unary_5 ?_
  refine PW.bipush g (45) (by decide) d_ps_unary_6 ?_
  refine PW.icmp_eq g 25 (by decide) d_ps_unary_8 (fun c1 => ?_) (fun c1 => ?_)
  · have h := h.1 c1
    refine PX.sub [some (.ref 108), some (.int a1), some (.int v1), none] ⟨rfl, ⟨rfl, ⟨rfl, trivial⟩⟩⟩ ?_
    exact J_ps_unary_25 d hW0 hW1 hW2 hW3 g hF hL h
  · have h := h.2 c1
    refine PW.iload_n g rfl rfl d_ps_unary_11 ?_
    refine PW.bipush g (33) (by decide) d_ps_unary_12 ?_
    refine PW.icmp_eq g 25 (by decide) d_ps_unary_14 (fun c4 => ?_) (fun c4 => ?_)
    · have h := h.1 c4
      refine PX.sub [some (.ref 108), some (.int a1), some (.int v1), none] ⟨rfl, ⟨rfl, ⟨rfl, trivial⟩⟩⟩ ?_
      exact J_ps_unary_25 d hW0 hW1 hW2 hW3 g hF hL h
    · have h := h.2 c4
      refine PW.aload_n g rfl rfl d_ps_unary_17 ?_
      refine PW.iload_n g rfl rfl d_ps_unary_18 ?_
      refine PX.cVv [.int a1] [] g rfl ck_ps (hW2 _ _ _ _ _ hL h) cl_ps_176 (by omega) (by decide) rfl rfl (Nat.le_of_ble_eq_true rfl) d_ps_unary_19 (fun I8 R7 hL h => ?_)
      refine PW.goto g 90 (by decide) d_ps_unary_22 ?_
      exact PX.vret g hF rfl d_ps_unary_90 hL h
def j_ps_atom_100 (W : Nat → Int32 → Int32 → pI → pR → (pI → pR → Prop) → Prop) (Q : pI → pR → Prop) (x1 : Int32) (x2 : Int32) (x3 : Int32) (I : pI) (R : pR) : Prop := (∀ I3, I3 = pw_wI I 108 2 ((I 108 2) + (1 : Int32)) → (W 3 x1 0 I3 R (fun I4 R3 => (∃ q1, R3 108 1 = some q1 ∧ pSH[q1]? = some (0, 5) ∧ ((¬ x3 = (78 : Int32) → (w_cd_add (q1 + 2) (4 : Int32) (0 : Int32) x2 I4 R3 (fun v3 I5 R4 => Q I5 R4))) ∧ (x3 = (78 : Int32) → (w_cd_add (q1 + 2) (4 : Int32) (1 : Int32) x2 I4 R3 (fun v4 I6 R5 => Q I6 R5))))))))
set_option maxHeartbeats 4000000 in
set_option maxRecDepth 100000 in
theorem J_ps_atom_100 (d : Nat) {W : Nat → Int32 → Int32 → pI → pR → (pI → pR → Prop) → Prop} (hW0 : ∀ a b I R Q, pw_Lay R → W 0 a b I R Q → Cm (d + 2) m_ps_chain [.ref 108, .int a, .int b] I R (qv Q)) (hW1 : ∀ a b I R Q, pw_Lay R → W 1 a b I R Q → Cm (d + 2) m_ps_unary [.ref 108, .int a] I R (qv Q)) (hW2 : ∀ a b I R Q, pw_Lay R → W 2 a b I R Q → Cm (d + 2) m_ps_atom [.ref 108, .int a] I R (qv Q)) (hW3 : ∀ a b I R Q, pw_Lay R → W 3 a b I R Q → Cm (d + 2) m_ps_group [.ref 108, .int a] I R (qv Q)) {Q : pI → pR → Prop} {x1 : Int32} {x2 : Int32} {x3 : Int32} {E : pE} {B : pB} (g : pw_G m_ps_atom (d + 3) 0 0 E B) (hF : pX (qv Q) E B) {I : pI} {R : pR} (hL : pw_Lay R) (h : j_ps_atom_100 W Q x1 x2 x3 I R) : PX E B m_ps_atom.2.2.1 100 [some (.ref 108), some (.int x1), some (.int x2), some (.int x3), none] [] I R := by
  unfold j_ps_atom_100 at h
  refine PW.aload_n g rfl rfl d_ps_atom_100 ?_
  refine PW.dup g rfl d_ps_atom_101 ?_
  refine PW.getI g fi_ps_31 rfl d_ps_atom_102 ?_
  refine PW.iconst g (1) (by decide) d_ps_atom_105 ?_
  refine PW.iadd g d_ps_atom_106 ?_
  refine PW.putI g fi_ps_31 rfl rfl rfl d_ps_atom_107 ?_
  refine PX.gI (fun I3 eI3 => ?_)
  have h := h _ eI3
  refine PW.aload_n g rfl rfl d_ps_atom_110 ?_
  refine PW.iload_n g rfl rfl d_ps_atom_111 ?_
  refine PX.cVv [.int x1] [] g rfl ck_ps (hW3 _ _ _ _ _ hL h) cl_ps_179 (by omega) (by decide) rfl rfl (Nat.le_of_ble_eq_true rfl) d_ps_atom_112 (fun I4 R3 hL h => ?_)
  refine PW.aload_n g rfl rfl d_ps_atom_115 ?_
  obtain ⟨q1, eq1, hq1, h⟩ := h
  refine PW.getR (q := q1) g fi_ps_18 rfl eq1 d_ps_atom_116 ?_
  refine PW.getR (q := (q1 + 2)) g fi_ps_79 hq1 (hL q1 5 1 hq1 (by decide)) d_ps_atom_119 ?_
  refine PW.iconst g (4) (by decide) d_ps_atom_122 ?_
  refine PW.iload_n g rfl rfl d_ps_atom_123 ?_
  refine PW.bipush g (78) (by decide) d_ps_atom_124 ?_
  refine PW.icmp_ne g 133 (by decide) d_ps_atom_126 (fun c4 => ?_) (fun c4 => ?_)
  · have h := h.1 c4
    refine PW.iconst g (0) (by decide) d_ps_atom_133 ?_
    refine PW.iload_n g rfl rfl d_ps_atom_134 ?_
    refine PX.cVi [.int (4 : Int32), .int (0 : Int32), .int x2] [] g (pw_shp hq1 1 (by decide)) ck_cd (c_cd_add d (pw_shp hq1 1 (by decide)) hL h) cl_ps_172 (by omega) (by decide) rfl rfl (Nat.le_of_ble_eq_true rfl) d_ps_atom_135 (fun v3 I5 R4 hL h => ?_)
    refine PW.pop g rfl d_ps_atom_138 ?_
    refine PW.goto g 215 (by decide) d_ps_atom_139 ?_
    exact PX.vret g hF rfl d_ps_atom_215 hL h
  · have h := h.2 c4
    refine PW.iconst g (1) (by decide) d_ps_atom_129 ?_
    refine PW.goto g 134 (by decide) d_ps_atom_130 ?_
    refine PW.iload_n g rfl rfl d_ps_atom_134 ?_
    refine PX.cVi [.int (4 : Int32), .int (1 : Int32), .int x2] [] g (pw_shp hq1 1 (by decide)) ck_cd (c_cd_add d (pw_shp hq1 1 (by decide)) hL h) cl_ps_172 (by omega) (by decide) rfl rfl (Nat.le_of_ble_eq_true rfl) d_ps_atom_135 (fun v4 I6 R5 hL h => ?_)
    refine PW.pop g rfl d_ps_atom_138 ?_
    refine PW.goto g 215 (by decide) d_ps_atom_139 ?_
    exact PX.vret g hF rfl d_ps_atom_215 hL h
def v_ps_atom (W : Nat → Int32 → Int32 → pI → pR → (pI → pR → Prop) → Prop) (a1 : Int32) (I : pI) (R : pR) (Q : pI → pR → Prop) : Prop := (w_tk_placeOf (I 108 2) I R (fun v1 I1 R1 => (w_ps_next  I1 R1 (fun v2 I2 R2 => ((¬ v2 = (258 : Int32) → ((¬ v2 = (259 : Int32) → ((v2 = (77 : Int32) → (j_ps_atom_100 W Q a1 v1 v2 I2 R2)) ∧ (¬ v2 = (77 : Int32) → ((¬ v2 = (78 : Int32) → ((¬ v2 = (79 : Int32) → (W 3 a1 0 I2 R2 (fun I7 R6 => Q I7 R6))) ∧ (v2 = (79 : Int32) → (((I2 108 4) = 0 → (W 3 a1 0 I2 R2 (fun I8 R7 => Q I8 R7))) ∧ (¬ (I2 108 4) = 0 → (∀ I9, I9 = pw_wI I2 108 2 ((I2 108 2) + (1 : Int32)) → (∃ q2, R2 108 1 = some q2 ∧ pSH[q2]? = some (0, 5) ∧ (w_cd_add (q2 + 2) (5 : Int32) (0 : Int32) v1 I9 R2 (fun v5 I10 R8 => (∀ I11, I11 = pw_wI I10 108 4 (0 : Int32) → (W 3 a1 0 I11 R8 (fun I12 R9 => (∀ I13, I13 = pw_wI I12 108 4 (1 : Int32) → (∃ q3, R9 108 1 = some q3 ∧ pSH[q3]? = some (0, 5) ∧ (w_cd_aim (q3 + 2) v5 I13 R9 (fun I14 R10 => Q I14 R10)))))))))))))))) ∧ (v2 = (78 : Int32) → (j_ps_atom_100 W Q a1 v1 v2 I2 R2)))))) ∧ (v2 = (259 : Int32) → (∃ q4, R2 108 1 = some q4 ∧ pSH[q4]? = some (0, 5) ∧ (w_tk_numberOf (I2 108 2) I2 R2 (fun v7 I15 R11 => (w_cd_add (q4 + 2) (1 : Int32) v7 v1 I15 R11 (fun v8 I16 R12 => (∀ I17, I17 = pw_wI I16 108 2 ((I16 108 2) + (1 : Int32)) → Q I17 R12))))))))) ∧ (v2 = (258 : Int32) → (∃ q5, R2 108 1 = some q5 ∧ pSH[q5]? = some (0, 5) ∧ (w_ps_number  I2 R2 (fun v9 I18 R13 => (w_cd_add (q5 + 2) (0 : Int32) v9 v1 I18 R13 (fun v10 I19 R14 => Q I19 R14)))))))))))
set_option maxHeartbeats 4000000 in
set_option maxRecDepth 100000 in
theorem b_ps_atom (d : Nat) {W : Nat → Int32 → Int32 → pI → pR → (pI → pR → Prop) → Prop} (hW0 : ∀ a b I R Q, pw_Lay R → W 0 a b I R Q → Cm (d + 2) m_ps_chain [.ref 108, .int a, .int b] I R (qv Q)) (hW1 : ∀ a b I R Q, pw_Lay R → W 1 a b I R Q → Cm (d + 2) m_ps_unary [.ref 108, .int a] I R (qv Q)) (hW2 : ∀ a b I R Q, pw_Lay R → W 2 a b I R Q → Cm (d + 2) m_ps_atom [.ref 108, .int a] I R (qv Q)) (hW3 : ∀ a b I R Q, pw_Lay R → W 3 a b I R Q → Cm (d + 2) m_ps_group [.ref 108, .int a] I R (qv Q)) {a1 : Int32} {I : pI} {R : pR} {Q : pI → pR → Prop} (hL : pw_Lay R) (h : v_ps_atom W a1 I R Q) : Cm (d + 3) m_ps_atom [.ref 108, .int a1] I R (qv Q) := by
  refine Cm.of [some (.ref 108), some (.int a1), none, none, none] (by decide) rfl (Nat.le_of_ble_eq_true rfl) (by simp) (fun E B g hF => ?_)
  unfold v_ps_atom at h
  refine PW.aload_n g rfl rfl d_ps_atom_0 ?_
  refine PW.getR (q := 109) g fi_ps_12 rfl (hL 108 7 0 rfl (by decide)) d_ps_atom_1 ?_
  refine PW.aload_n g rfl rfl d_ps_atom_4 ?_
  refine PW.getI g fi_ps_31 rfl d_ps_atom_5 ?_
  refine PX.cVi [.int (I 108 2)] [] g rfl ck_tk (c_tk_placeOf d  hL h) cl_ps_75 (by omega) (by decide) rfl rfl (Nat.le_of_ble_eq_true rfl) d_ps_atom_8 (fun v1 I1 R1 hL h => ?_)
  refine PW.istore_n g rfl (L' := [some (.ref 108), some (.int a1), some (.int v1), none, none]) (by decide) rfl rfl d_ps_atom_11 ?_
  refine PW.aload_n g rfl rfl d_ps_atom_12 ?_
  refine PX.cVi [] [] g rfl ck_ps (c_ps_next d  hL h) cl_ps_49 (by omega) (by decide) rfl rfl (Nat.le_of_ble_eq_true rfl) d_ps_atom_13 (fun v2 I2 R2 hL h => ?_)
  refine PW.istore_n g rfl (L' := [some (.ref 108), some (.int a1), some (.int v1), some (.int v2), none]) (by decide) rfl rfl d_ps_atom_16 ?_
  refine PW.iload_n g rfl rfl d_ps_atom_17 ?_
  refine PW.sipush g (258) (by decide) d_ps_atom_18 ?_
  refine PW.icmp_ne g 44 (by decide) d_ps_atom_21 (fun c1 => ?_) (fun c1 => ?_)
  · have h := h.1 c1
    refine PW.iload_n g rfl rfl d_ps_atom_44 ?_
    refine PW.sipush g (259) (by decide) d_ps_atom_45 ?_
    refine PW.icmp_ne g 88 (by decide) d_ps_atom_48 (fun c2 => ?_) (fun c2 => ?_)
    · have h := h.1 c2
      refine PW.iload_n g rfl rfl d_ps_atom_88 ?_
      refine PW.bipush g (77) (by decide) d_ps_atom_89 ?_
      refine PW.icmp_eq g 100 (by decide) d_ps_atom_91 (fun c3 => ?_) (fun c3 => ?_)
      · have h := h.1 c3
        refine PX.sub [some (.ref 108), some (.int a1), some (.int v1), some (.int v2), none] ⟨rfl, ⟨rfl, ⟨rfl, ⟨rfl, trivial⟩⟩⟩⟩ ?_
        exact J_ps_atom_100 d hW0 hW1 hW2 hW3 g hF hL h
      · have h := h.2 c3
        refine PW.iload_n g rfl rfl d_ps_atom_94 ?_
        refine PW.bipush g (78) (by decide) d_ps_atom_95 ?_
        refine PW.icmp_ne g 142 (by decide) d_ps_atom_97 (fun c5 => ?_) (fun c5 => ?_)
        · have h := h.1 c5
          refine PW.iload_n g rfl rfl d_ps_atom_142 ?_
          refine PW.bipush g (79) (by decide) d_ps_atom_143 ?_
          refine PW.icmp_ne g 210 (by decide) d_ps_atom_145 (fun c6 => ?_) (fun c6 => ?_)
          · have h := h.1 c6
            refine PW.aload_n g rfl rfl d_ps_atom_210 ?_
            refine PW.iload_n g rfl rfl d_ps_atom_211 ?_
            refine PX.cVv [.int a1] [] g rfl ck_ps (hW3 _ _ _ _ _ hL h) cl_ps_179 (by omega) (by decide) rfl rfl (Nat.le_of_ble_eq_true rfl) d_ps_atom_212 (fun I7 R6 hL h => ?_)
            exact PX.vret g hF rfl d_ps_atom_215 hL h
          · have h := h.2 c6
            refine PW.aload_n g rfl rfl d_ps_atom_148 ?_
            refine PW.getI g fi_ps_94 rfl d_ps_atom_149 ?_
            refine PW.if_eq g 210 (by decide) d_ps_atom_152 (fun c7 => ?_) (fun c7 => ?_)
            · have h := h.1 c7
              refine PW.aload_n g rfl rfl d_ps_atom_210 ?_
              refine PW.iload_n g rfl rfl d_ps_atom_211 ?_
              refine PX.cVv [.int a1] [] g rfl ck_ps (hW3 _ _ _ _ _ hL h) cl_ps_179 (by omega) (by decide) rfl rfl (Nat.le_of_ble_eq_true rfl) d_ps_atom_212 (fun I8 R7 hL h => ?_)
              exact PX.vret g hF rfl d_ps_atom_215 hL h
            · have h := h.2 c7
              refine PW.aload_n g rfl rfl d_ps_atom_155 ?_
              refine PW.dup g rfl d_ps_atom_156 ?_
              refine PW.getI g fi_ps_31 rfl d_ps_atom_157 ?_
              refine PW.iconst g (1) (by decide) d_ps_atom_160 ?_
              refine PW.iadd g d_ps_atom_161 ?_
              refine PW.putI g fi_ps_31 rfl rfl rfl d_ps_atom_162 ?_
              refine PX.gI (fun I9 eI9 => ?_)
              have h := h _ eI9
              refine PW.aload_n g rfl rfl d_ps_atom_165 ?_
              obtain ⟨q2, eq2, hq2, h⟩ := h
              refine PW.getR (q := q2) g fi_ps_18 rfl eq2 d_ps_atom_166 ?_
              refine PW.getR (q := (q2 + 2)) g fi_ps_79 hq2 (hL q2 5 1 hq2 (by decide)) d_ps_atom_169 ?_
              refine PW.iconst g (5) (by decide) d_ps_atom_172 ?_
              refine PW.iconst g (0) (by decide) d_ps_atom_173 ?_
              refine PW.iload_n g rfl rfl d_ps_atom_174 ?_
              refine PX.cVi [.int (5 : Int32), .int (0 : Int32), .int v1] [] g (pw_shp hq2 1 (by decide)) ck_cd (c_cd_add d (pw_shp hq2 1 (by decide)) hL h) cl_ps_172 (by omega) (by decide) rfl rfl (Nat.le_of_ble_eq_true rfl) d_ps_atom_175 (fun v5 I10 R8 hL h => ?_)
              refine PW.istore g (L' := [some (.ref 108), some (.int a1), some (.int v1), some (.int v2), some (.int v5)]) (by decide) rfl rfl d_ps_atom_178 ?_
              refine PW.aload_n g rfl rfl d_ps_atom_180 ?_
              refine PW.iconst g (0) (by decide) d_ps_atom_181 ?_
              refine PW.putI g fi_ps_94 rfl (pw_nb (Or.inl rfl)) (pw_fb (Or.inl rfl)) d_ps_atom_182 ?_
              refine PX.gI (fun I11 eI11 => ?_)
              have h := h _ eI11
              refine PW.aload_n g rfl rfl d_ps_atom_185 ?_
              refine PW.iload_n g rfl rfl d_ps_atom_186 ?_
              refine PX.cVv [.int a1] [] g rfl ck_ps (hW3 _ _ _ _ _ hL h) cl_ps_179 (by omega) (by decide) rfl rfl (Nat.le_of_ble_eq_true rfl) d_ps_atom_187 (fun I12 R9 hL h => ?_)
              refine PW.aload_n g rfl rfl d_ps_atom_190 ?_
              refine PW.iconst g (1) (by decide) d_ps_atom_191 ?_
              refine PW.putI g fi_ps_94 rfl (pw_nb (Or.inr rfl)) (pw_fb (Or.inr rfl)) d_ps_atom_192 ?_
              refine PX.gI (fun I13 eI13 => ?_)
              have h := h _ eI13
              refine PW.aload_n g rfl rfl d_ps_atom_195 ?_
              obtain ⟨q3, eq3, hq3, h⟩ := h
              refine PW.getR (q := q3) g fi_ps_18 rfl eq3 d_ps_atom_196 ?_
              refine PW.getR (q := (q3 + 2)) g fi_ps_79 hq3 (hL q3 5 1 hq3 (by decide)) d_ps_atom_199 ?_
              refine PW.iload g rfl d_ps_atom_202 ?_
              refine PX.cVv [.int v5] [] g (pw_shp hq3 1 (by decide)) ck_cd (c_cd_aim d (pw_shp hq3 1 (by decide)) hL h) cl_ps_174 (by omega) (by decide) rfl rfl (Nat.le_of_ble_eq_true rfl) d_ps_atom_204 (fun I14 R10 hL h => ?_)
              refine PW.goto g 215 (by decide) d_ps_atom_207 ?_
              exact PX.vret g hF rfl d_ps_atom_215 hL h
        · have h := h.2 c5
          refine PX.sub [some (.ref 108), some (.int a1), some (.int v1), some (.int v2), none] ⟨rfl, ⟨rfl, ⟨rfl, ⟨rfl, trivial⟩⟩⟩⟩ ?_
          exact J_ps_atom_100 d hW0 hW1 hW2 hW3 g hF hL h
    · have h := h.2 c2
      refine PW.aload_n g rfl rfl d_ps_atom_51 ?_
      obtain ⟨q4, eq4, hq4, h⟩ := h
      refine PW.getR (q := q4) g fi_ps_18 rfl eq4 d_ps_atom_52 ?_
      refine PW.getR (q := (q4 + 2)) g fi_ps_79 hq4 (hL q4 5 1 hq4 (by decide)) d_ps_atom_55 ?_
      refine PW.iconst g (1) (by decide) d_ps_atom_58 ?_
      refine PW.aload_n g rfl rfl d_ps_atom_59 ?_
      refine PW.getR (q := 109) g fi_ps_12 rfl (hL 108 7 0 rfl (by decide)) d_ps_atom_60 ?_
      refine PW.aload_n g rfl rfl d_ps_atom_63 ?_
      refine PW.getI g fi_ps_31 rfl d_ps_atom_64 ?_
      refine PX.cVi [.int (I2 108 2)] [.int (1 : Int32), .ref (q4 + 2)] g rfl ck_tk (c_tk_numberOf d  hL h) cl_ps_119 (by omega) (by decide) rfl rfl (Nat.le_of_ble_eq_true rfl) d_ps_atom_67 (fun v7 I15 R11 hL h => ?_)
      refine PW.iload_n g rfl rfl d_ps_atom_70 ?_
      refine PX.cVi [.int (1 : Int32), .int v7, .int v1] [] g (pw_shp hq4 1 (by decide)) ck_cd (c_cd_add d (pw_shp hq4 1 (by decide)) hL h) cl_ps_172 (by omega) (by decide) rfl rfl (Nat.le_of_ble_eq_true rfl) d_ps_atom_71 (fun v8 I16 R12 hL h => ?_)
      refine PW.pop g rfl d_ps_atom_74 ?_
      refine PW.aload_n g rfl rfl d_ps_atom_75 ?_
      refine PW.dup g rfl d_ps_atom_76 ?_
      refine PW.getI g fi_ps_31 rfl d_ps_atom_77 ?_
      refine PW.iconst g (1) (by decide) d_ps_atom_80 ?_
      refine PW.iadd g d_ps_atom_81 ?_
      refine PW.putI g fi_ps_31 rfl rfl rfl d_ps_atom_82 ?_
      refine PX.gI (fun I17 eI17 => ?_)
      have h := h _ eI17
      refine PW.goto g 215 (by decide) d_ps_atom_85 ?_
      exact PX.vret g hF rfl d_ps_atom_215 hL h
  · have h := h.2 c1
    refine PW.aload_n g rfl rfl d_ps_atom_24 ?_
    obtain ⟨q5, eq5, hq5, h⟩ := h
    refine PW.getR (q := q5) g fi_ps_18 rfl eq5 d_ps_atom_25 ?_
    refine PW.getR (q := (q5 + 2)) g fi_ps_79 hq5 (hL q5 5 1 hq5 (by decide)) d_ps_atom_28 ?_
    refine PW.iconst g (0) (by decide) d_ps_atom_31 ?_
    refine PW.aload_n g rfl rfl d_ps_atom_32 ?_
    refine PX.cVi [] [.int (0 : Int32), .ref (q5 + 2)] g rfl ck_ps (c_ps_number d  hL h) cl_ps_137 (by omega) (by decide) rfl rfl (Nat.le_of_ble_eq_true rfl) d_ps_atom_33 (fun v9 I18 R13 hL h => ?_)
    refine PW.iload_n g rfl rfl d_ps_atom_36 ?_
    refine PX.cVi [.int (0 : Int32), .int v9, .int v1] [] g (pw_shp hq5 1 (by decide)) ck_cd (c_cd_add d (pw_shp hq5 1 (by decide)) hL h) cl_ps_172 (by omega) (by decide) rfl rfl (Nat.le_of_ble_eq_true rfl) d_ps_atom_37 (fun v10 I19 R14 hL h => ?_)
    refine PW.pop g rfl d_ps_atom_40 ?_
    refine PW.goto g 215 (by decide) d_ps_atom_41 ?_
    exact PX.vret g hF rfl d_ps_atom_215 hL h
def v_ps_group (W : Nat → Int32 → Int32 → pI → pR → (pI → pR → Prop) → Prop) (a1 : Int32) (I : pI) (R : pR) (Q : pI → pR → Prop) : Prop := (w_ps_next  I R (fun v1 I1 R1 => ((¬ v1 = (40 : Int32) → (w_ps_fail  I1 R1 (fun I2 R2 => Q I2 R2))) ∧ (v1 = (40 : Int32) → ((a1 < (4 : Int32) → (∀ I3, I3 = pw_wI I1 108 2 ((I1 108 2) + (1 : Int32)) → (W 0 (0 : Int32) (a1 + (1 : Int32)) I3 R1 (fun I4 R3 => (w_ps_need (41 : Int32) I4 R3 (fun I5 R4 => Q I5 R4)))))) ∧ (¬ a1 < (4 : Int32) → (w_ps_fail  I1 R1 (fun I6 R5 => Q I6 R5))))))))
set_option maxHeartbeats 4000000 in
set_option maxRecDepth 100000 in
theorem b_ps_group (d : Nat) {W : Nat → Int32 → Int32 → pI → pR → (pI → pR → Prop) → Prop} (hW0 : ∀ a b I R Q, pw_Lay R → W 0 a b I R Q → Cm (d + 2) m_ps_chain [.ref 108, .int a, .int b] I R (qv Q)) (hW1 : ∀ a b I R Q, pw_Lay R → W 1 a b I R Q → Cm (d + 2) m_ps_unary [.ref 108, .int a] I R (qv Q)) (hW2 : ∀ a b I R Q, pw_Lay R → W 2 a b I R Q → Cm (d + 2) m_ps_atom [.ref 108, .int a] I R (qv Q)) (hW3 : ∀ a b I R Q, pw_Lay R → W 3 a b I R Q → Cm (d + 2) m_ps_group [.ref 108, .int a] I R (qv Q)) {a1 : Int32} {I : pI} {R : pR} {Q : pI → pR → Prop} (hL : pw_Lay R) (h : v_ps_group W a1 I R Q) : Cm (d + 3) m_ps_group [.ref 108, .int a1] I R (qv Q) := by
  refine Cm.of [some (.ref 108), some (.int a1)] (by decide) rfl (Nat.le_of_ble_eq_true rfl) (by simp) (fun E B g hF => ?_)
  unfold v_ps_group at h
  refine PW.aload_n g rfl rfl d_ps_group_0 ?_
  refine PX.cVi [] [] g rfl ck_ps (c_ps_next d  hL h) cl_ps_49 (by omega) (by decide) rfl rfl (Nat.le_of_ble_eq_true rfl) d_ps_group_1 (fun v1 I1 R1 hL h => ?_)
  refine PW.bipush g (40) (by decide) d_ps_group_4 ?_
  refine PW.icmp_ne g 14 (by decide) d_ps_group_6 (fun c1 => ?_) (fun c1 => ?_)
  · have h := h.1 c1
    refine PW.aload_n g rfl rfl d_ps_group_14 ?_
    refine PX.cVv [] [] g rfl ck_ps (c_ps_fail d  hL h) cl_ps_56 (by omega) (by decide) rfl rfl (Nat.le_of_ble_eq_true rfl) d_ps_group_15 (fun I2 R2 hL h => ?_)
    exact PX.vret g hF rfl d_ps_group_18 hL h
  · have h := h.2 c1
    refine PW.iload_n g rfl rfl d_ps_group_9 ?_
    refine PW.iconst g (4) (by decide) d_ps_group_10 ?_
    refine PW.icmp_lt g 19 (by decide) d_ps_group_11 (fun c2 => ?_) (fun c2 => ?_)
    · have h := h.1 c2
      refine PW.aload_n g rfl rfl d_ps_group_19 ?_
      refine PW.dup g rfl d_ps_group_20 ?_
      refine PW.getI g fi_ps_31 rfl d_ps_group_21 ?_
      refine PW.iconst g (1) (by decide) d_ps_group_24 ?_
      refine PW.iadd g d_ps_group_25 ?_
      refine PW.putI g fi_ps_31 rfl rfl rfl d_ps_group_26 ?_
      refine PX.gI (fun I3 eI3 => ?_)
      have h := h _ eI3
      refine PW.aload_n g rfl rfl d_ps_group_29 ?_
      refine PW.iconst g (0) (by decide) d_ps_group_30 ?_
      refine PW.iload_n g rfl rfl d_ps_group_31 ?_
      refine PW.iconst g (1) (by decide) d_ps_group_32 ?_
      refine PW.iadd g d_ps_group_33 ?_
      refine PX.cVv [.int (0 : Int32), .int (a1 + (1 : Int32))] [] g rfl ck_ps (hW0 _ _ _ _ _ hL h) cl_ps_122 (by omega) (by decide) rfl rfl (Nat.le_of_ble_eq_true rfl) d_ps_group_34 (fun I4 R3 hL h => ?_)
      refine PW.aload_n g rfl rfl d_ps_group_37 ?_
      refine PW.bipush g (41) (by decide) d_ps_group_38 ?_
      refine PX.cVv [.int (41 : Int32)] [] g rfl ck_ps (c_ps_need d  hL h) cl_ps_62 (by omega) (by decide) rfl rfl (Nat.le_of_ble_eq_true rfl) d_ps_group_40 (fun I5 R4 hL h => ?_)
      exact PX.vret g hF rfl d_ps_group_43 hL h
    · have h := h.2 c2
      refine PW.aload_n g rfl rfl d_ps_group_14 ?_
      refine PX.cVv [] [] g rfl ck_ps (c_ps_fail d  hL h) cl_ps_56 (by omega) (by decide) rfl rfl (Nat.le_of_ble_eq_true rfl) d_ps_group_15 (fun I6 R5 hL h => ?_)
      exact PX.vret g hF rfl d_ps_group_18 hL h
def w_pg : Nat → Nat → Int32 → Int32 → pI → pR → (pI → pR → Prop) → Prop
  | 0, _, _, _, _, _, _ => False
  | n + 1, 0, a, b, I, R, Q => v_ps_chain (w_pg n) a b I R Q
  | n + 1, 1, a, _, I, R, Q => v_ps_unary (w_pg n) a I R Q
  | n + 1, 2, a, _, I, R, Q => v_ps_atom (w_pg n) a I R Q
  | n + 1, _, a, _, I, R, Q => v_ps_group (w_pg n) a I R Q
set_option maxHeartbeats 4000000 in
set_option maxRecDepth 100000 in
theorem C_pg (d : Nat) : ∀ n : Nat, (∀ a b I R Q, pw_Lay R → w_pg n 0 a b I R Q → Cm (d + n + 2) m_ps_chain [.ref 108, .int a, .int b] I R (qv Q)) ∧ (∀ a b I R Q, pw_Lay R → w_pg n 1 a b I R Q → Cm (d + n + 2) m_ps_unary [.ref 108, .int a] I R (qv Q)) ∧ (∀ a b I R Q, pw_Lay R → w_pg n 2 a b I R Q → Cm (d + n + 2) m_ps_atom [.ref 108, .int a] I R (qv Q)) ∧ (∀ a b I R Q, pw_Lay R → w_pg n 3 a b I R Q → Cm (d + n + 2) m_ps_group [.ref 108, .int a] I R (qv Q)) := by
  intro n
  induction n with
  | zero => exact ⟨fun _ _ _ _ _ _ h => False.elim h, fun _ _ _ _ _ _ h => False.elim h, fun _ _ _ _ _ _ h => False.elim h, fun _ _ _ _ _ _ h => False.elim h⟩
  | succ n ih =>
    obtain ⟨h0, h1, h2, h3⟩ := ih
    refine ⟨?_, ?_, ?_, ?_⟩
    · intro a b I R Q hL h
      rw [show d + (n + 1) + 2 = d + n + 3 by omega]
      exact b_ps_chain (d + n) h0 h1 h2 h3 hL h
    · intro a b I R Q hL h
      rw [show d + (n + 1) + 2 = d + n + 3 by omega]
      exact b_ps_unary (d + n) h0 h1 h2 h3 hL h
    · intro a b I R Q hL h
      rw [show d + (n + 1) + 2 = d + n + 3 by omega]
      exact b_ps_atom (d + n) h0 h1 h2 h3 hL h
    · intro a b I R Q hL h
      rw [show d + (n + 1) + 2 = d + n + 3 by omega]
      exact b_ps_group (d + n) h0 h1 h2 h3 hL h
def w_ps_chain (a1 a2 : Int32) (I : pI) (R : pR) (Q : pI → pR → Prop) : Prop := w_pg 64 0 a1 a2 I R Q
set_option maxHeartbeats 4000000 in
set_option maxRecDepth 100000 in
theorem c_ps_chain (d : Nat) {a1 a2 : Int32} {I : pI} {R : pR} {Q : pI → pR → Prop} (hL : pw_Lay R) (h : w_ps_chain a1 a2 I R Q) : Cm (d + 66) m_ps_chain [.ref 108, .int a1, .int a2] I R (qv Q) := (C_pg d 64).1 a1 a2 I R Q hL h
def j_ps_statement_235 (q1 : Nat) (Q : pI → pR → Prop) (x3 : Int32) (I : pI) (R : pR) : Prop := (w_tk_endOf ((I 108 2) - (1 : Int32)) I R (fun v4 I5 R4 => (∃ q3, R4 108 1 = some q3 ∧ pSH[q3]? = some (0, 5) ∧ (w_st_close (q1 + 7) x3 v4 (I5 (q3 + 2) 4) I5 R4 (fun I6 R5 => Q I6 R5)))))
set_option maxHeartbeats 4000000 in
set_option maxRecDepth 100000 in
theorem J_ps_statement_235 (d : Nat) {q1 : Nat} (hq1 : pSH[q1]? = some (0, 5)) {Q : pI → pR → Prop} {x3 : Int32} {E : pE} {B : pB} (g : pw_G m_ps_statement (d + 67) 0 0 E B) (hF : pX (qv Q) E B) {I : pI} {R : pR} (hL : pw_Lay R) (h : j_ps_statement_235 q1 Q x3 I R) : PX E B m_ps_statement.2.2.1 235 [some (.ref 108), none, some (.ref (q1 + 7)), some (.int x3)] [] I R := by
  unfold j_ps_statement_235 at h
  refine PW.aload_n g rfl rfl d_ps_statement_235 ?_
  refine PW.iload_n g rfl rfl d_ps_statement_236 ?_
  refine PW.aload_n g rfl rfl d_ps_statement_237 ?_
  refine PW.getR (q := 109) g fi_ps_12 rfl (hL 108 7 0 rfl (by decide)) d_ps_statement_238 ?_
  refine PW.aload_n g rfl rfl d_ps_statement_241 ?_
  refine PW.getI g fi_ps_31 rfl d_ps_statement_242 ?_
  refine PW.iconst g (1) (by decide) d_ps_statement_245 ?_
  refine PW.isub g d_ps_statement_246 ?_
  refine PX.cVi [.int ((I 108 2) - (1 : Int32))] [.int x3, .ref (q1 + 7)] g rfl ck_tk (c_tk_endOf d  hL h) cl_ps_126 (by omega) (by decide) rfl rfl (Nat.le_of_ble_eq_true rfl) d_ps_statement_247 (fun v4 I5 R4 hL h => ?_)
  refine PW.aload_n g rfl rfl d_ps_statement_250 ?_
  obtain ⟨q3, eq3, hq3, h⟩ := h
  refine PW.getR (q := q3) g fi_ps_18 rfl eq3 d_ps_statement_251 ?_
  refine PW.getR (q := (q3 + 2)) g fi_ps_79 hq3 (hL q3 5 1 hq3 (by decide)) d_ps_statement_254 ?_
  refine PW.getI g fi_ps_83 (pw_shp hq3 1 (by decide)) d_ps_statement_257 ?_
  refine PX.cVv [.int x3, .int v4, .int (I5 (q3 + 2) 4)] [] g (pw_shp hq1 2 (by decide)) ck_st (c_st_close d (pw_shp hq1 2 (by decide)) hL h) cl_ps_129 (by omega) (by decide) rfl rfl (Nat.le_of_ble_eq_true rfl) d_ps_statement_260 (fun I6 R5 hL h => ?_)
  exact PX.vret g hF rfl d_ps_statement_263 hL h
def j_ps_statement_229 (q1 : Nat) (Q : pI → pR → Prop) (x3 : Int32) (I : pI) (R : pR) : Prop := (w_ps_chain (0 : Int32) (0 : Int32) I R (fun I4 R3 => (j_ps_statement_235 q1 Q x3 I4 R3)))
set_option maxHeartbeats 4000000 in
set_option maxRecDepth 100000 in
theorem J_ps_statement_229 (d : Nat) {q1 : Nat} (hq1 : pSH[q1]? = some (0, 5)) {Q : pI → pR → Prop} {x3 : Int32} {E : pE} {B : pB} (g : pw_G m_ps_statement (d + 67) 0 0 E B) (hF : pX (qv Q) E B) {I : pI} {R : pR} (hL : pw_Lay R) (h : j_ps_statement_229 q1 Q x3 I R) : PX E B m_ps_statement.2.2.1 229 [some (.ref 108), none, some (.ref (q1 + 7)), some (.int x3)] [] I R := by
  unfold j_ps_statement_229 at h
  refine PW.aload_n g rfl rfl d_ps_statement_229 ?_
  refine PW.iconst g (0) (by decide) d_ps_statement_230 ?_
  refine PW.iconst g (0) (by decide) d_ps_statement_231 ?_
  refine PX.cVv [.int (0 : Int32), .int (0 : Int32)] [] g rfl ck_ps (c_ps_chain d  hL h) cl_ps_122 (by omega) (by decide) rfl rfl (Nat.le_of_ble_eq_true rfl) d_ps_statement_232 (fun I4 R3 hL h => ?_)
  refine PX.sub [some (.ref 108), none, some (.ref (q1 + 7)), some (.int x3)] ⟨rfl, ⟨rfl, ⟨rfl, trivial⟩⟩⟩ ?_
  exact J_ps_statement_235 d hq1 g hF hL h
def j_ps_statement_167 (q1 : Nat) (Q : pI → pR → Prop) (x1 : Int32) (x3 : Int32) (I : pI) (R : pR) : Prop := (((2 : Int32) < x1 → (j_ps_statement_229 q1 Q x3 I R)) ∧ (¬ (2 : Int32) < x1 → (w_ps_next  I R (fun v6 I7 R6 => ((¬ v6 = (259 : Int32) → (j_ps_statement_229 q1 Q x3 I7 R6)) ∧ (v6 = (259 : Int32) → (w_tk_kindAt ((I7 108 2) + (1 : Int32)) I7 R6 (fun v7 I8 R7 => ((¬ v7 = (61 : Int32) → (j_ps_statement_229 q1 Q x3 I8 R7)) ∧ (v7 = (61 : Int32) → (w_tk_numberOf (I8 108 2) I8 R7 (fun v8 I9 R8 => (w_sr_put (q1 + 13) 61 x3 v8 I9 R8 (fun I10 R9 => (∀ I11, I11 = pw_wI I10 108 2 ((I10 108 2) + (2 : Int32)) → (j_ps_statement_229 q1 Q x3 I11 R9))))))))))))))))
set_option maxHeartbeats 4000000 in
set_option maxRecDepth 100000 in
theorem J_ps_statement_167 (d : Nat) {q1 : Nat} (hq1 : pSH[q1]? = some (0, 5)) {Q : pI → pR → Prop} {x1 : Int32} {x3 : Int32} {E : pE} {B : pB} (g : pw_G m_ps_statement (d + 67) 0 0 E B) (hF : pX (qv Q) E B) {I : pI} {R : pR} (hL : pw_Lay R) (h : j_ps_statement_167 q1 Q x1 x3 I R) : PX E B m_ps_statement.2.2.1 167 [some (.ref 108), some (.int x1), some (.ref (q1 + 7)), some (.int x3)] [] I R := by
  unfold j_ps_statement_167 at h
  refine PW.iload_n g rfl rfl d_ps_statement_167 ?_
  refine PW.iconst g (2) (by decide) d_ps_statement_168 ?_
  refine PW.icmp_gt g 229 (by decide) d_ps_statement_169 (fun c5 => ?_) (fun c5 => ?_)
  · have h := h.1 c5
    refine PX.sub [some (.ref 108), none, some (.ref (q1 + 7)), some (.int x3)] ⟨rfl, ⟨rfl, ⟨rfl, trivial⟩⟩⟩ ?_
    exact J_ps_statement_229 d hq1 g hF hL h
  · have h := h.2 c5
    refine PW.aload_n g rfl rfl d_ps_statement_172 ?_
    refine PX.cVi [] [] g rfl ck_ps (c_ps_next d  hL h) cl_ps_49 (by omega) (by decide) rfl rfl (Nat.le_of_ble_eq_true rfl) d_ps_statement_173 (fun v6 I7 R6 hL h => ?_)
    refine PW.sipush g (259) (by decide) d_ps_statement_176 ?_
    refine PW.icmp_ne g 229 (by decide) d_ps_statement_179 (fun c6 => ?_) (fun c6 => ?_)
    · have h := h.1 c6
      refine PX.sub [some (.ref 108), none, some (.ref (q1 + 7)), some (.int x3)] ⟨rfl, ⟨rfl, ⟨rfl, trivial⟩⟩⟩ ?_
      exact J_ps_statement_229 d hq1 g hF hL h
    · have h := h.2 c6
      refine PW.aload_n g rfl rfl d_ps_statement_182 ?_
      refine PW.getR (q := 109) g fi_ps_12 rfl (hL 108 7 0 rfl (by decide)) d_ps_statement_183 ?_
      refine PW.aload_n g rfl rfl d_ps_statement_186 ?_
      refine PW.getI g fi_ps_31 rfl d_ps_statement_187 ?_
      refine PW.iconst g (1) (by decide) d_ps_statement_190 ?_
      refine PW.iadd g d_ps_statement_191 ?_
      refine PX.cVi [.int ((I7 108 2) + (1 : Int32))] [] g rfl ck_tk (c_tk_kindAt d  hL h) cl_ps_106 (by omega) (by decide) rfl rfl (Nat.le_of_ble_eq_true rfl) d_ps_statement_192 (fun v7 I8 R7 hL h => ?_)
      refine PW.bipush g (61) (by decide) d_ps_statement_195 ?_
      refine PW.icmp_ne g 229 (by decide) d_ps_statement_197 (fun c7 => ?_) (fun c7 => ?_)
      · have h := h.1 c7
        refine PX.sub [some (.ref 108), none, some (.ref (q1 + 7)), some (.int x3)] ⟨rfl, ⟨rfl, ⟨rfl, trivial⟩⟩⟩ ?_
        exact J_ps_statement_229 d hq1 g hF hL h
      · have h := h.2 c7
        refine PW.aload_n g rfl rfl d_ps_statement_200 ?_
        refine PW.getR (q := (q1 + 13)) g fi_ps_113 (pw_shp hq1 2 (by decide)) (hL (q1 + 7) 10 5 (pw_shp hq1 2 (by decide)) (by decide)) d_ps_statement_201 ?_
        refine PW.iload_n g rfl rfl d_ps_statement_204 ?_
        refine PW.aload_n g rfl rfl d_ps_statement_205 ?_
        refine PW.getR (q := 109) g fi_ps_12 rfl (hL 108 7 0 rfl (by decide)) d_ps_statement_206 ?_
        refine PW.aload_n g rfl rfl d_ps_statement_209 ?_
        refine PW.getI g fi_ps_31 rfl d_ps_statement_210 ?_
        refine PX.cVi [.int (I8 108 2)] [.int x3, .ref (q1 + 13)] g rfl ck_tk (c_tk_numberOf d  hL h) cl_ps_119 (by omega) (by decide) rfl rfl (Nat.le_of_ble_eq_true rfl) d_ps_statement_213 (fun v8 I9 R8 hL h => ?_)
        refine PX.cSv [.ref (q1 + 13), .int x3, .int v8] [] g (c_sr_put d (pw_shp (pw_shp hq1 2 (by decide)) 5 (by decide)) hL h) cl_ps_102 (by omega) (by decide) rfl rfl (Nat.le_of_ble_eq_true rfl) d_ps_statement_216 (fun I10 R9 hL h => ?_)
        refine PW.aload_n g rfl rfl d_ps_statement_219 ?_
        refine PW.dup g rfl d_ps_statement_220 ?_
        refine PW.getI g fi_ps_31 rfl d_ps_statement_221 ?_
        refine PW.iconst g (2) (by decide) d_ps_statement_224 ?_
        refine PW.iadd g d_ps_statement_225 ?_
        refine PW.putI g fi_ps_31 rfl rfl rfl d_ps_statement_226 ?_
        refine PX.gI (fun I11 eI11 => ?_)
        have h := h _ eI11
        refine PX.sub [some (.ref 108), none, some (.ref (q1 + 7)), some (.int x3)] ⟨rfl, ⟨rfl, ⟨rfl, trivial⟩⟩⟩ ?_
        exact J_ps_statement_229 d hq1 g hF hL h
def j_ps_statement_130 (q1 : Nat) (Q : pI → pR → Prop) (x1 : Int32) (x3 : Int32) (I : pI) (R : pR) : Prop := ((¬ x1 = (4 : Int32) → (j_ps_statement_167 q1 Q x1 x3 I R)) ∧ (x1 = (4 : Int32) → (w_ps_ruleIsNext  I R (fun v10 I12 R10 => ((v10 = 0 → (j_ps_statement_167 q1 Q x1 x3 I12 R10)) ∧ (¬ v10 = 0 → (w_sr_put (q1 + 8) 61 x3 (7 : Int32) I12 R10 (fun I13 R11 => (w_ps_rule  I13 R11 (fun v12 I14 R12 => (w_sr_put (q1 + 13) 61 x3 v12 I14 R12 (fun I15 R13 => (j_ps_statement_235 q1 Q x3 I15 R13)))))))))))))
set_option maxHeartbeats 4000000 in
set_option maxRecDepth 100000 in
theorem J_ps_statement_130 (d : Nat) {q1 : Nat} (hq1 : pSH[q1]? = some (0, 5)) {Q : pI → pR → Prop} {x1 : Int32} {x3 : Int32} {E : pE} {B : pB} (g : pw_G m_ps_statement (d + 67) 0 0 E B) (hF : pX (qv Q) E B) {I : pI} {R : pR} (hL : pw_Lay R) (h : j_ps_statement_130 q1 Q x1 x3 I R) : PX E B m_ps_statement.2.2.1 130 [some (.ref 108), some (.int x1), some (.ref (q1 + 7)), some (.int x3)] [] I R := by
  unfold j_ps_statement_130 at h
  refine PW.iload_n g rfl rfl d_ps_statement_130 ?_
  refine PW.iconst g (4) (by decide) d_ps_statement_131 ?_
  refine PW.icmp_ne g 167 (by decide) d_ps_statement_132 (fun c4 => ?_) (fun c4 => ?_)
  · have h := h.1 c4
    refine PX.sub [some (.ref 108), some (.int x1), some (.ref (q1 + 7)), some (.int x3)] ⟨rfl, ⟨rfl, ⟨rfl, ⟨rfl, trivial⟩⟩⟩⟩ ?_
    exact J_ps_statement_167 d hq1 g hF hL h
  · have h := h.2 c4
    refine PW.aload_n g rfl rfl d_ps_statement_135 ?_
    refine PX.cVz [] [] g rfl ck_ps (c_ps_ruleIsNext d  hL h) cl_ps_109 (by omega) (by decide) rfl rfl (Nat.le_of_ble_eq_true rfl) d_ps_statement_136 (fun v10 I12 R10 hL hzv10 h => ?_)
    refine PW.if_eq g 167 (by decide) d_ps_statement_139 (fun c8 => ?_) (fun c8 => ?_)
    · have h := h.1 c8
      refine PX.sub [some (.ref 108), some (.int x1), some (.ref (q1 + 7)), some (.int x3)] ⟨rfl, ⟨rfl, ⟨rfl, ⟨rfl, trivial⟩⟩⟩⟩ ?_
      exact J_ps_statement_167 d hq1 g hF hL h
    · have h := h.2 c8
      refine PW.aload_n g rfl rfl d_ps_statement_142 ?_
      refine PW.getR (q := (q1 + 8)) g fi_ps_98 (pw_shp hq1 2 (by decide)) (hL (q1 + 7) 10 0 (pw_shp hq1 2 (by decide)) (by decide)) d_ps_statement_143 ?_
      refine PW.iload_n g rfl rfl d_ps_statement_146 ?_
      refine PW.bipush g (7) (by decide) d_ps_statement_147 ?_
      refine PX.cSv [.ref (q1 + 8), .int x3, .int (7 : Int32)] [] g (c_sr_put d (pw_shp (pw_shp hq1 2 (by decide)) 0 (by decide)) hL h) cl_ps_102 (by omega) (by decide) rfl rfl (Nat.le_of_ble_eq_true rfl) d_ps_statement_149 (fun I13 R11 hL h => ?_)
      refine PW.aload_n g rfl rfl d_ps_statement_152 ?_
      refine PW.getR (q := (q1 + 13)) g fi_ps_113 (pw_shp hq1 2 (by decide)) (hL (q1 + 7) 10 5 (pw_shp hq1 2 (by decide)) (by decide)) d_ps_statement_153 ?_
      refine PW.iload_n g rfl rfl d_ps_statement_156 ?_
      refine PW.aload_n g rfl rfl d_ps_statement_157 ?_
      refine PX.cVi [] [.int x3, .ref (q1 + 13)] g rfl ck_ps (c_ps_rule d  hL h) cl_ps_116 (by omega) (by decide) rfl rfl (Nat.le_of_ble_eq_true rfl) d_ps_statement_158 (fun v12 I14 R12 hL h => ?_)
      refine PX.cSv [.ref (q1 + 13), .int x3, .int v12] [] g (c_sr_put d (pw_shp (pw_shp hq1 2 (by decide)) 5 (by decide)) hL h) cl_ps_102 (by omega) (by decide) rfl rfl (Nat.le_of_ble_eq_true rfl) d_ps_statement_161 (fun I15 R13 hL h => ?_)
      refine PW.goto g 235 (by decide) d_ps_statement_164 ?_
      refine PX.sub [some (.ref 108), none, some (.ref (q1 + 7)), some (.int x3)] ⟨rfl, ⟨rfl, ⟨rfl, trivial⟩⟩⟩ ?_
      exact J_ps_statement_235 d hq1 g hF hL h
def j_ps_statement_75 (q1 : Nat) (Q : pI → pR → Prop) (x1 : Int32) (x3 : Int32) (I : pI) (R : pR) : Prop := ((¬ x1 = (4 : Int32) → (j_ps_statement_130 q1 Q x1 x3 I R)) ∧ (x1 = (4 : Int32) → (w_ps_next  I R (fun v14 I16 R14 => ((¬ v14 = (33 : Int32) → (j_ps_statement_130 q1 Q x1 x3 I16 R14)) ∧ (v14 = (33 : Int32) → (w_tk_kindAt ((I16 108 2) + (1 : Int32)) I16 R14 (fun v15 I17 R15 => ((¬ v15 = (88 : Int32) → (j_ps_statement_130 q1 Q x1 x3 I17 R15)) ∧ (v15 = (88 : Int32) → (∀ I18, I18 = pw_wI I17 108 2 ((I17 108 2) + (2 : Int32)) → (w_sr_put (q1 + 8) 61 x3 (6 : Int32) I18 R15 (fun I19 R16 => (j_ps_statement_235 q1 Q x3 I19 R16))))))))))))))
set_option maxHeartbeats 4000000 in
set_option maxRecDepth 100000 in
theorem J_ps_statement_75 (d : Nat) {q1 : Nat} (hq1 : pSH[q1]? = some (0, 5)) {Q : pI → pR → Prop} {x1 : Int32} {x3 : Int32} {E : pE} {B : pB} (g : pw_G m_ps_statement (d + 67) 0 0 E B) (hF : pX (qv Q) E B) {I : pI} {R : pR} (hL : pw_Lay R) (h : j_ps_statement_75 q1 Q x1 x3 I R) : PX E B m_ps_statement.2.2.1 75 [some (.ref 108), some (.int x1), some (.ref (q1 + 7)), some (.int x3)] [] I R := by
  unfold j_ps_statement_75 at h
  refine PW.iload_n g rfl rfl d_ps_statement_75 ?_
  refine PW.iconst g (4) (by decide) d_ps_statement_76 ?_
  refine PW.icmp_ne g 130 (by decide) d_ps_statement_77 (fun c3 => ?_) (fun c3 => ?_)
  · have h := h.1 c3
    refine PX.sub [some (.ref 108), some (.int x1), some (.ref (q1 + 7)), some (.int x3)] ⟨rfl, ⟨rfl, ⟨rfl, ⟨rfl, trivial⟩⟩⟩⟩ ?_
    exact J_ps_statement_130 d hq1 g hF hL h
  · have h := h.2 c3
    refine PW.aload_n g rfl rfl d_ps_statement_80 ?_
    refine PX.cVi [] [] g rfl ck_ps (c_ps_next d  hL h) cl_ps_49 (by omega) (by decide) rfl rfl (Nat.le_of_ble_eq_true rfl) d_ps_statement_81 (fun v14 I16 R14 hL h => ?_)
    refine PW.bipush g (33) (by decide) d_ps_statement_84 ?_
    refine PW.icmp_ne g 130 (by decide) d_ps_statement_86 (fun c9 => ?_) (fun c9 => ?_)
    · have h := h.1 c9
      refine PX.sub [some (.ref 108), some (.int x1), some (.ref (q1 + 7)), some (.int x3)] ⟨rfl, ⟨rfl, ⟨rfl, ⟨rfl, trivial⟩⟩⟩⟩ ?_
      exact J_ps_statement_130 d hq1 g hF hL h
    · have h := h.2 c9
      refine PW.aload_n g rfl rfl d_ps_statement_89 ?_
      refine PW.getR (q := 109) g fi_ps_12 rfl (hL 108 7 0 rfl (by decide)) d_ps_statement_90 ?_
      refine PW.aload_n g rfl rfl d_ps_statement_93 ?_
      refine PW.getI g fi_ps_31 rfl d_ps_statement_94 ?_
      refine PW.iconst g (1) (by decide) d_ps_statement_97 ?_
      refine PW.iadd g d_ps_statement_98 ?_
      refine PX.cVi [.int ((I16 108 2) + (1 : Int32))] [] g rfl ck_tk (c_tk_kindAt d  hL h) cl_ps_106 (by omega) (by decide) rfl rfl (Nat.le_of_ble_eq_true rfl) d_ps_statement_99 (fun v15 I17 R15 hL h => ?_)
      refine PW.bipush g (88) (by decide) d_ps_statement_102 ?_
      refine PW.icmp_ne g 130 (by decide) d_ps_statement_104 (fun c10 => ?_) (fun c10 => ?_)
      · have h := h.1 c10
        refine PX.sub [some (.ref 108), some (.int x1), some (.ref (q1 + 7)), some (.int x3)] ⟨rfl, ⟨rfl, ⟨rfl, ⟨rfl, trivial⟩⟩⟩⟩ ?_
        exact J_ps_statement_130 d hq1 g hF hL h
      · have h := h.2 c10
        refine PW.aload_n g rfl rfl d_ps_statement_107 ?_
        refine PW.dup g rfl d_ps_statement_108 ?_
        refine PW.getI g fi_ps_31 rfl d_ps_statement_109 ?_
        refine PW.iconst g (2) (by decide) d_ps_statement_112 ?_
        refine PW.iadd g d_ps_statement_113 ?_
        refine PW.putI g fi_ps_31 rfl rfl rfl d_ps_statement_114 ?_
        refine PX.gI (fun I18 eI18 => ?_)
        have h := h _ eI18
        refine PW.aload_n g rfl rfl d_ps_statement_117 ?_
        refine PW.getR (q := (q1 + 8)) g fi_ps_98 (pw_shp hq1 2 (by decide)) (hL (q1 + 7) 10 0 (pw_shp hq1 2 (by decide)) (by decide)) d_ps_statement_118 ?_
        refine PW.iload_n g rfl rfl d_ps_statement_121 ?_
        refine PW.bipush g (6) (by decide) d_ps_statement_122 ?_
        refine PX.cSv [.ref (q1 + 8), .int x3, .int (6 : Int32)] [] g (c_sr_put d (pw_shp (pw_shp hq1 2 (by decide)) 0 (by decide)) hL h) cl_ps_102 (by omega) (by decide) rfl rfl (Nat.le_of_ble_eq_true rfl) d_ps_statement_124 (fun I19 R16 hL h => ?_)
        refine PW.goto g 235 (by decide) d_ps_statement_127 ?_
        refine PX.sub [some (.ref 108), none, some (.ref (q1 + 7)), some (.int x3)] ⟨rfl, ⟨rfl, ⟨rfl, trivial⟩⟩⟩ ?_
        exact J_ps_statement_235 d hq1 g hF hL h
def j_ps_statement_46 (q1 : Nat) (Q : pI → pR → Prop) (x1 : Int32) (x3 : Int32) (s1 : Int32) (I : pI) (R : pR) : Prop := ((s1 = 0 ∨ s1 = 1) ∧ (∀ I3, I3 = pw_wI I 108 4 s1 → ((¬ x1 = (4 : Int32) → (j_ps_statement_75 q1 Q x1 x3 I3 R)) ∧ (x1 = (4 : Int32) → (w_ps_take (88 : Int32) I3 R (fun v17 I20 R17 => ((v17 = 0 → (j_ps_statement_75 q1 Q x1 x3 I20 R17)) ∧ (¬ v17 = 0 → (w_sr_put (q1 + 8) 61 x3 (5 : Int32) I20 R17 (fun I21 R18 => (j_ps_statement_235 q1 Q x3 I21 R18)))))))))))
set_option maxHeartbeats 4000000 in
set_option maxRecDepth 100000 in
theorem J_ps_statement_46 (d : Nat) {q1 : Nat} (hq1 : pSH[q1]? = some (0, 5)) {Q : pI → pR → Prop} {x1 : Int32} {x3 : Int32} {s1 : Int32} {E : pE} {B : pB} (g : pw_G m_ps_statement (d + 67) 0 0 E B) (hF : pX (qv Q) E B) {I : pI} {R : pR} (hL : pw_Lay R) (h : j_ps_statement_46 q1 Q x1 x3 s1 I R) : PX E B m_ps_statement.2.2.1 46 [some (.ref 108), some (.int x1), some (.ref (q1 + 7)), some (.int x3)] [.int s1, .ref 108] I R := by
  unfold j_ps_statement_46 at h
  have hz := h.1
  have h := h.2
  refine PW.putI g fi_ps_94 rfl (pw_nb hz) (pw_fb hz) d_ps_statement_46 ?_
  refine PX.gI (fun I3 eI3 => ?_)
  have h := h _ eI3
  refine PW.iload_n g rfl rfl d_ps_statement_49 ?_
  refine PW.iconst g (4) (by decide) d_ps_statement_50 ?_
  refine PW.icmp_ne g 75 (by decide) d_ps_statement_51 (fun c2 => ?_) (fun c2 => ?_)
  · have h := h.1 c2
    refine PX.sub [some (.ref 108), some (.int x1), some (.ref (q1 + 7)), some (.int x3)] ⟨rfl, ⟨rfl, ⟨rfl, ⟨rfl, trivial⟩⟩⟩⟩ ?_
    exact J_ps_statement_75 d hq1 g hF hL h
  · have h := h.2 c2
    refine PW.aload_n g rfl rfl d_ps_statement_54 ?_
    refine PW.bipush g (88) (by decide) d_ps_statement_55 ?_
    refine PX.cVz [.int (88 : Int32)] [] g rfl ck_ps (c_ps_take d  hL h) cl_ps_38 (by omega) (by decide) rfl rfl (Nat.le_of_ble_eq_true rfl) d_ps_statement_57 (fun v17 I20 R17 hL hzv17 h => ?_)
    refine PW.if_eq g 75 (by decide) d_ps_statement_60 (fun c11 => ?_) (fun c11 => ?_)
    · have h := h.1 c11
      refine PX.sub [some (.ref 108), some (.int x1), some (.ref (q1 + 7)), some (.int x3)] ⟨rfl, ⟨rfl, ⟨rfl, ⟨rfl, trivial⟩⟩⟩⟩ ?_
      exact J_ps_statement_75 d hq1 g hF hL h
    · have h := h.2 c11
      refine PW.aload_n g rfl rfl d_ps_statement_63 ?_
      refine PW.getR (q := (q1 + 8)) g fi_ps_98 (pw_shp hq1 2 (by decide)) (hL (q1 + 7) 10 0 (pw_shp hq1 2 (by decide)) (by decide)) d_ps_statement_64 ?_
      refine PW.iload_n g rfl rfl d_ps_statement_67 ?_
      refine PW.iconst g (5) (by decide) d_ps_statement_68 ?_
      refine PX.cSv [.ref (q1 + 8), .int x3, .int (5 : Int32)] [] g (c_sr_put d (pw_shp (pw_shp hq1 2 (by decide)) 0 (by decide)) hL h) cl_ps_102 (by omega) (by decide) rfl rfl (Nat.le_of_ble_eq_true rfl) d_ps_statement_69 (fun I21 R18 hL h => ?_)
      refine PW.goto g 235 (by decide) d_ps_statement_72 ?_
      refine PX.sub [some (.ref 108), none, some (.ref (q1 + 7)), some (.int x3)] ⟨rfl, ⟨rfl, ⟨rfl, trivial⟩⟩⟩ ?_
      exact J_ps_statement_235 d hq1 g hF hL h
def w_ps_statement (a1 : Int32) (I : pI) (R : pR) (Q : pI → pR → Prop) : Prop := (∃ q1, R 108 1 = some q1 ∧ pSH[q1]? = some (0, 5) ∧ (w_tk_placeOf (I 108 2) I R (fun v1 I1 R1 => (∃ q2, R1 108 1 = some q2 ∧ pSH[q2]? = some (0, 5) ∧ (w_st_open (q1 + 7) a1 v1 (I1 (q2 + 2) 4) I1 R1 (fun v2 I2 R2 => ((¬ a1 = (4 : Int32) → (j_ps_statement_46 q1 Q a1 v2 (0 : Int32) I2 R2)) ∧ (a1 = (4 : Int32) → (j_ps_statement_46 q1 Q a1 v2 (1 : Int32) I2 R2)))))))))
set_option maxHeartbeats 4000000 in
set_option maxRecDepth 100000 in
theorem c_ps_statement (d : Nat) {a1 : Int32} {I : pI} {R : pR} {Q : pI → pR → Prop} (hL : pw_Lay R) (h : w_ps_statement a1 I R Q) : Cm (d + 67) m_ps_statement [.ref 108, .int a1] I R (qv Q) := by
  refine Cm.of [some (.ref 108), some (.int a1), none, none] (by decide) rfl (Nat.le_of_ble_eq_true rfl) (by simp) (fun E B g hF => ?_)
  unfold w_ps_statement at h
  refine PW.aload_n g rfl rfl d_ps_statement_0 ?_
  obtain ⟨q1, eq1, hq1, h⟩ := h
  refine PW.getR (q := q1) g fi_ps_18 rfl eq1 d_ps_statement_1 ?_
  refine PW.getR (q := (q1 + 7)) g fi_ps_71 hq1 (hL q1 5 2 hq1 (by decide)) d_ps_statement_4 ?_
  refine PW.astore_n g rfl (L' := [some (.ref 108), some (.int a1), some (.ref (q1 + 7)), none]) (by decide) rfl rfl d_ps_statement_7 ?_
  refine PW.aload_n g rfl rfl d_ps_statement_8 ?_
  refine PW.iload_n g rfl rfl d_ps_statement_9 ?_
  refine PW.aload_n g rfl rfl d_ps_statement_10 ?_
  refine PW.getR (q := 109) g fi_ps_12 rfl (hL 108 7 0 rfl (by decide)) d_ps_statement_11 ?_
  refine PW.aload_n g rfl rfl d_ps_statement_14 ?_
  refine PW.getI g fi_ps_31 rfl d_ps_statement_15 ?_
  refine PX.cVi [.int (I 108 2)] [.int a1, .ref (q1 + 7)] g rfl ck_tk (c_tk_placeOf d  hL h) cl_ps_75 (by omega) (by decide) rfl rfl (Nat.le_of_ble_eq_true rfl) d_ps_statement_18 (fun v1 I1 R1 hL h => ?_)
  refine PW.aload_n g rfl rfl d_ps_statement_21 ?_
  obtain ⟨q2, eq2, hq2, h⟩ := h
  refine PW.getR (q := q2) g fi_ps_18 rfl eq2 d_ps_statement_22 ?_
  refine PW.getR (q := (q2 + 2)) g fi_ps_79 hq2 (hL q2 5 1 hq2 (by decide)) d_ps_statement_25 ?_
  refine PW.getI g fi_ps_83 (pw_shp hq2 1 (by decide)) d_ps_statement_28 ?_
  refine PX.cVi [.int a1, .int v1, .int (I1 (q2 + 2) 4)] [] g (pw_shp hq1 2 (by decide)) ck_st (c_st_open d (pw_shp hq1 2 (by decide)) hL h) cl_ps_88 (by omega) (by decide) rfl rfl (Nat.le_of_ble_eq_true rfl) d_ps_statement_31 (fun v2 I2 R2 hL h => ?_)
  refine PW.istore_n g rfl (L' := [some (.ref 108), some (.int a1), some (.ref (q1 + 7)), some (.int v2)]) (by decide) rfl rfl d_ps_statement_34 ?_
  refine PW.aload_n g rfl rfl d_ps_statement_35 ?_
  refine PW.iload_n g rfl rfl d_ps_statement_36 ?_
  refine PW.iconst g (4) (by decide) d_ps_statement_37 ?_
  refine PW.icmp_ne g 45 (by decide) d_ps_statement_38 (fun c1 => ?_) (fun c1 => ?_)
  · have h := h.1 c1
    refine PW.iconst g (0) (by decide) d_ps_statement_45 ?_
    refine PX.sub [some (.ref 108), some (.int a1), some (.ref (q1 + 7)), some (.int v2)] ⟨rfl, ⟨rfl, ⟨rfl, ⟨rfl, trivial⟩⟩⟩⟩ ?_
    exact J_ps_statement_46 d hq1 g hF hL h
  · have h := h.2 c1
    refine PW.iconst g (1) (by decide) d_ps_statement_41 ?_
    refine PW.goto g 46 (by decide) d_ps_statement_42 ?_
    refine PX.sub [some (.ref 108), some (.int a1), some (.ref (q1 + 7)), some (.int v2)] ⟨rfl, ⟨rfl, ⟨rfl, ⟨rfl, trivial⟩⟩⟩⟩ ?_
    exact J_ps_statement_46 d hq1 g hF hL h
def l_ps_block_13 (f1 : Int32) (K : pI → pR → Prop) (Q : pI → pR → Prop) : Nat → Int32 → pI → pR → Prop
  | 0, _, _, _ => False
  | n + 1, x2, I, R => (((120 : Int32) ≤ x2 → K I R) ∧ (¬ (120 : Int32) ≤ x2 → (w_ps_take (59 : Int32) I R (fun v3 I3 R3 => ((v3 = 0 → K I3 R3) ∧ (¬ v3 = 0 → (w_ps_statement f1 I3 R3 (fun I4 R4 => l_ps_block_13 f1 K Q n (x2 + 1) I4 R4))))))))
set_option maxHeartbeats 4000000 in
set_option maxRecDepth 100000 in
theorem L_ps_block_13 (d : Nat) {f1 : Int32} {K : pI → pR → Prop} {Q : pI → pR → Prop} {E : pE} {B : pB} (g : pw_G m_ps_block (d + 68) 0 0 E B) (hF : pX (qv Q) E B) (hK : ∀ (I : pI) (R : pR), pw_Lay R → K  I R → PX E B m_ps_block.2.2.1 39 [none, none, none] [] I R) : ∀ (n : Nat) (x2 : Int32) (I : pI) (R : pR), pw_Lay R → l_ps_block_13 f1 K Q n x2 I R → PX E B m_ps_block.2.2.1 13 [some (.ref 108), some (.int f1), some (.int x2)] [] I R := by
  intro n
  induction n with
  | zero => intro x2 I R hL h; exact False.elim h
  | succ n ih =>
    intro x2 I R hL h
    refine PW.iload_n g rfl rfl d_ps_block_13 ?_
    refine PW.bipush g (120) (by decide) d_ps_block_14 ?_
    refine PW.icmp_ge g 39 (by decide) d_ps_block_16 (fun c1 => ?_) (fun c1 => ?_)
    · have h := h.1 c1
      refine PX.sub [none, none, none] trivial ?_
      exact hK _ _ hL h
    · have h := h.2 c1
      refine PW.aload_n g rfl rfl d_ps_block_19 ?_
      refine PW.bipush g (59) (by decide) d_ps_block_20 ?_
      refine PX.cVz [.int (59 : Int32)] [] g rfl ck_ps (c_ps_take d  hL h) cl_ps_38 (by omega) (by decide) rfl rfl (Nat.le_of_ble_eq_true rfl) d_ps_block_22 (fun v3 I3 R3 hL hzv3 h => ?_)
      refine PW.if_eq g 39 (by decide) d_ps_block_25 (fun c2 => ?_) (fun c2 => ?_)
      · have h := h.1 c2
        refine PX.sub [none, none, none] trivial ?_
        exact hK _ _ hL h
      · have h := h.2 c2
        refine PW.aload_n g rfl rfl d_ps_block_28 ?_
        refine PW.iload_n g rfl rfl d_ps_block_29 ?_
        refine PX.cVv [.int f1] [] g rfl ck_ps (c_ps_statement d  hL h) cl_ps_68 (by omega) (by decide) rfl rfl (Nat.le_of_ble_eq_true rfl) d_ps_block_30 (fun I4 R4 hL h => ?_)
        refine PW.iinc g rfl (show x2 + Int32.ofInt (1) = (x2 + 1) from congrArg (HAdd.hAdd x2) (by decide)) (by decide) rfl (L' := [some (.ref 108), some (.int f1), some (.int (x2 + 1))]) rfl d_ps_block_33 ?_
        refine PW.goto g 13 (by decide) d_ps_block_36 ?_
        refine PX.sub [some (.ref 108), some (.int f1), some (.int (x2 + 1))] ⟨rfl, ⟨rfl, ⟨rfl, trivial⟩⟩⟩ ?_
        exact ih _ _ _ hL h
def w_ps_block (a1 : Int32) (I : pI) (R : pR) (Q : pI → pR → Prop) : Prop := (w_ps_need (58 : Int32) I R (fun I1 R1 => (w_ps_statement a1 I1 R1 (fun I2 R2 => (∃ n1, l_ps_block_13 a1 (fun I5 R5 => Q I5 R5) Q n1 (0 : Int32) I2 R2)))))
set_option maxHeartbeats 4000000 in
set_option maxRecDepth 100000 in
theorem c_ps_block (d : Nat) {a1 : Int32} {I : pI} {R : pR} {Q : pI → pR → Prop} (hL : pw_Lay R) (h : w_ps_block a1 I R Q) : Cm (d + 68) m_ps_block [.ref 108, .int a1] I R (qv Q) := by
  refine Cm.of [some (.ref 108), some (.int a1), none] (by decide) rfl (Nat.le_of_ble_eq_true rfl) (by simp) (fun E B g hF => ?_)
  unfold w_ps_block at h
  refine PW.aload_n g rfl rfl d_ps_block_0 ?_
  refine PW.bipush g (58) (by decide) d_ps_block_1 ?_
  refine PX.cVv [.int (58 : Int32)] [] g rfl ck_ps (c_ps_need d  hL h) cl_ps_62 (by omega) (by decide) rfl rfl (Nat.le_of_ble_eq_true rfl) d_ps_block_3 (fun I1 R1 hL h => ?_)
  refine PW.aload_n g rfl rfl d_ps_block_6 ?_
  refine PW.iload_n g rfl rfl d_ps_block_7 ?_
  refine PX.cVv [.int a1] [] g rfl ck_ps (c_ps_statement d  hL h) cl_ps_68 (by omega) (by decide) rfl rfl (Nat.le_of_ble_eq_true rfl) d_ps_block_8 (fun I2 R2 hL h => ?_)
  refine PW.iconst g (0) (by decide) d_ps_block_11 ?_
  refine PW.istore_n g rfl (L' := [some (.ref 108), some (.int a1), some (.int (0 : Int32))]) (by decide) rfl rfl d_ps_block_12 ?_
  refine PX.sub [some (.ref 108), some (.int a1), some (.int (0 : Int32))] ⟨rfl, ⟨rfl, ⟨rfl, trivial⟩⟩⟩ ?_
  obtain ⟨n1, h⟩ := h
  refine L_ps_block_13 d g hF (fun I5 R5 hL h => ?_) n1 (0 : Int32) I2 R2 hL h
  exact PX.vret g hF rfl d_ps_block_39 hL h
def w_ps_part (I : pI) (R : pR) (Q : pI → pR → Prop) : Prop := (∃ q1, R 108 1 = some q1 ∧ pSH[q1]? = some (0, 5) ∧ (w_ft_openPart q1 I R (fun I1 R1 => (w_ps_take (69 : Int32) I1 R1 (fun v2 I2 R2 => ((v2 = 0 → (w_ps_need (87 : Int32) I2 R2 (fun I3 R3 => (w_ps_block (1 : Int32) I3 R3 (fun I4 R4 => (w_ps_need (84 : Int32) I4 R4 (fun I5 R5 => (w_ps_block (4 : Int32) I5 R5 (fun I6 R6 => (∃ q2, R6 108 1 = some q2 ∧ pSH[q2]? = some (0, 5) ∧ (w_ft_closePart q2 I6 R6 (fun I7 R7 => Q I7 R7)))))))))))) ∧ (¬ v2 = 0 → (w_ps_block (3 : Int32) I2 R2 (fun I8 R8 => (∃ q3, R8 108 1 = some q3 ∧ pSH[q3]? = some (0, 5) ∧ (w_ft_closePart q3 I8 R8 (fun I9 R9 => Q I9 R9))))))))))))
set_option maxHeartbeats 4000000 in
set_option maxRecDepth 100000 in
theorem c_ps_part (d : Nat) {I : pI} {R : pR} {Q : pI → pR → Prop} (hL : pw_Lay R) (h : w_ps_part  I R Q) : Cm (d + 69) m_ps_part [.ref 108] I R (qv Q) := by
  refine Cm.of [some (.ref 108)] (by decide) rfl (Nat.le_of_ble_eq_true rfl) (by simp) (fun E B g hF => ?_)
  unfold w_ps_part at h
  refine PW.aload_n g rfl rfl d_ps_part_0 ?_
  obtain ⟨q1, eq1, hq1, h⟩ := h
  refine PW.getR (q := q1) g fi_ps_18 rfl eq1 d_ps_part_1 ?_
  refine PX.cVv [] [] g hq1 ck_ft (c_ft_openPart d hq1 hL h) cl_ps_59 (by omega) (by decide) rfl rfl (Nat.le_of_ble_eq_true rfl) d_ps_part_4 (fun I1 R1 hL h => ?_)
  refine PW.aload_n g rfl rfl d_ps_part_7 ?_
  refine PW.bipush g (69) (by decide) d_ps_part_8 ?_
  refine PX.cVz [.int (69 : Int32)] [] g rfl ck_ps (c_ps_take d  hL h) cl_ps_38 (by omega) (by decide) rfl rfl (Nat.le_of_ble_eq_true rfl) d_ps_part_10 (fun v2 I2 R2 hL hzv2 h => ?_)
  refine PW.if_eq g 24 (by decide) d_ps_part_13 (fun c1 => ?_) (fun c1 => ?_)
  · have h := h.1 c1
    refine PW.aload_n g rfl rfl d_ps_part_24 ?_
    refine PW.bipush g (87) (by decide) d_ps_part_25 ?_
    refine PX.cVv [.int (87 : Int32)] [] g rfl ck_ps (c_ps_need d  hL h) cl_ps_62 (by omega) (by decide) rfl rfl (Nat.le_of_ble_eq_true rfl) d_ps_part_27 (fun I3 R3 hL h => ?_)
    refine PW.aload_n g rfl rfl d_ps_part_30 ?_
    refine PW.iconst g (1) (by decide) d_ps_part_31 ?_
    refine PX.cVv [.int (1 : Int32)] [] g rfl ck_ps (c_ps_block d  hL h) cl_ps_42 (by omega) (by decide) rfl rfl (Nat.le_of_ble_eq_true rfl) d_ps_part_32 (fun I4 R4 hL h => ?_)
    refine PW.aload_n g rfl rfl d_ps_part_35 ?_
    refine PW.bipush g (84) (by decide) d_ps_part_36 ?_
    refine PX.cVv [.int (84 : Int32)] [] g rfl ck_ps (c_ps_need d  hL h) cl_ps_62 (by omega) (by decide) rfl rfl (Nat.le_of_ble_eq_true rfl) d_ps_part_38 (fun I5 R5 hL h => ?_)
    refine PW.aload_n g rfl rfl d_ps_part_41 ?_
    refine PW.iconst g (4) (by decide) d_ps_part_42 ?_
    refine PX.cVv [.int (4 : Int32)] [] g rfl ck_ps (c_ps_block d  hL h) cl_ps_42 (by omega) (by decide) rfl rfl (Nat.le_of_ble_eq_true rfl) d_ps_part_43 (fun I6 R6 hL h => ?_)
    refine PW.aload_n g rfl rfl d_ps_part_46 ?_
    obtain ⟨q2, eq2, hq2, h⟩ := h
    refine PW.getR (q := q2) g fi_ps_18 rfl eq2 d_ps_part_47 ?_
    refine PX.cVv [] [] g hq2 ck_ft (c_ft_closePart d hq2 hL h) cl_ps_65 (by omega) (by decide) rfl rfl (Nat.le_of_ble_eq_true rfl) d_ps_part_50 (fun I7 R7 hL h => ?_)
    exact PX.vret g hF rfl d_ps_part_53 hL h
  · have h := h.2 c1
    refine PW.aload_n g rfl rfl d_ps_part_16 ?_
    refine PW.iconst g (3) (by decide) d_ps_part_17 ?_
    refine PX.cVv [.int (3 : Int32)] [] g rfl ck_ps (c_ps_block d  hL h) cl_ps_42 (by omega) (by decide) rfl rfl (Nat.le_of_ble_eq_true rfl) d_ps_part_18 (fun I8 R8 hL h => ?_)
    refine PW.goto g 46 (by decide) d_ps_part_21 ?_
    refine PW.aload_n g rfl rfl d_ps_part_46 ?_
    obtain ⟨q3, eq3, hq3, h⟩ := h
    refine PW.getR (q := q3) g fi_ps_18 rfl eq3 d_ps_part_47 ?_
    refine PX.cVv [] [] g hq3 ck_ft (c_ft_closePart d hq3 hL h) cl_ps_65 (by omega) (by decide) rfl rfl (Nat.le_of_ble_eq_true rfl) d_ps_part_50 (fun I9 R9 hL h => ?_)
    exact PX.vret g hF rfl d_ps_part_53 hL h
def w_ps_takeBar (I : pI) (R : pR) (Q : Int32 → pI → pR → Prop) : Prop := (w_ps_take (124 : Int32) I R (fun v1 I1 R1 => ((¬ v1 = 0 → Q (1 : Int32) I1 R1) ∧ (v1 = 0 → (w_ps_take (265 : Int32) I1 R1 (fun v2 I2 R2 => ((v2 = 0 → Q (0 : Int32) I2 R2) ∧ (¬ v2 = 0 → Q (1 : Int32) I2 R2))))))))
set_option maxHeartbeats 4000000 in
set_option maxRecDepth 100000 in
theorem c_ps_takeBar (d : Nat) {I : pI} {R : pR} {Q : Int32 → pI → pR → Prop} (hL : pw_Lay R) (h : w_ps_takeBar  I R Q) : Cm (d + 3) m_ps_takeBar [.ref 108] I R (qz Q) := by
  refine Cm.of [some (.ref 108)] (by decide) rfl (Nat.le_of_ble_eq_true rfl) (by simp) (fun E B g hF => ?_)
  unfold w_ps_takeBar at h
  refine PW.aload_n g rfl rfl d_ps_takeBar_0 ?_
  refine PW.bipush g (124) (by decide) d_ps_takeBar_1 ?_
  refine PX.cVz [.int (124 : Int32)] [] g rfl ck_ps (c_ps_take d  hL h) cl_ps_38 (by omega) (by decide) rfl rfl (Nat.le_of_ble_eq_true rfl) d_ps_takeBar_3 (fun v1 I1 R1 hL hzv1 h => ?_)
  refine PW.if_ne g 19 (by decide) d_ps_takeBar_6 (fun c1 => ?_) (fun c1 => ?_)
  · have h := h.1 c1
    refine PW.iconst g (1) (by decide) d_ps_takeBar_19 ?_
    refine PW.goto g 24 (by decide) d_ps_takeBar_20 ?_
    exact PX.zret g hF rfl (Or.inr rfl) d_ps_takeBar_24 hL h
  · have h := h.2 c1
    refine PW.aload_n g rfl rfl d_ps_takeBar_9 ?_
    refine PW.sipush g (265) (by decide) d_ps_takeBar_10 ?_
    refine PX.cVz [.int (265 : Int32)] [] g rfl ck_ps (c_ps_take d  hL h) cl_ps_38 (by omega) (by decide) rfl rfl (Nat.le_of_ble_eq_true rfl) d_ps_takeBar_13 (fun v2 I2 R2 hL hzv2 h => ?_)
    refine PW.if_eq g 23 (by decide) d_ps_takeBar_16 (fun c2 => ?_) (fun c2 => ?_)
    · have h := h.1 c2
      refine PW.iconst g (0) (by decide) d_ps_takeBar_23 ?_
      exact PX.zret g hF rfl (Or.inl rfl) d_ps_takeBar_24 hL h
    · have h := h.2 c2
      refine PW.iconst g (1) (by decide) d_ps_takeBar_19 ?_
      refine PW.goto g 24 (by decide) d_ps_takeBar_20 ?_
      exact PX.zret g hF rfl (Or.inr rfl) d_ps_takeBar_24 hL h
def l_ps_row_24 (q1 : Nat) (K : pI → pR → Prop) (Q : pI → pR → Prop) : Nat → Int32 → Int32 → pI → pR → Prop
  | 0, _, _, _, _ => False
  | n + 1, x2, x3, I, R => (((120 : Int32) ≤ x3 → K I R) ∧ (¬ (120 : Int32) ≤ x3 → ((x2 = 0 → K I R) ∧ (¬ x2 = 0 → (w_tk_placeOf (I 108 2) I R (fun v2 I3 R2 => (∃ q3, R2 108 1 = some q3 ∧ pSH[q3]? = some (0, 5) ∧ (w_st_open (q1 + 7) (8 : Int32) v2 (I3 (q3 + 2) 4) I3 R2 (fun v3 I4 R3 => (w_sr_put (q1 + 13) 61 v3 x3 I4 R3 (fun I5 R4 => (w_ps_chain (3 : Int32) (0 : Int32) I5 R4 (fun I6 R5 => (w_tk_endOf ((I6 108 2) - (1 : Int32)) I6 R5 (fun v6 I7 R6 => (∃ q4, R6 108 1 = some q4 ∧ pSH[q4]? = some (0, 5) ∧ (w_st_close (q1 + 7) v3 v6 (I7 (q4 + 2) 4) I7 R6 (fun I8 R7 => (w_ps_takeBar  I8 R7 (fun v8 I9 R8 => l_ps_row_24 q1 K Q n v8 (x3 + 1) I9 R8))))))))))))))))))))
set_option maxHeartbeats 4000000 in
set_option maxRecDepth 100000 in
theorem L_ps_row_24 (d : Nat) {q1 : Nat} (hq1 : pSH[q1]? = some (0, 5)) {K : pI → pR → Prop} {Q : pI → pR → Prop} {E : pE} {B : pB} (g : pw_G m_ps_row (d + 67) 0 0 E B) (hF : pX (qv Q) E B) (hK : ∀ (I : pI) (R : pR), pw_Lay R → K  I R → PX E B m_ps_row.2.2.1 119 [none, none, none, none, none] [] I R) : ∀ (n : Nat) (x2 : Int32) (x3 : Int32) (I : pI) (R : pR), pw_Lay R → l_ps_row_24 q1 K Q n x2 x3 I R → PX E B m_ps_row.2.2.1 24 [some (.ref 108), some (.ref (q1 + 7)), some (.int x2), some (.int x3), none] [] I R := by
  intro n
  induction n with
  | zero => intro x2 x3 I R hL h; exact False.elim h
  | succ n ih =>
    intro x2 x3 I R hL h
    refine PW.iload_n g rfl rfl d_ps_row_24 ?_
    refine PW.bipush g (120) (by decide) d_ps_row_25 ?_
    refine PW.icmp_ge g 119 (by decide) d_ps_row_27 (fun c1 => ?_) (fun c1 => ?_)
    · have h := h.1 c1
      refine PX.sub [none, none, none, none, none] trivial ?_
      exact hK _ _ hL h
    · have h := h.2 c1
      refine PW.iload_n g rfl rfl d_ps_row_30 ?_
      refine PW.if_eq g 119 (by decide) d_ps_row_31 (fun c2 => ?_) (fun c2 => ?_)
      · have h := h.1 c2
        refine PX.sub [none, none, none, none, none] trivial ?_
        exact hK _ _ hL h
      · have h := h.2 c2
        refine PW.aload_n g rfl rfl d_ps_row_34 ?_
        refine PW.bipush g (8) (by decide) d_ps_row_35 ?_
        refine PW.aload_n g rfl rfl d_ps_row_37 ?_
        refine PW.getR (q := 109) g fi_ps_12 rfl (hL 108 7 0 rfl (by decide)) d_ps_row_38 ?_
        refine PW.aload_n g rfl rfl d_ps_row_41 ?_
        refine PW.getI g fi_ps_31 rfl d_ps_row_42 ?_
        refine PX.cVi [.int (I 108 2)] [.int (8 : Int32), .ref (q1 + 7)] g rfl ck_tk (c_tk_placeOf d  hL h) cl_ps_75 (by omega) (by decide) rfl rfl (Nat.le_of_ble_eq_true rfl) d_ps_row_45 (fun v2 I3 R2 hL h => ?_)
        refine PW.aload_n g rfl rfl d_ps_row_48 ?_
        obtain ⟨q3, eq3, hq3, h⟩ := h
        refine PW.getR (q := q3) g fi_ps_18 rfl eq3 d_ps_row_49 ?_
        refine PW.getR (q := (q3 + 2)) g fi_ps_79 hq3 (hL q3 5 1 hq3 (by decide)) d_ps_row_52 ?_
        refine PW.getI g fi_ps_83 (pw_shp hq3 1 (by decide)) d_ps_row_55 ?_
        refine PX.cVi [.int (8 : Int32), .int v2, .int (I3 (q3 + 2) 4)] [] g (pw_shp hq1 2 (by decide)) ck_st (c_st_open d (pw_shp hq1 2 (by decide)) hL h) cl_ps_88 (by omega) (by decide) rfl rfl (Nat.le_of_ble_eq_true rfl) d_ps_row_58 (fun v3 I4 R3 hL h => ?_)
        refine PW.istore g (L' := [some (.ref 108), some (.ref (q1 + 7)), some (.int x2), some (.int x3), some (.int v3)]) (by decide) rfl rfl d_ps_row_61 ?_
        refine PW.aload_n g rfl rfl d_ps_row_63 ?_
        refine PW.getR (q := (q1 + 13)) g fi_ps_113 (pw_shp hq1 2 (by decide)) (hL (q1 + 7) 10 5 (pw_shp hq1 2 (by decide)) (by decide)) d_ps_row_64 ?_
        refine PW.iload g rfl d_ps_row_67 ?_
        refine PW.iload_n g rfl rfl d_ps_row_69 ?_
        refine PX.cSv [.ref (q1 + 13), .int v3, .int x3] [] g (c_sr_put d (pw_shp (pw_shp hq1 2 (by decide)) 5 (by decide)) hL h) cl_ps_102 (by omega) (by decide) rfl rfl (Nat.le_of_ble_eq_true rfl) d_ps_row_70 (fun I5 R4 hL h => ?_)
        refine PW.aload_n g rfl rfl d_ps_row_73 ?_
        refine PW.iconst g (3) (by decide) d_ps_row_74 ?_
        refine PW.iconst g (0) (by decide) d_ps_row_75 ?_
        refine PX.cVv [.int (3 : Int32), .int (0 : Int32)] [] g rfl ck_ps (c_ps_chain d  hL h) cl_ps_122 (by omega) (by decide) rfl rfl (Nat.le_of_ble_eq_true rfl) d_ps_row_76 (fun I6 R5 hL h => ?_)
        refine PW.aload_n g rfl rfl d_ps_row_79 ?_
        refine PW.iload g rfl d_ps_row_80 ?_
        refine PW.aload_n g rfl rfl d_ps_row_82 ?_
        refine PW.getR (q := 109) g fi_ps_12 rfl (hL 108 7 0 rfl (by decide)) d_ps_row_83 ?_
        refine PW.aload_n g rfl rfl d_ps_row_86 ?_
        refine PW.getI g fi_ps_31 rfl d_ps_row_87 ?_
        refine PW.iconst g (1) (by decide) d_ps_row_90 ?_
        refine PW.isub g d_ps_row_91 ?_
        refine PX.cVi [.int ((I6 108 2) - (1 : Int32))] [.int v3, .ref (q1 + 7)] g rfl ck_tk (c_tk_endOf d  hL h) cl_ps_126 (by omega) (by decide) rfl rfl (Nat.le_of_ble_eq_true rfl) d_ps_row_92 (fun v6 I7 R6 hL h => ?_)
        refine PW.aload_n g rfl rfl d_ps_row_95 ?_
        obtain ⟨q4, eq4, hq4, h⟩ := h
        refine PW.getR (q := q4) g fi_ps_18 rfl eq4 d_ps_row_96 ?_
        refine PW.getR (q := (q4 + 2)) g fi_ps_79 hq4 (hL q4 5 1 hq4 (by decide)) d_ps_row_99 ?_
        refine PW.getI g fi_ps_83 (pw_shp hq4 1 (by decide)) d_ps_row_102 ?_
        refine PX.cVv [.int v3, .int v6, .int (I7 (q4 + 2) 4)] [] g (pw_shp hq1 2 (by decide)) ck_st (c_st_close d (pw_shp hq1 2 (by decide)) hL h) cl_ps_129 (by omega) (by decide) rfl rfl (Nat.le_of_ble_eq_true rfl) d_ps_row_105 (fun I8 R7 hL h => ?_)
        refine PW.aload_n g rfl rfl d_ps_row_108 ?_
        refine PX.cVz [] [] g rfl ck_ps (c_ps_takeBar d  hL h) cl_ps_157 (by omega) (by decide) rfl rfl (Nat.le_of_ble_eq_true rfl) d_ps_row_109 (fun v8 I9 R8 hL hzv8 h => ?_)
        refine PW.istore_n g rfl (L' := [some (.ref 108), some (.ref (q1 + 7)), some (.int v8), some (.int x3), some (.int v3)]) (by decide) rfl rfl d_ps_row_112 ?_
        refine PW.iinc g rfl (show x3 + Int32.ofInt (1) = (x3 + 1) from congrArg (HAdd.hAdd x3) (by decide)) (by decide) rfl (L' := [some (.ref 108), some (.ref (q1 + 7)), some (.int v8), some (.int (x3 + 1)), some (.int v3)]) rfl d_ps_row_113 ?_
        refine PW.goto g 24 (by decide) d_ps_row_116 ?_
        refine PX.sub [some (.ref 108), some (.ref (q1 + 7)), some (.int v8), some (.int (x3 + 1)), none] ⟨rfl, ⟨rfl, ⟨rfl, ⟨rfl, trivial⟩⟩⟩⟩ ?_
        exact ih _ _ _ _ hL h
def w_ps_row (I : pI) (R : pR) (Q : pI → pR → Prop) : Prop := (∃ q1, R 108 1 = some q1 ∧ pSH[q1]? = some (0, 5) ∧ (∃ q2, R 108 1 = some q2 ∧ pSH[q2]? = some (0, 5) ∧ (w_ft_addRow q2 I R (fun I1 R1 => (∀ I2, I2 = pw_wI I1 108 4 (0 : Int32) → (∃ n1, l_ps_row_24 q1 (fun I10 R9 => Q I10 R9) Q n1 (1 : Int32) (0 : Int32) I2 R1))))))
set_option maxHeartbeats 4000000 in
set_option maxRecDepth 100000 in
theorem c_ps_row (d : Nat) {I : pI} {R : pR} {Q : pI → pR → Prop} (hL : pw_Lay R) (h : w_ps_row  I R Q) : Cm (d + 67) m_ps_row [.ref 108] I R (qv Q) := by
  refine Cm.of [some (.ref 108), none, none, none, none] (by decide) rfl (Nat.le_of_ble_eq_true rfl) (by simp) (fun E B g hF => ?_)
  unfold w_ps_row at h
  refine PW.aload_n g rfl rfl d_ps_row_0 ?_
  obtain ⟨q1, eq1, hq1, h⟩ := h
  refine PW.getR (q := q1) g fi_ps_18 rfl eq1 d_ps_row_1 ?_
  refine PW.getR (q := (q1 + 7)) g fi_ps_71 hq1 (hL q1 5 2 hq1 (by decide)) d_ps_row_4 ?_
  refine PW.astore_n g rfl (L' := [some (.ref 108), some (.ref (q1 + 7)), none, none, none]) (by decide) rfl rfl d_ps_row_7 ?_
  refine PW.aload_n g rfl rfl d_ps_row_8 ?_
  obtain ⟨q2, eq2, hq2, h⟩ := h
  refine PW.getR (q := q2) g fi_ps_18 rfl eq2 d_ps_row_9 ?_
  refine PX.cVv [] [] g hq2 ck_ft (c_ft_addRow d hq2 hL h) cl_ps_163 (by omega) (by decide) rfl rfl (Nat.le_of_ble_eq_true rfl) d_ps_row_12 (fun I1 R1 hL h => ?_)
  refine PW.aload_n g rfl rfl d_ps_row_15 ?_
  refine PW.iconst g (0) (by decide) d_ps_row_16 ?_
  refine PW.putI g fi_ps_94 rfl (pw_nb (Or.inl rfl)) (pw_fb (Or.inl rfl)) d_ps_row_17 ?_
  refine PX.gI (fun I2 eI2 => ?_)
  have h := h _ eI2
  refine PW.iconst g (1) (by decide) d_ps_row_20 ?_
  refine PW.istore_n g rfl (L' := [some (.ref 108), some (.ref (q1 + 7)), some (.int (1 : Int32)), none, none]) (by decide) rfl rfl d_ps_row_21 ?_
  refine PW.iconst g (0) (by decide) d_ps_row_22 ?_
  refine PW.istore_n g rfl (L' := [some (.ref 108), some (.ref (q1 + 7)), some (.int (1 : Int32)), some (.int (0 : Int32)), none]) (by decide) rfl rfl d_ps_row_23 ?_
  refine PX.sub [some (.ref 108), some (.ref (q1 + 7)), some (.int (1 : Int32)), some (.int (0 : Int32)), none] ⟨rfl, ⟨rfl, ⟨rfl, ⟨rfl, trivial⟩⟩⟩⟩ ?_
  obtain ⟨n1, h⟩ := h
  refine L_ps_row_24 d hq1 g hF (fun I10 R9 hL h => ?_) n1 (1 : Int32) (0 : Int32) I2 R1 hL h
  exact PX.vret g hF rfl d_ps_row_119 hL h
def l_ps_where_10 (K : pI → pR → Prop) (Q : pI → pR → Prop) : Nat → Int32 → Int32 → pI → pR → Prop
  | 0, _, _, _, _ => False
  | n + 1, x1, x2, I, R => (((120 : Int32) ≤ x2 → K I R) ∧ (¬ (120 : Int32) ≤ x2 → ((x1 = 0 → K I R) ∧ (¬ x1 = 0 → (∃ q1, R 108 1 = some q1 ∧ pSH[q1]? = some (0, 5) ∧ (w_tk_numberOf (I 108 2) I R (fun v2 I2 R2 => (w_tk_placeOf (I2 108 2) I2 R2 (fun v3 I3 R3 => (w_ft_addColumn q1 v2 v3 I3 R3 (fun I4 R4 => (w_ps_need (259 : Int32) I4 R4 (fun I5 R5 => (w_ps_takeBar  I5 R5 (fun v6 I6 R6 => l_ps_where_10 K Q n v6 (x2 + 1) I6 R6)))))))))))))))
set_option maxHeartbeats 4000000 in
set_option maxRecDepth 100000 in
theorem L_ps_where_10 (d : Nat) {K : pI → pR → Prop} {Q : pI → pR → Prop} {E : pE} {B : pB} (g : pw_G m_ps_where (d + 68) 0 0 E B) (hF : pX (qv Q) E B) (hK : ∀ (I : pI) (R : pR), pw_Lay R → K  I R → PX E B m_ps_where.2.2.1 67 [some (.ref 108), none, none] [] I R) : ∀ (n : Nat) (x1 : Int32) (x2 : Int32) (I : pI) (R : pR), pw_Lay R → l_ps_where_10  K Q n x1 x2 I R → PX E B m_ps_where.2.2.1 10 [some (.ref 108), some (.int x1), some (.int x2)] [] I R := by
  intro n
  induction n with
  | zero => intro x1 x2 I R hL h; exact False.elim h
  | succ n ih =>
    intro x1 x2 I R hL h
    refine PW.iload_n g rfl rfl d_ps_where_10 ?_
    refine PW.bipush g (120) (by decide) d_ps_where_11 ?_
    refine PW.icmp_ge g 67 (by decide) d_ps_where_13 (fun c1 => ?_) (fun c1 => ?_)
    · have h := h.1 c1
      refine PX.sub [some (.ref 108), none, none] ⟨rfl, trivial⟩ ?_
      exact hK _ _ hL h
    · have h := h.2 c1
      refine PW.iload_n g rfl rfl d_ps_where_16 ?_
      refine PW.if_eq g 67 (by decide) d_ps_where_17 (fun c2 => ?_) (fun c2 => ?_)
      · have h := h.1 c2
        refine PX.sub [some (.ref 108), none, none] ⟨rfl, trivial⟩ ?_
        exact hK _ _ hL h
      · have h := h.2 c2
        refine PW.aload_n g rfl rfl d_ps_where_20 ?_
        obtain ⟨q1, eq1, hq1, h⟩ := h
        refine PW.getR (q := q1) g fi_ps_18 rfl eq1 d_ps_where_21 ?_
        refine PW.aload_n g rfl rfl d_ps_where_24 ?_
        refine PW.getR (q := 109) g fi_ps_12 rfl (hL 108 7 0 rfl (by decide)) d_ps_where_25 ?_
        refine PW.aload_n g rfl rfl d_ps_where_28 ?_
        refine PW.getI g fi_ps_31 rfl d_ps_where_29 ?_
        refine PX.cVi [.int (I 108 2)] [.ref q1] g rfl ck_tk (c_tk_numberOf d  hL h) cl_ps_119 (by omega) (by decide) rfl rfl (Nat.le_of_ble_eq_true rfl) d_ps_where_32 (fun v2 I2 R2 hL h => ?_)
        refine PW.aload_n g rfl rfl d_ps_where_35 ?_
        refine PW.getR (q := 109) g fi_ps_12 rfl (hL 108 7 0 rfl (by decide)) d_ps_where_36 ?_
        refine PW.aload_n g rfl rfl d_ps_where_39 ?_
        refine PW.getI g fi_ps_31 rfl d_ps_where_40 ?_
        refine PX.cVi [.int (I2 108 2)] [.int v2, .ref q1] g rfl ck_tk (c_tk_placeOf d  hL h) cl_ps_75 (by omega) (by decide) rfl rfl (Nat.le_of_ble_eq_true rfl) d_ps_where_43 (fun v3 I3 R3 hL h => ?_)
        refine PX.cVv [.int v2, .int v3] [] g hq1 ck_ft (c_ft_addColumn d hq1 hL h) cl_ps_154 (by omega) (by decide) rfl rfl (Nat.le_of_ble_eq_true rfl) d_ps_where_46 (fun I4 R4 hL h => ?_)
        refine PW.aload_n g rfl rfl d_ps_where_49 ?_
        refine PW.sipush g (259) (by decide) d_ps_where_50 ?_
        refine PX.cVv [.int (259 : Int32)] [] g rfl ck_ps (c_ps_need d  hL h) cl_ps_62 (by omega) (by decide) rfl rfl (Nat.le_of_ble_eq_true rfl) d_ps_where_53 (fun I5 R5 hL h => ?_)
        refine PW.aload_n g rfl rfl d_ps_where_56 ?_
        refine PX.cVz [] [] g rfl ck_ps (c_ps_takeBar d  hL h) cl_ps_157 (by omega) (by decide) rfl rfl (Nat.le_of_ble_eq_true rfl) d_ps_where_57 (fun v6 I6 R6 hL hzv6 h => ?_)
        refine PW.istore_n g rfl (L' := [some (.ref 108), some (.int v6), some (.int x2)]) (by decide) rfl rfl d_ps_where_60 ?_
        refine PW.iinc g rfl (show x2 + Int32.ofInt (1) = (x2 + 1) from congrArg (HAdd.hAdd x2) (by decide)) (by decide) rfl (L' := [some (.ref 108), some (.int v6), some (.int (x2 + 1))]) rfl d_ps_where_61 ?_
        refine PW.goto g 10 (by decide) d_ps_where_64 ?_
        refine PX.sub [some (.ref 108), some (.int v6), some (.int (x2 + 1))] ⟨rfl, ⟨rfl, ⟨rfl, trivial⟩⟩⟩ ?_
        exact ih _ _ _ _ hL h
def l_ps_where_79 (K : pI → pR → Prop) (Q : pI → pR → Prop) : Nat → Int32 → pI → pR → Prop
  | 0, _, _, _ => False
  | n + 1, x2, I, R => (((120 : Int32) ≤ x2 → K I R) ∧ (¬ (120 : Int32) ≤ x2 → (w_ps_take (59 : Int32) I R (fun v9 I10 R10 => ((v9 = 0 → K I10 R10) ∧ (¬ v9 = 0 → (w_ps_row  I10 R10 (fun I11 R11 => l_ps_where_79 K Q n (x2 + 1) I11 R11))))))))
set_option maxHeartbeats 4000000 in
set_option maxRecDepth 100000 in
theorem L_ps_where_79 (d : Nat) {K : pI → pR → Prop} {Q : pI → pR → Prop} {E : pE} {B : pB} (g : pw_G m_ps_where (d + 68) 0 0 E B) (hF : pX (qv Q) E B) (hK : ∀ (I : pI) (R : pR), pw_Lay R → K  I R → PX E B m_ps_where.2.2.1 104 [none, none, none] [] I R) : ∀ (n : Nat) (x2 : Int32) (I : pI) (R : pR), pw_Lay R → l_ps_where_79  K Q n x2 I R → PX E B m_ps_where.2.2.1 79 [some (.ref 108), none, some (.int x2)] [] I R := by
  intro n
  induction n with
  | zero => intro x2 I R hL h; exact False.elim h
  | succ n ih =>
    intro x2 I R hL h
    refine PW.iload_n g rfl rfl d_ps_where_79 ?_
    refine PW.bipush g (120) (by decide) d_ps_where_80 ?_
    refine PW.icmp_ge g 104 (by decide) d_ps_where_82 (fun c3 => ?_) (fun c3 => ?_)
    · have h := h.1 c3
      refine PX.sub [none, none, none] trivial ?_
      exact hK _ _ hL h
    · have h := h.2 c3
      refine PW.aload_n g rfl rfl d_ps_where_85 ?_
      refine PW.bipush g (59) (by decide) d_ps_where_86 ?_
      refine PX.cVz [.int (59 : Int32)] [] g rfl ck_ps (c_ps_take d  hL h) cl_ps_38 (by omega) (by decide) rfl rfl (Nat.le_of_ble_eq_true rfl) d_ps_where_88 (fun v9 I10 R10 hL hzv9 h => ?_)
      refine PW.if_eq g 104 (by decide) d_ps_where_91 (fun c4 => ?_) (fun c4 => ?_)
      · have h := h.1 c4
        refine PX.sub [none, none, none] trivial ?_
        exact hK _ _ hL h
      · have h := h.2 c4
        refine PW.aload_n g rfl rfl d_ps_where_94 ?_
        refine PX.cVv [] [] g rfl ck_ps (c_ps_row d  hL h) cl_ps_160 (by omega) (by decide) rfl rfl (Nat.le_of_ble_eq_true rfl) d_ps_where_95 (fun I11 R11 hL h => ?_)
        refine PW.iinc g rfl (show x2 + Int32.ofInt (1) = (x2 + 1) from congrArg (HAdd.hAdd x2) (by decide)) (by decide) rfl (L' := [some (.ref 108), none, some (.int (x2 + 1))]) rfl d_ps_where_98 ?_
        refine PW.goto g 79 (by decide) d_ps_where_101 ?_
        refine PX.sub [some (.ref 108), none, some (.int (x2 + 1))] ⟨rfl, ⟨rfl, trivial⟩⟩ ?_
        exact ih _ _ _ hL h
def w_ps_where (I : pI) (R : pR) (Q : pI → pR → Prop) : Prop := (w_ps_need (58 : Int32) I R (fun I1 R1 => (∃ n2, l_ps_where_10 (fun I7 R7 => (w_ps_need (59 : Int32) I7 R7 (fun I8 R8 => (w_ps_row I8 R8 (fun I9 R9 => (∃ n1, l_ps_where_79 (fun I12 R12 => Q I12 R12) Q n1 (0 : Int32) I9 R9)))))) Q n2 (1 : Int32) (0 : Int32) I1 R1)))
set_option maxHeartbeats 4000000 in
set_option maxRecDepth 100000 in
theorem c_ps_where (d : Nat) {I : pI} {R : pR} {Q : pI → pR → Prop} (hL : pw_Lay R) (h : w_ps_where  I R Q) : Cm (d + 68) m_ps_where [.ref 108] I R (qv Q) := by
  refine Cm.of [some (.ref 108), none, none] (by decide) rfl (Nat.le_of_ble_eq_true rfl) (by simp) (fun E B g hF => ?_)
  unfold w_ps_where at h
  refine PW.aload_n g rfl rfl d_ps_where_0 ?_
  refine PW.bipush g (58) (by decide) d_ps_where_1 ?_
  refine PX.cVv [.int (58 : Int32)] [] g rfl ck_ps (c_ps_need d  hL h) cl_ps_62 (by omega) (by decide) rfl rfl (Nat.le_of_ble_eq_true rfl) d_ps_where_3 (fun I1 R1 hL h => ?_)
  refine PW.iconst g (1) (by decide) d_ps_where_6 ?_
  refine PW.istore_n g rfl (L' := [some (.ref 108), some (.int (1 : Int32)), none]) (by decide) rfl rfl d_ps_where_7 ?_
  refine PW.iconst g (0) (by decide) d_ps_where_8 ?_
  refine PW.istore_n g rfl (L' := [some (.ref 108), some (.int (1 : Int32)), some (.int (0 : Int32))]) (by decide) rfl rfl d_ps_where_9 ?_
  refine PX.sub [some (.ref 108), some (.int (1 : Int32)), some (.int (0 : Int32))] ⟨rfl, ⟨rfl, ⟨rfl, trivial⟩⟩⟩ ?_
  obtain ⟨n2, h⟩ := h
  refine L_ps_where_10 d g hF (fun I7 R7 hL h => ?_) n2 (1 : Int32) (0 : Int32) I1 R1 hL h
  refine PW.aload_n g rfl rfl d_ps_where_67 ?_
  refine PW.bipush g (59) (by decide) d_ps_where_68 ?_
  refine PX.cVv [.int (59 : Int32)] [] g rfl ck_ps (c_ps_need d  hL h) cl_ps_62 (by omega) (by decide) rfl rfl (Nat.le_of_ble_eq_true rfl) d_ps_where_70 (fun I8 R8 hL h => ?_)
  refine PW.aload_n g rfl rfl d_ps_where_73 ?_
  refine PX.cVv [] [] g rfl ck_ps (c_ps_row d  hL h) cl_ps_160 (by omega) (by decide) rfl rfl (Nat.le_of_ble_eq_true rfl) d_ps_where_74 (fun I9 R9 hL h => ?_)
  refine PW.iconst g (0) (by decide) d_ps_where_77 ?_
  refine PW.istore_n g rfl (L' := [some (.ref 108), none, some (.int (0 : Int32))]) (by decide) rfl rfl d_ps_where_78 ?_
  refine PX.sub [some (.ref 108), none, some (.int (0 : Int32))] ⟨rfl, ⟨rfl, trivial⟩⟩ ?_
  obtain ⟨n1, h⟩ := h
  refine L_ps_where_79 d g hF (fun I12 R12 hL h => ?_) n1 (0 : Int32) I9 R9 hL h
  exact PX.vret g hF rfl d_ps_where_104 hL h
def l_ps_read_54 (a1 : Nat) (a3 : Nat) (K : pI → pR → Prop) (Q : Int32 → pI → pR → Prop) : Nat → Int32 → pI → pR → Prop
  | 0, _, _, _ => False
  | n + 1, x4, I, R => (((120 : Int32) ≤ x4 → K I R) ∧ (¬ (120 : Int32) ≤ x4 → (w_ps_next  I R (fun v5 I7 R6 => ((v5 = (69 : Int32) → (w_ps_part  I7 R6 (fun I8 R7 => l_ps_read_54 a1 a3 K Q n (x4 + 1) I8 R7))) ∧ (¬ v5 = (69 : Int32) → (w_ps_next  I7 R6 (fun v7 I9 R8 => ((¬ v7 = (87 : Int32) → K I9 R8) ∧ (v7 = (87 : Int32) → (w_ps_part  I9 R8 (fun I10 R9 => l_ps_read_54 a1 a3 K Q n (x4 + 1) I10 R9))))))))))))
set_option maxHeartbeats 4000000 in
set_option maxRecDepth 100000 in
theorem L_ps_read_54 (d : Nat) {a1 : Nat} {a3 : Nat} (ha1 : pSH[a1]? = some (2, 120)) (ha3 : pSH[a3]? = some (0, 5)) {K : pI → pR → Prop} {Q : Int32 → pI → pR → Prop} {E : pE} {B : pB} (g : pw_G m_ps_read (d + 70) 0 0 E B) (hF : pX (qi Q) E B) (hK : ∀ (I : pI) (R : pR), pw_Lay R → K  I R → PX E B m_ps_read.2.2.1 89 [some (.ref 108), none, none, none, none] [] I R) : ∀ (n : Nat) (x4 : Int32) (I : pI) (R : pR), pw_Lay R → l_ps_read_54 a1 a3 K Q n x4 I R → PX E B m_ps_read.2.2.1 54 [some (.ref 108), none, none, none, some (.int x4)] [] I R := by
  intro n
  induction n with
  | zero => intro x4 I R hL h; exact False.elim h
  | succ n ih =>
    intro x4 I R hL h
    refine PW.iload g rfl d_ps_read_54 ?_
    refine PW.bipush g (120) (by decide) d_ps_read_56 ?_
    refine PW.icmp_ge g 89 (by decide) d_ps_read_58 (fun c2 => ?_) (fun c2 => ?_)
    · have h := h.1 c2
      refine PX.sub [some (.ref 108), none, none, none, none] ⟨rfl, trivial⟩ ?_
      exact hK _ _ hL h
    · have h := h.2 c2
      refine PW.aload_n g rfl rfl d_ps_read_61 ?_
      refine PX.cVi [] [] g rfl ck_ps (c_ps_next d  hL h) cl_ps_49 (by omega) (by decide) rfl rfl (Nat.le_of_ble_eq_true rfl) d_ps_read_62 (fun v5 I7 R6 hL h => ?_)
      refine PW.bipush g (69) (by decide) d_ps_read_65 ?_
      refine PW.icmp_eq g 79 (by decide) d_ps_read_67 (fun c3 => ?_) (fun c3 => ?_)
      · have h := h.1 c3
        refine PW.aload_n g rfl rfl d_ps_read_79 ?_
        refine PX.cVv [] [] g rfl ck_ps (c_ps_part d  hL h) cl_ps_46 (by omega) (by decide) rfl rfl (Nat.le_of_ble_eq_true rfl) d_ps_read_80 (fun I8 R7 hL h => ?_)
        refine PW.iinc g rfl (show x4 + Int32.ofInt (1) = (x4 + 1) from congrArg (HAdd.hAdd x4) (by decide)) (by decide) rfl (L' := [some (.ref 108), none, none, none, some (.int (x4 + 1))]) rfl d_ps_read_83 ?_
        refine PW.goto g 54 (by decide) d_ps_read_86 ?_
        refine PX.sub [some (.ref 108), none, none, none, some (.int (x4 + 1))] ⟨rfl, ⟨rfl, trivial⟩⟩ ?_
        exact ih _ _ _ hL h
      · have h := h.2 c3
        refine PW.aload_n g rfl rfl d_ps_read_70 ?_
        refine PX.cVi [] [] g rfl ck_ps (c_ps_next d  hL h) cl_ps_49 (by omega) (by decide) rfl rfl (Nat.le_of_ble_eq_true rfl) d_ps_read_71 (fun v7 I9 R8 hL h => ?_)
        refine PW.bipush g (87) (by decide) d_ps_read_74 ?_
        refine PW.icmp_ne g 89 (by decide) d_ps_read_76 (fun c4 => ?_) (fun c4 => ?_)
        · have h := h.1 c4
          refine PX.sub [some (.ref 108), none, none, none, none] ⟨rfl, trivial⟩ ?_
          exact hK _ _ hL h
        · have h := h.2 c4
          refine PW.aload_n g rfl rfl d_ps_read_79 ?_
          refine PX.cVv [] [] g rfl ck_ps (c_ps_part d  hL h) cl_ps_46 (by omega) (by decide) rfl rfl (Nat.le_of_ble_eq_true rfl) d_ps_read_80 (fun I10 R9 hL h => ?_)
          refine PW.iinc g rfl (show x4 + Int32.ofInt (1) = (x4 + 1) from congrArg (HAdd.hAdd x4) (by decide)) (by decide) rfl (L' := [some (.ref 108), none, none, none, some (.int (x4 + 1))]) rfl d_ps_read_83 ?_
          refine PW.goto g 54 (by decide) d_ps_read_86 ?_
          refine PX.sub [some (.ref 108), none, none, none, some (.int (x4 + 1))] ⟨rfl, ⟨rfl, trivial⟩⟩ ?_
          exact ih _ _ _ hL h
def j_ps_read_103 (a1 : Nat) (a3 : Nat) (Q : Int32 → pI → pR → Prop) (I : pI) (R : pR) : Prop := (w_ps_take (68 : Int32) I R (fun v10 I13 R12 => ((v10 = 0 → (w_ps_next  I13 R12 (fun v11 I14 R13 => ((v11 = (256 : Int32) → Q (I14 108 3) I14 R13) ∧ (¬ v11 = (256 : Int32) → (w_ps_fail  I14 R13 (fun I15 R14 => Q (I15 108 3) I15 R14))))))) ∧ (¬ v10 = 0 → (w_ps_where  I13 R12 (fun I16 R15 => (w_ps_next  I16 R15 (fun v14 I17 R16 => ((v14 = (256 : Int32) → Q (I17 108 3) I17 R16) ∧ (¬ v14 = (256 : Int32) → (w_ps_fail  I17 R16 (fun I18 R17 => Q (I18 108 3) I18 R17))))))))))))
set_option maxHeartbeats 4000000 in
set_option maxRecDepth 100000 in
theorem J_ps_read_103 (d : Nat) {a1 : Nat} {a3 : Nat} (ha1 : pSH[a1]? = some (2, 120)) (ha3 : pSH[a3]? = some (0, 5)) {Q : Int32 → pI → pR → Prop} {E : pE} {B : pB} (g : pw_G m_ps_read (d + 70) 0 0 E B) (hF : pX (qi Q) E B) {I : pI} {R : pR} (hL : pw_Lay R) (h : j_ps_read_103 a1 a3 Q  I R) : PX E B m_ps_read.2.2.1 103 [some (.ref 108), none, none, none, none] [] I R := by
  unfold j_ps_read_103 at h
  refine PW.aload_n g rfl rfl d_ps_read_103 ?_
  refine PW.bipush g (68) (by decide) d_ps_read_104 ?_
  refine PX.cVz [.int (68 : Int32)] [] g rfl ck_ps (c_ps_take d  hL h) cl_ps_38 (by omega) (by decide) rfl rfl (Nat.le_of_ble_eq_true rfl) d_ps_read_106 (fun v10 I13 R12 hL hzv10 h => ?_)
  refine PW.if_eq g 116 (by decide) d_ps_read_109 (fun c6 => ?_) (fun c6 => ?_)
  · have h := h.1 c6
    refine PW.aload_n g rfl rfl d_ps_read_116 ?_
    refine PX.cVi [] [] g rfl ck_ps (c_ps_next d  hL h) cl_ps_49 (by omega) (by decide) rfl rfl (Nat.le_of_ble_eq_true rfl) d_ps_read_117 (fun v11 I14 R13 hL h => ?_)
    refine PW.sipush g (256) (by decide) d_ps_read_120 ?_
    refine PW.icmp_eq g 130 (by decide) d_ps_read_123 (fun c7 => ?_) (fun c7 => ?_)
    · have h := h.1 c7
      refine PW.aload_n g rfl rfl d_ps_read_130 ?_
      refine PW.getI g fi_ps_35 rfl d_ps_read_131 ?_
      exact PX.iret g hF rfl d_ps_read_134 hL h
    · have h := h.2 c7
      refine PW.aload_n g rfl rfl d_ps_read_126 ?_
      refine PX.cVv [] [] g rfl ck_ps (c_ps_fail d  hL h) cl_ps_56 (by omega) (by decide) rfl rfl (Nat.le_of_ble_eq_true rfl) d_ps_read_127 (fun I15 R14 hL h => ?_)
      refine PW.aload_n g rfl rfl d_ps_read_130 ?_
      refine PW.getI g fi_ps_35 rfl d_ps_read_131 ?_
      exact PX.iret g hF rfl d_ps_read_134 hL h
  · have h := h.2 c6
    refine PW.aload_n g rfl rfl d_ps_read_112 ?_
    refine PX.cVv [] [] g rfl ck_ps (c_ps_where d  hL h) cl_ps_53 (by omega) (by decide) rfl rfl (Nat.le_of_ble_eq_true rfl) d_ps_read_113 (fun I16 R15 hL h => ?_)
    refine PW.aload_n g rfl rfl d_ps_read_116 ?_
    refine PX.cVi [] [] g rfl ck_ps (c_ps_next d  hL h) cl_ps_49 (by omega) (by decide) rfl rfl (Nat.le_of_ble_eq_true rfl) d_ps_read_117 (fun v14 I17 R16 hL h => ?_)
    refine PW.sipush g (256) (by decide) d_ps_read_120 ?_
    refine PW.icmp_eq g 130 (by decide) d_ps_read_123 (fun c8 => ?_) (fun c8 => ?_)
    · have h := h.1 c8
      refine PW.aload_n g rfl rfl d_ps_read_130 ?_
      refine PW.getI g fi_ps_35 rfl d_ps_read_131 ?_
      exact PX.iret g hF rfl d_ps_read_134 hL h
    · have h := h.2 c8
      refine PW.aload_n g rfl rfl d_ps_read_126 ?_
      refine PX.cVv [] [] g rfl ck_ps (c_ps_fail d  hL h) cl_ps_56 (by omega) (by decide) rfl rfl (Nat.le_of_ble_eq_true rfl) d_ps_read_127 (fun I18 R17 hL h => ?_)
      refine PW.aload_n g rfl rfl d_ps_read_130 ?_
      refine PW.getI g fi_ps_35 rfl d_ps_read_131 ?_
      exact PX.iret g hF rfl d_ps_read_134 hL h
def j_ps_read_89 (a1 : Nat) (a3 : Nat) (Q : Int32 → pI → pR → Prop) (I : pI) (R : pR) : Prop := (w_ps_take (67 : Int32) I R (fun v9 I12 R11 => ((v9 = 0 → (j_ps_read_103 a1 a3 Q I12 R11)) ∧ (¬ v9 = 0 → (w_ps_block (2 : Int32) I12 R11 (fun I19 R18 => (j_ps_read_103 a1 a3 Q I19 R18)))))))
set_option maxHeartbeats 4000000 in
set_option maxRecDepth 100000 in
theorem J_ps_read_89 (d : Nat) {a1 : Nat} {a3 : Nat} (ha1 : pSH[a1]? = some (2, 120)) (ha3 : pSH[a3]? = some (0, 5)) {Q : Int32 → pI → pR → Prop} {E : pE} {B : pB} (g : pw_G m_ps_read (d + 70) 0 0 E B) (hF : pX (qi Q) E B) {I : pI} {R : pR} (hL : pw_Lay R) (h : j_ps_read_89 a1 a3 Q  I R) : PX E B m_ps_read.2.2.1 89 [some (.ref 108), none, none, none, none] [] I R := by
  unfold j_ps_read_89 at h
  refine PW.aload_n g rfl rfl d_ps_read_89 ?_
  refine PW.bipush g (67) (by decide) d_ps_read_90 ?_
  refine PX.cVz [.int (67 : Int32)] [] g rfl ck_ps (c_ps_take d  hL h) cl_ps_38 (by omega) (by decide) rfl rfl (Nat.le_of_ble_eq_true rfl) d_ps_read_92 (fun v9 I12 R11 hL hzv9 h => ?_)
  refine PW.if_eq g 103 (by decide) d_ps_read_95 (fun c5 => ?_) (fun c5 => ?_)
  · have h := h.1 c5
    refine PX.sub [some (.ref 108), none, none, none, none] ⟨rfl, trivial⟩ ?_
    exact J_ps_read_103 d ha1 ha3 g hF hL h
  · have h := h.2 c5
    refine PW.aload_n g rfl rfl d_ps_read_98 ?_
    refine PW.iconst g (2) (by decide) d_ps_read_99 ?_
    refine PX.cVv [.int (2 : Int32)] [] g rfl ck_ps (c_ps_block d  hL h) cl_ps_42 (by omega) (by decide) rfl rfl (Nat.le_of_ble_eq_true rfl) d_ps_read_100 (fun I19 R18 hL h => ?_)
    refine PX.sub [some (.ref 108), none, none, none, none] ⟨rfl, trivial⟩ ?_
    exact J_ps_read_103 d ha1 ha3 g hF hL h
def w_ps_read (a1 : Nat) (a3 : Nat) (a2 : Int32) (I : pI) (R : pR) (Q : Int32 → pI → pR → Prop) : Prop := (∀ R1, R1 = pw_wR R 108 1 (some a3) → (∃ q1, R1 108 1 = some q1 ∧ pSH[q1]? = some (0, 5) ∧ (w_ft_begin q1 a1 a2 I R1 (fun I1 R2 => (w_tk_read a1 a2 I1 R2 (fun I2 R3 => (∀ I3, I3 = pw_wI I2 108 2 (0 : Int32) → (∀ I4, I4 = pw_wI I3 108 3 (-1 : Int32) → (w_ps_take (71 : Int32) I4 R3 (fun v3 I5 R4 => ((v3 = 0 → (w_ps_part  I5 R4 (fun I6 R5 => (∃ n1, l_ps_read_54 a1 a3 (fun I11 R10 => (j_ps_read_89 a1 a3 Q I11 R10)) Q n1 (0 : Int32) I6 R5)))) ∧ (¬ v3 = 0 → (w_ps_block (0 : Int32) I5 R4 (fun I20 R19 => (w_ps_part  I20 R19 (fun I21 R20 => (∃ n2, l_ps_read_54 a1 a3 (fun I22 R21 => (j_ps_read_89 a1 a3 Q I22 R21)) Q n2 (0 : Int32) I21 R20)))))))))))))))))
set_option maxHeartbeats 4000000 in
set_option maxRecDepth 100000 in
theorem c_ps_read (d : Nat) {a1 : Nat} {a3 : Nat} (ha1 : pSH[a1]? = some (2, 120)) (ha3 : pSH[a3]? = some (0, 5)) {a2 : Int32} {I : pI} {R : pR} {Q : Int32 → pI → pR → Prop} (hL : pw_Lay R) (h : w_ps_read a1 a3 a2 I R Q) : Cm (d + 70) m_ps_read [.ref 108, .ref a1, .int a2, .ref a3] I R (qi Q) := by
  refine Cm.of [some (.ref 108), some (.ref a1), some (.int a2), some (.ref a3), none] (by decide) rfl (Nat.le_of_ble_eq_true rfl) (by simp) (fun E B g hF => ?_)
  unfold w_ps_read at h
  refine PW.aload_n g rfl rfl d_ps_read_0 ?_
  refine PW.aload_n g rfl rfl d_ps_read_1 ?_
  refine PW.putR g fi_ps_18 rfl rfl rfl d_ps_read_2 ?_
  have hL := pw_Lay.put (k := 1) (q := some a3) hL (t := 108) (ci := 7) rfl (by decide)
  refine PX.gR (fun R1 eR1 => ?_)
  have h := h _ eR1
  rw [← eR1] at hL
  refine PW.aload_n g rfl rfl d_ps_read_5 ?_
  obtain ⟨q1, eq1, hq1, h⟩ := h
  refine PW.getR (q := q1) g fi_ps_18 rfl eq1 d_ps_read_6 ?_
  refine PW.aload_n g rfl rfl d_ps_read_9 ?_
  refine PW.iload_n g rfl rfl d_ps_read_10 ?_
  refine PX.cVv [.ref a1, .int a2] [] g hq1 ck_ft (c_ft_begin d hq1 ha1 hL h) cl_ps_22 (by omega) (by decide) rfl rfl (Nat.le_of_ble_eq_true rfl) d_ps_read_11 (fun I1 R2 hL h => ?_)
  refine PW.aload_n g rfl rfl d_ps_read_14 ?_
  refine PW.getR (q := 109) g fi_ps_12 rfl (hL 108 7 0 rfl (by decide)) d_ps_read_15 ?_
  refine PW.aload_n g rfl rfl d_ps_read_18 ?_
  refine PW.iload_n g rfl rfl d_ps_read_19 ?_
  refine PX.cVv [.ref a1, .int a2] [] g rfl ck_tk (c_tk_read d ha1 hL h) cl_ps_28 (by omega) (by decide) rfl rfl (Nat.le_of_ble_eq_true rfl) d_ps_read_20 (fun I2 R3 hL h => ?_)
  refine PW.aload_n g rfl rfl d_ps_read_23 ?_
  refine PW.iconst g (0) (by decide) d_ps_read_24 ?_
  refine PW.putI g fi_ps_31 rfl rfl rfl d_ps_read_25 ?_
  refine PX.gI (fun I3 eI3 => ?_)
  have h := h _ eI3
  refine PW.aload_n g rfl rfl d_ps_read_28 ?_
  refine PW.iconst g (-1) (by decide) d_ps_read_29 ?_
  refine PW.putI g fi_ps_35 rfl rfl rfl d_ps_read_30 ?_
  refine PX.gI (fun I4 eI4 => ?_)
  have h := h _ eI4
  refine PW.aload_n g rfl rfl d_ps_read_33 ?_
  refine PW.bipush g (71) (by decide) d_ps_read_34 ?_
  refine PX.cVz [.int (71 : Int32)] [] g rfl ck_ps (c_ps_take d  hL h) cl_ps_38 (by omega) (by decide) rfl rfl (Nat.le_of_ble_eq_true rfl) d_ps_read_36 (fun v3 I5 R4 hL hzv3 h => ?_)
  refine PW.if_eq g 47 (by decide) d_ps_read_39 (fun c1 => ?_) (fun c1 => ?_)
  · have h := h.1 c1
    refine PW.aload_n g rfl rfl d_ps_read_47 ?_
    refine PX.cVv [] [] g rfl ck_ps (c_ps_part d  hL h) cl_ps_46 (by omega) (by decide) rfl rfl (Nat.le_of_ble_eq_true rfl) d_ps_read_48 (fun I6 R5 hL h => ?_)
    refine PW.iconst g (0) (by decide) d_ps_read_51 ?_
    refine PW.istore g (L' := [some (.ref 108), some (.ref a1), some (.int a2), some (.ref a3), some (.int (0 : Int32))]) (by decide) rfl rfl d_ps_read_52 ?_
    refine PX.sub [some (.ref 108), none, none, none, some (.int (0 : Int32))] ⟨rfl, ⟨rfl, trivial⟩⟩ ?_
    obtain ⟨n1, h⟩ := h
    refine L_ps_read_54 d ha1 ha3 g hF (fun I11 R10 hL h => ?_) n1 (0 : Int32) I6 R5 hL h
    refine PX.sub [some (.ref 108), none, none, none, none] ⟨rfl, trivial⟩ ?_
    exact J_ps_read_89 d ha1 ha3 g hF hL h
  · have h := h.2 c1
    refine PW.aload_n g rfl rfl d_ps_read_42 ?_
    refine PW.iconst g (0) (by decide) d_ps_read_43 ?_
    refine PX.cVv [.int (0 : Int32)] [] g rfl ck_ps (c_ps_block d  hL h) cl_ps_42 (by omega) (by decide) rfl rfl (Nat.le_of_ble_eq_true rfl) d_ps_read_44 (fun I20 R19 hL h => ?_)
    refine PW.aload_n g rfl rfl d_ps_read_47 ?_
    refine PX.cVv [] [] g rfl ck_ps (c_ps_part d  hL h) cl_ps_46 (by omega) (by decide) rfl rfl (Nat.le_of_ble_eq_true rfl) d_ps_read_48 (fun I21 R20 hL h => ?_)
    refine PW.iconst g (0) (by decide) d_ps_read_51 ?_
    refine PW.istore g (L' := [some (.ref 108), some (.ref a1), some (.int a2), some (.ref a3), some (.int (0 : Int32))]) (by decide) rfl rfl d_ps_read_52 ?_
    refine PX.sub [some (.ref 108), none, none, none, some (.int (0 : Int32))] ⟨rfl, ⟨rfl, trivial⟩⟩ ?_
    obtain ⟨n2, h⟩ := h
    refine L_ps_read_54 d ha1 ha3 g hF (fun I22 R21 hL h => ?_) n2 (0 : Int32) I21 R20 hL h
    refine PX.sub [some (.ref 108), none, none, none, none] ⟨rfl, trivial⟩ ?_
    exact J_ps_read_89 d ha1 ha3 g hF hL h
