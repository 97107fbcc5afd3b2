def l_md_judge_160 (K : pI → pR → Prop) (Q : Int32 → pI → pR → Prop) : Nat → Int32 → pI → pR → Prop
  | 0, _, _, _ => False
  | n + 1, x2, I, R => (((I 121 0) ≤ x2 → K I R) ∧ (¬ (I 121 0) ≤ x2 → (vp_in x2 120 ∧ (vp_in (((120 : Int32) * (I 121 10)) + x2) 240 ∧ ∀ I20, I20 = pw_wI I 127 (((120 : Int32) * (I 121 10)) + x2).toNatClampNeg (I 122 x2.toNatClampNeg) → l_md_judge_160 K Q n (x2 + 1) I20 R))))
set_option maxHeartbeats 4000000 in
set_option maxRecDepth 100000 in
theorem L_md_judge_160 (d : Nat) {K : pI → pR → Prop} {Q : Int32 → pI → pR → Prop} {E : pE} {B : pB} (g : pw_G m_md_judge (d + 10) 0 0 E B) (hF : pX (qi Q) E B) (hK : ∀ (I : pI) (R : pR), pw_Lay R → K  I R → PX E B m_md_judge.2.2.1 194 [none, none, none] [] I R) : ∀ (n : Nat) (x2 : Int32) (I : pI) (R : pR), pw_Lay R → l_md_judge_160  K Q n x2 I R → PX E B m_md_judge.2.2.1 160 [some (.ref 121), none, some (.int x2)] [] I R := by
  intro n
  induction n with
  | zero => intro x2 I R hL h; exact False.elim h
  | succ n ih =>
    intro x2 I R hL h
    refine PW.iload_n g rfl rfl d_md_judge_160 ?_
    refine PW.aload_n g rfl rfl d_md_judge_161 ?_
    refine PW.getI g fi_md_174 rfl d_md_judge_162 ?_
    refine PW.icmp_ge g 194 (by decide) d_md_judge_165 (fun c3 => ?_) (fun c3 => ?_)
    · have h := h.1 c3
      refine PX.sub [none, none, none] trivial ?_
      exact hK _ _ hL h
    · have h := h.2 c3
      refine PW.aload_n g rfl rfl d_md_judge_168 ?_
      refine PW.getR (q := 127) g fi_md_25 rfl (hL 121 12 11 rfl (by decide)) d_md_judge_169 ?_
      refine PW.bipush g (120) (by decide) d_md_judge_172 ?_
      refine PW.aload_n g rfl rfl d_md_judge_174 ?_
      refine PW.getI g fi_md_347 rfl d_md_judge_175 ?_
      refine PW.imul g d_md_judge_178 ?_
      refine PW.iload_n g rfl rfl d_md_judge_179 ?_
      refine PW.iadd g d_md_judge_180 ?_
      refine PW.aload_n g rfl rfl d_md_judge_181 ?_
      refine PW.getR (q := 122) g fi_md_7 rfl (hL 121 12 1 rfl (by decide)) d_md_judge_182 ?_
      refine PW.iload_n g rfl rfl d_md_judge_185 ?_
      refine PW.iald g rfl h.1 d_md_judge_186 ?_
      have h := h.2
      refine PW.iast g rfl h.1 d_md_judge_187 ?_
      refine PX.gI (fun I20 eI20 => ?_)
      have h := h.2 _ eI20
      refine PW.iinc g rfl (show x2 + Int32.ofInt (1) = (x2 + 1) from congrArg (HAdd.hAdd x2) (by decide)) (by decide) rfl (L' := [some (.ref 121), none, some (.int (x2 + 1))]) rfl d_md_judge_188 ?_
      refine PW.goto g 160 (by decide) d_md_judge_191 ?_
      refine PX.sub [some (.ref 121), none, some (.int (x2 + 1))] ⟨rfl, ⟨rfl, trivial⟩⟩ ?_
      exact ih _ _ _ hL h
def w_md_judge (I : pI) (R : pR) (Q : Int32 → pI → pR → Prop) : Prop := (w_md_split  I R (fun I1 R1 => (∀ I2, I2 = pw_wI I1 121 7 (0 : Int32) → (∀ I3, I3 = pw_wI I2 121 15 ((400 : Int32) * ((1 : Int32) - (I 121 10))) → (∀ I4, I4 = pw_wI I3 121 32 ((100 : Int32) * ((1 : Int32) - (I 121 10))) → (∀ I5, I5 = pw_wI I4 121 33 ((120 : Int32) * ((1 : Int32) - (I 121 10))) → (∀ I6, I6 = pw_wI I5 121 34 (0 : Int32) → (∀ I7, I7 = pw_wI I6 121 35 (0 : Int32) → (∀ I8, I8 = pw_wI I7 121 47 (0 : Int32) → (∀ I9, I9 = pw_wI I8 121 54 (0 : Int32) → (∀ I10, I10 = pw_wI I9 121 52 (-1 : Int32) → (∀ I11, I11 = pw_wI I10 121 55 (0 : Int32) → (∀ I12, I12 = pw_wI I11 121 56 (-1 : Int32) → (w_md_feature  I12 R1 (fun v2 I13 R2 => ((¬ v2 = 0 → (w_md_look  I13 R2 (fun I14 R3 => (((I14 121 55) ≤ 0 → (∀ I15, I15 = pw_wI I14 121 10 ((1 : Int32) - (I 121 10)) → (∀ I16, I16 = pw_wI I15 121 9 (1 : Int32) → (vp_in (I16 121 10) 2 ∧ ∀ I17, I17 = pw_wI I16 147 (I16 121 10).toNatClampNeg (I16 121 32) → (vp_in (I17 121 10) 2 ∧ ∀ I18, I18 = pw_wI I17 148 (I17 121 10).toNatClampNeg (I17 121 34) → (vp_in (I18 121 10) 2 ∧ ∀ I19, I19 = pw_wI I18 149 (I18 121 10).toNatClampNeg (I18 121 35) → (∃ n1, l_md_judge_160 (fun I21 R4 => Q (0 : Int32) I21 R4) Q n1 (0 : Int32) I19 R3))))))) ∧ (¬ (I14 121 55) ≤ 0 → Q (I14 121 55) I14 R3))))) ∧ (v2 = 0 → (∀ I22, I22 = pw_wI I13 121 56 (I13 121 8) → Q (1 : Int32) I22 R2))))))))))))))))))
set_option maxHeartbeats 4000000 in
set_option maxRecDepth 100000 in
theorem c_md_judge (d : Nat) {I : pI} {R : pR} {Q : Int32 → pI → pR → Prop} (hL : pw_Lay R) (h : w_md_judge  I R Q) : Cm (d + 10) m_md_judge [.ref 121] I R (qi Q) := by
  refine Cm.of [some (.ref 121), none, none] (by decide) rfl (Nat.le_of_ble_eq_true rfl) (by simp) (fun E B g hF => ?_)
  unfold w_md_judge at h
  refine PW.iconst g (1) (by decide) d_md_judge_0 ?_
  refine PW.aload_n g rfl rfl d_md_judge_1 ?_
  refine PW.getI g fi_md_347 rfl d_md_judge_2 ?_
  refine PW.isub g d_md_judge_5 ?_
  refine PW.istore_n g rfl (L' := [some (.ref 121), some (.int ((1 : Int32) - (I 121 10))), none]) (by decide) rfl rfl d_md_judge_6 ?_
  refine PW.aload_n g rfl rfl d_md_judge_7 ?_
  refine PX.cVv [] [] g rfl ck_md (c_md_split d  hL h) cl_md_350 (by omega) (by decide) rfl rfl (Nat.le_of_ble_eq_true rfl) d_md_judge_8 (fun I1 R1 hL h => ?_)
  refine PW.aload_n g rfl rfl d_md_judge_11 ?_
  refine PW.iconst g (0) (by decide) d_md_judge_12 ?_
  refine PW.putI g fi_md_207 rfl rfl rfl d_md_judge_13 ?_
  refine PX.gI (fun I2 eI2 => ?_)
  have h := h _ eI2
  refine PW.aload_n g rfl rfl d_md_judge_16 ?_
  refine PW.sipush g (400) (by decide) d_md_judge_17 ?_
  refine PW.iload_n g rfl rfl d_md_judge_20 ?_
  refine PW.imul g d_md_judge_21 ?_
  refine PW.putI g fi_md_217 rfl rfl rfl d_md_judge_22 ?_
  refine PX.gI (fun I3 eI3 => ?_)
  have h := h _ eI3
  refine PW.aload_n g rfl rfl d_md_judge_25 ?_
  refine PW.bipush g (100) (by decide) d_md_judge_26 ?_
  refine PW.iload_n g rfl rfl d_md_judge_28 ?_
  refine PW.imul g d_md_judge_29 ?_
  refine PW.putI g fi_md_275 rfl rfl rfl d_md_judge_30 ?_
  refine PX.gI (fun I4 eI4 => ?_)
  have h := h _ eI4
  refine PW.aload_n g rfl rfl d_md_judge_33 ?_
  refine PW.bipush g (120) (by decide) d_md_judge_34 ?_
  refine PW.iload_n g rfl rfl d_md_judge_36 ?_
  refine PW.imul g d_md_judge_37 ?_
  refine PW.putI g fi_md_303 rfl rfl rfl d_md_judge_38 ?_
  refine PX.gI (fun I5 eI5 => ?_)
  have h := h _ eI5
  refine PW.aload_n g rfl rfl d_md_judge_41 ?_
  refine PW.iconst g (0) (by decide) d_md_judge_42 ?_
  refine PW.putI g fi_md_281 rfl rfl rfl d_md_judge_43 ?_
  refine PX.gI (fun I6 eI6 => ?_)
  have h := h _ eI6
  refine PW.aload_n g rfl rfl d_md_judge_46 ?_
  refine PW.iconst g (0) (by decide) d_md_judge_47 ?_
  refine PW.putI g fi_md_278 rfl rfl rfl d_md_judge_48 ?_
  refine PX.gI (fun I7 eI7 => ?_)
  have h := h _ eI7
  refine PW.aload_n g rfl rfl d_md_judge_51 ?_
  refine PW.iconst g (0) (by decide) d_md_judge_52 ?_
  refine PW.putI g fi_md_269 rfl rfl rfl d_md_judge_53 ?_
  refine PX.gI (fun I8 eI8 => ?_)
  have h := h _ eI8
  refine PW.aload_n g rfl rfl d_md_judge_56 ?_
  refine PW.iconst g (0) (by decide) d_md_judge_57 ?_
  refine PW.putI g fi_md_328 rfl rfl rfl d_md_judge_58 ?_
  refine PX.gI (fun I9 eI9 => ?_)
  have h := h _ eI9
  refine PW.aload_n g rfl rfl d_md_judge_61 ?_
  refine PW.iconst g (-1) (by decide) d_md_judge_62 ?_
  refine PW.putI g fi_md_233 rfl rfl rfl d_md_judge_63 ?_
  refine PX.gI (fun I10 eI10 => ?_)
  have h := h _ eI10
  refine PW.aload_n g rfl rfl d_md_judge_66 ?_
  refine PW.iconst g (0) (by decide) d_md_judge_67 ?_
  refine PW.putI g fi_md_272 rfl rfl rfl d_md_judge_68 ?_
  refine PX.gI (fun I11 eI11 => ?_)
  have h := h _ eI11
  refine PW.aload_n g rfl rfl d_md_judge_71 ?_
  refine PW.iconst g (-1) (by decide) d_md_judge_72 ?_
  refine PW.putI g fi_md_118 rfl rfl rfl d_md_judge_73 ?_
  refine PX.gI (fun I12 eI12 => ?_)
  have h := h _ eI12
  refine PW.aload_n g rfl rfl d_md_judge_76 ?_
  refine PX.cVz [] [] g rfl ck_md (c_md_feature d  hL h) cl_md_353 (by omega) (by decide) rfl rfl (Nat.le_of_ble_eq_true rfl) d_md_judge_77 (fun v2 I13 R2 hL hzv2 h => ?_)
  refine PW.if_ne g 93 (by decide) d_md_judge_80 (fun c1 => ?_) (fun c1 => ?_)
  · have h := h.1 c1
    refine PW.aload_n g rfl rfl d_md_judge_93 ?_
    refine PX.cVv [] [] g rfl ck_md (c_md_look d  hL h) cl_md_356 (by omega) (by decide) rfl rfl (Nat.le_of_ble_eq_true rfl) d_md_judge_94 (fun I14 R3 hL h => ?_)
    refine PW.aload_n g rfl rfl d_md_judge_97 ?_
    refine PW.getI g fi_md_272 rfl d_md_judge_98 ?_
    refine PW.if_le g 109 (by decide) d_md_judge_101 (fun c2 => ?_) (fun c2 => ?_)
    · have h := h.1 c2
      refine PW.aload_n g rfl rfl d_md_judge_109 ?_
      refine PW.iload_n g rfl rfl d_md_judge_110 ?_
      refine PW.putI g fi_md_347 rfl rfl rfl d_md_judge_111 ?_
      refine PX.gI (fun I15 eI15 => ?_)
      have h := h _ eI15
      refine PW.aload_n g rfl rfl d_md_judge_114 ?_
      refine PW.iconst g (1) (by decide) d_md_judge_115 ?_
      refine PW.putI g fi_md_359 rfl (pw_nb (Or.inr rfl)) (pw_fb (Or.inr rfl)) d_md_judge_116 ?_
      refine PX.gI (fun I16 eI16 => ?_)
      have h := h _ eI16
      refine PW.aload_n g rfl rfl d_md_judge_119 ?_
      refine PW.getR (q := 147) g fi_md_85 rfl (hL 121 12 36 rfl (by decide)) d_md_judge_120 ?_
      refine PW.aload_n g rfl rfl d_md_judge_123 ?_
      refine PW.getI g fi_md_347 rfl d_md_judge_124 ?_
      refine PW.aload_n g rfl rfl d_md_judge_127 ?_
      refine PW.getI g fi_md_275 rfl d_md_judge_128 ?_
      refine PW.iast g rfl h.1 d_md_judge_131 ?_
      refine PX.gI (fun I17 eI17 => ?_)
      have h := h.2 _ eI17
      refine PW.aload_n g rfl rfl d_md_judge_132 ?_
      refine PW.getR (q := 148) g fi_md_88 rfl (hL 121 12 37 rfl (by decide)) d_md_judge_133 ?_
      refine PW.aload_n g rfl rfl d_md_judge_136 ?_
      refine PW.getI g fi_md_347 rfl d_md_judge_137 ?_
      refine PW.aload_n g rfl rfl d_md_judge_140 ?_
      refine PW.getI g fi_md_281 rfl d_md_judge_141 ?_
      refine PW.iast g rfl h.1 d_md_judge_144 ?_
      refine PX.gI (fun I18 eI18 => ?_)
      have h := h.2 _ eI18
      refine PW.aload_n g rfl rfl d_md_judge_145 ?_
      refine PW.getR (q := 149) g fi_md_91 rfl (hL 121 12 38 rfl (by decide)) d_md_judge_146 ?_
      refine PW.aload_n g rfl rfl d_md_judge_149 ?_
      refine PW.getI g fi_md_347 rfl d_md_judge_150 ?_
      refine PW.aload_n g rfl rfl d_md_judge_153 ?_
      refine PW.getI g fi_md_278 rfl d_md_judge_154 ?_
      refine PW.iast g rfl h.1 d_md_judge_157 ?_
      refine PX.gI (fun I19 eI19 => ?_)
      have h := h.2 _ eI19
      refine PW.iconst g (0) (by decide) d_md_judge_158 ?_
      refine PW.istore_n g rfl (L' := [some (.ref 121), some (.int ((1 : Int32) - (I 121 10))), some (.int (0 : Int32))]) (by decide) rfl rfl d_md_judge_159 ?_
      refine PX.sub [some (.ref 121), none, some (.int (0 : Int32))] ⟨rfl, ⟨rfl, trivial⟩⟩ ?_
      obtain ⟨n1, h⟩ := h
      refine L_md_judge_160 d g hF (fun I21 R4 hL h => ?_) n1 (0 : Int32) I19 R3 hL h
      refine PW.iconst g (0) (by decide) d_md_judge_194 ?_
      exact PX.iret g hF rfl d_md_judge_195 hL h
    · have h := h.2 c2
      refine PW.aload_n g rfl rfl d_md_judge_104 ?_
      refine PW.getI g fi_md_272 rfl d_md_judge_105 ?_
      exact PX.iret g hF rfl d_md_judge_108 hL h
  · have h := h.2 c1
    refine PW.aload_n g rfl rfl d_md_judge_83 ?_
    refine PW.aload_n g rfl rfl d_md_judge_84 ?_
    refine PW.getI g fi_md_210 rfl d_md_judge_85 ?_
    refine PW.putI g fi_md_118 rfl rfl rfl d_md_judge_88 ?_
    refine PX.gI (fun I22 eI22 => ?_)
    have h := h _ eI22
    refine PW.iconst g (1) (by decide) d_md_judge_91 ?_
    exact PX.iret g hF rfl d_md_judge_92 hL h
def w_md_place (I : pI) (R : pR) (Q : Int32 → pI → pR → Prop) : Prop := Q (I 121 56) I R
set_option maxHeartbeats 4000000 in
set_option maxRecDepth 100000 in
theorem c_md_place (d : Nat) {I : pI} {R : pR} {Q : Int32 → pI → pR → Prop} (hL : pw_Lay R) (h : w_md_place  I R Q) : Cm (d + 1) m_md_place [.ref 121] I R (qi Q) := by
  refine Cm.of [some (.ref 121)] (by decide) rfl (Nat.le_of_ble_eq_true rfl) (by simp) (fun E B g hF => ?_)
  unfold w_md_place at h
  refine PW.aload_n g rfl rfl d_md_place_0 ?_
  refine PW.getI g fi_md_118 rfl d_md_place_1 ?_
  exact PX.iret g hF rfl d_md_place_4 hL h
def w_md_draw (a1 : Int32) (a2 : Int32) (I : pI) (R : pR) (Q : pI → pR → Prop) : Prop := (vp_in (I 121 65) 200 ∧ ∀ I1, I1 = pw_wI I 160 (I 121 65).toNatClampNeg a1 → (vp_in (I1 121 65) 200 ∧ ∀ I2, I2 = pw_wI I1 161 (I1 121 65).toNatClampNeg a2 → (∀ I3, I3 = pw_wI I2 121 65 ((I2 121 65) + (1 : Int32)) → Q I3 R)))
set_option maxHeartbeats 4000000 in
set_option maxRecDepth 100000 in
theorem c_md_draw (d : Nat) {a1 : Int32} {a2 : Int32} {I : pI} {R : pR} {Q : pI → pR → Prop} (hL : pw_Lay R) (h : w_md_draw a1 a2 I R Q) : Cm (d + 1) m_md_draw [.ref 121, .int a1, .int a2] I R (qv Q) := by
  refine Cm.of [some (.ref 121), some (.int a1), some (.int a2)] (by decide) rfl (Nat.le_of_ble_eq_true rfl) (by simp) (fun E B g hF => ?_)
  unfold w_md_draw at h
  refine PW.aload_n g rfl rfl d_md_draw_0 ?_
  refine PW.getR (q := 160) g fi_md_128 rfl (hL 121 12 66 rfl (by decide)) d_md_draw_1 ?_
  refine PW.aload_n g rfl rfl d_md_draw_4 ?_
  refine PW.getI g fi_md_362 rfl d_md_draw_5 ?_
  refine PW.iload_n g rfl rfl d_md_draw_8 ?_
  refine PW.iast g rfl h.1 d_md_draw_9 ?_
  refine PX.gI (fun I1 eI1 => ?_)
  have h := h.2 _ eI1
  refine PW.aload_n g rfl rfl d_md_draw_10 ?_
  refine PW.getR (q := 161) g fi_md_131 rfl (hL 121 12 67 rfl (by decide)) d_md_draw_11 ?_
  refine PW.aload_n g rfl rfl d_md_draw_14 ?_
  refine PW.getI g fi_md_362 rfl d_md_draw_15 ?_
  refine PW.iload_n g rfl rfl d_md_draw_18 ?_
  refine PW.iast g rfl h.1 d_md_draw_19 ?_
  refine PX.gI (fun I2 eI2 => ?_)
  have h := h.2 _ eI2
  refine PW.aload_n g rfl rfl d_md_draw_20 ?_
  refine PW.dup g rfl d_md_draw_21 ?_
  refine PW.getI g fi_md_362 rfl d_md_draw_22 ?_
  refine PW.iconst g (1) (by decide) d_md_draw_25 ?_
  refine PW.iadd g d_md_draw_26 ?_
  refine PW.putI g fi_md_362 rfl rfl rfl d_md_draw_27 ?_
  refine PX.gI (fun I3 eI3 => ?_)
  have h := h _ eI3
  exact PX.vret g hF rfl d_md_draw_30 hL h
def w_md_give (a1 : Int32) (I : pI) (R : pR) (Q : pI → pR → Prop) : Prop := (vp_in (I 121 58) 64 ∧ ∀ I1, I1 = pw_wI I 158 (I 121 58).toNatClampNeg a1 → (∀ I2, I2 = pw_wI I1 121 58 ((I1 121 58) + (1 : Int32)) → Q I2 R))
set_option maxHeartbeats 4000000 in
set_option maxRecDepth 100000 in
theorem c_md_give (d : Nat) {a1 : Int32} {I : pI} {R : pR} {Q : pI → pR → Prop} (hL : pw_Lay R) (h : w_md_give a1 I R Q) : Cm (d + 1) m_md_give [.ref 121, .int a1] I R (qv Q) := by
  refine Cm.of [some (.ref 121), some (.int a1)] (by decide) rfl (Nat.le_of_ble_eq_true rfl) (by simp) (fun E B g hF => ?_)
  unfold w_md_give at h
  refine PW.aload_n g rfl rfl d_md_give_0 ?_
  refine PW.getR (q := 158) g fi_md_122 rfl (hL 121 12 57 rfl (by decide)) d_md_give_1 ?_
  refine PW.aload_n g rfl rfl d_md_give_4 ?_
  refine PW.getI g fi_md_365 rfl d_md_give_5 ?_
  refine PW.iload_n g rfl rfl d_md_give_8 ?_
  refine PW.iast g rfl h.1 d_md_give_9 ?_
  refine PX.gI (fun I1 eI1 => ?_)
  have h := h.2 _ eI1
  refine PW.aload_n g rfl rfl d_md_give_10 ?_
  refine PW.dup g rfl d_md_give_11 ?_
  refine PW.getI g fi_md_365 rfl d_md_give_12 ?_
  refine PW.iconst g (1) (by decide) d_md_give_15 ?_
  refine PW.iadd g d_md_give_16 ?_
  refine PW.putI g fi_md_365 rfl rfl rfl d_md_give_17 ?_
  refine PX.gI (fun I2 eI2 => ?_)
  have h := h _ eI2
  exact PX.vret g hF rfl d_md_give_20 hL h
def w_md_trouble (a1 : Int32) (a2 : Int32) (I : pI) (R : pR) (Q : Int32 → pI → pR → Prop) : Prop := (∀ I1, I1 = pw_wI I 121 59 a1 → (∀ I2, I2 = pw_wI I1 121 60 a2 → Q (0 : Int32) I2 R))
set_option maxHeartbeats 4000000 in
set_option maxRecDepth 100000 in
theorem c_md_trouble (d : Nat) {a1 : Int32} {a2 : Int32} {I : pI} {R : pR} {Q : Int32 → pI → pR → Prop} (hL : pw_Lay R) (h : w_md_trouble a1 a2 I R Q) : Cm (d + 1) m_md_trouble [.ref 121, .int a1, .int a2] I R (qz Q) := by
  refine Cm.of [some (.ref 121), some (.int a1), some (.int a2)] (by decide) rfl (Nat.le_of_ble_eq_true rfl) (by simp) (fun E B g hF => ?_)
  unfold w_md_trouble at h
  refine PW.aload_n g rfl rfl d_md_trouble_0 ?_
  refine PW.iload_n g rfl rfl d_md_trouble_1 ?_
  refine PW.putI g fi_md_368 rfl rfl rfl d_md_trouble_2 ?_
  refine PX.gI (fun I1 eI1 => ?_)
  have h := h _ eI1
  refine PW.aload_n g rfl rfl d_md_trouble_5 ?_
  refine PW.iload_n g rfl rfl d_md_trouble_6 ?_
  refine PW.putI g fi_md_371 rfl rfl rfl d_md_trouble_7 ?_
  refine PX.gI (fun I2 eI2 => ?_)
  have h := h _ eI2
  refine PW.iconst g (0) (by decide) d_md_trouble_10 ?_
  exact PX.zret g hF rfl (Or.inl rfl) d_md_trouble_11 hL h
def j_md_call_251 (K26 : Int32 → Int32 → pI → pR → Prop) (Q : Int32 → pI → pR → Prop) (f1 : Int32) (f2 : Int32) (f3 : Int32) (x4 : Int32) (x5 : Int32) (x6 : Int32) (I : pI) (R : pR) : Prop := ((¬ x4 = 0 → K26 (1 : Int32) (x5 + 1) I R) ∧ (x4 = 0 → ((x6 = 0 → K26 (0 : Int32) (x5 + 1) I R) ∧ (¬ x6 = 0 → K26 (1 : Int32) (x5 + 1) I R))))
set_option maxHeartbeats 4000000 in
set_option maxRecDepth 100000 in
theorem J_md_call_251 (d : Nat) {K26 : Int32 → Int32 → pI → pR → Prop} {Q : Int32 → pI → pR → Prop} {f1 : Int32} {f2 : Int32} {f3 : Int32} {x4 : Int32} {x5 : Int32} {x6 : Int32} {E : pE} {B : pB} (g : pw_G m_md_call (d + 2) 0 0 E B) (hF : pX (qz Q) E B) (hK26 : ∀ (y4 : Int32) (y5 : Int32) (I : pI) (R : pR), pw_Lay R → K26 y4 y5 I R → PX E B m_md_call.2.2.1 26 [some (.ref 121), some (.int f1), some (.int f2), some (.int f3), some (.int y4), some (.int y5), none, none, none] [] I R) {I : pI} {R : pR} (hL : pw_Lay R) (h : j_md_call_251  K26 Q f1 f2 f3 x4 x5 x6 I R) : PX E B m_md_call.2.2.1 251 [some (.ref 121), some (.int f1), some (.int f2), some (.int f3), some (.int x4), some (.int x5), some (.int x6), none, none] [] I R := by
  unfold j_md_call_251 at h
  refine PW.iload g rfl d_md_call_251 ?_
  refine PW.if_ne g 261 (by decide) d_md_call_253 (fun c5 => ?_) (fun c5 => ?_)
  · have h := h.1 c5
    refine PW.iconst g (1) (by decide) d_md_call_261 ?_
    refine PW.goto g 266 (by decide) d_md_call_262 ?_
    refine PW.istore g (L' := [some (.ref 121), some (.int f1), some (.int f2), some (.int f3), some (.int (1 : Int32)), some (.int x5), some (.int x6), none, none]) (by decide) rfl rfl d_md_call_266 ?_
    refine PW.iinc g rfl (show x5 + Int32.ofInt (1) = (x5 + 1) from congrArg (HAdd.hAdd x5) (by decide)) (by decide) rfl (L' := [some (.ref 121), some (.int f1), some (.int f2), some (.int f3), some (.int (1 : Int32)), some (.int (x5 + 1)), some (.int x6), none, none]) rfl d_md_call_268 ?_
    refine PW.goto g 26 (by decide) d_md_call_271 ?_
    refine PX.sub [some (.ref 121), some (.int f1), some (.int f2), some (.int f3), some (.int (1 : Int32)), some (.int (x5 + 1)), none, none, none] ⟨rfl, ⟨rfl, ⟨rfl, ⟨rfl, ⟨rfl, ⟨rfl, trivial⟩⟩⟩⟩⟩⟩ ?_
    exact hK26 _ _ _ _ hL h
  · have h := h.2 c5
    refine PW.iload g rfl d_md_call_256 ?_
    refine PW.if_eq g 265 (by decide) d_md_call_258 (fun c6 => ?_) (fun c6 => ?_)
    · have h := h.1 c6
      refine PW.iconst g (0) (by decide) d_md_call_265 ?_
      refine PW.istore g (L' := [some (.ref 121), some (.int f1), some (.int f2), some (.int f3), some (.int (0 : Int32)), some (.int x5), some (.int x6), none, none]) (by decide) rfl rfl d_md_call_266 ?_
      refine PW.iinc g rfl (show x5 + Int32.ofInt (1) = (x5 + 1) from congrArg (HAdd.hAdd x5) (by decide)) (by decide) rfl (L' := [some (.ref 121), some (.int f1), some (.int f2), some (.int f3), some (.int (0 : Int32)), some (.int (x5 + 1)), some (.int x6), none, none]) rfl d_md_call_268 ?_
      refine PW.goto g 26 (by decide) d_md_call_271 ?_
      refine PX.sub [some (.ref 121), some (.int f1), some (.int f2), some (.int f3), some (.int (0 : Int32)), some (.int (x5 + 1)), none, none, none] ⟨rfl, ⟨rfl, ⟨rfl, ⟨rfl, ⟨rfl, ⟨rfl, trivial⟩⟩⟩⟩⟩⟩ ?_
      exact hK26 _ _ _ _ hL h
    · have h := h.2 c6
      refine PW.iconst g (1) (by decide) d_md_call_261 ?_
      refine PW.goto g 266 (by decide) d_md_call_262 ?_
      refine PW.istore g (L' := [some (.ref 121), some (.int f1), some (.int f2), some (.int f3), some (.int (1 : Int32)), some (.int x5), some (.int x6), none, none]) (by decide) rfl rfl d_md_call_266 ?_
      refine PW.iinc g rfl (show x5 + Int32.ofInt (1) = (x5 + 1) from congrArg (HAdd.hAdd x5) (by decide)) (by decide) rfl (L' := [some (.ref 121), some (.int f1), some (.int f2), some (.int f3), some (.int (1 : Int32)), some (.int (x5 + 1)), some (.int x6), none, none]) rfl d_md_call_268 ?_
      refine PW.goto g 26 (by decide) d_md_call_271 ?_
      refine PX.sub [some (.ref 121), some (.int f1), some (.int f2), some (.int f3), some (.int (1 : Int32)), some (.int (x5 + 1)), none, none, none] ⟨rfl, ⟨rfl, ⟨rfl, ⟨rfl, ⟨rfl, ⟨rfl, trivial⟩⟩⟩⟩⟩⟩ ?_
      exact hK26 _ _ _ _ hL h
def j_md_call_230 (Q : Int32 → pI → pR → Prop) (f3 : Int32) (s1 : Int32) (I : pI) (R : pR) : Prop := (w_md_give s1 I R (fun I4 R2 => (vp_in ((I4 121 58) - (1 : Int32)) 64 ∧ (w_md_draw f3 (I4 158 ((I4 121 58) - (1 : Int32)).toNatClampNeg) I4 R2 (fun I5 R3 => Q (1 : Int32) I5 R3)))))
set_option maxHeartbeats 4000000 in
set_option maxRecDepth 100000 in
theorem J_md_call_230 (d : Nat) {Q : Int32 → pI → pR → Prop} {f3 : Int32} {s1 : Int32} {E : pE} {B : pB} (g : pw_G m_md_call (d + 2) 0 0 E B) (hF : pX (qz Q) E B) {I : pI} {R : pR} (hL : pw_Lay R) (h : j_md_call_230  Q f3 s1 I R) : PX E B m_md_call.2.2.1 230 [some (.ref 121), none, none, some (.int f3), none, none, none, none, none] [.int s1, .ref 121] I R := by
  unfold j_md_call_230 at h
  refine PX.cVv [.int s1] [] g rfl ck_md (c_md_give d  hL h) cl_md_386 (by omega) (by decide) rfl rfl (Nat.le_of_ble_eq_true rfl) d_md_call_230 (fun I4 R2 hL h => ?_)
  refine PW.aload_n g rfl rfl d_md_call_233 ?_
  refine PW.iload_n g rfl rfl d_md_call_234 ?_
  refine PW.aload_n g rfl rfl d_md_call_235 ?_
  refine PW.getR (q := 158) g fi_md_122 rfl (hL 121 12 57 rfl (by decide)) d_md_call_236 ?_
  refine PW.aload_n g rfl rfl d_md_call_239 ?_
  refine PW.getI g fi_md_365 rfl d_md_call_240 ?_
  refine PW.iconst g (1) (by decide) d_md_call_243 ?_
  refine PW.isub g d_md_call_244 ?_
  refine PW.iald g rfl h.1 d_md_call_245 ?_
  have h := h.2
  refine PX.cVv [.int f3, .int (I4 158 ((I4 121 58) - (1 : Int32)).toNatClampNeg)] [] g rfl ck_md (c_md_draw d  hL h) cl_md_389 (by omega) (by decide) rfl rfl (Nat.le_of_ble_eq_true rfl) d_md_call_246 (fun I5 R3 hL h => ?_)
  refine PW.iconst g (1) (by decide) d_md_call_249 ?_
  exact PX.zret g hF rfl (Or.inr rfl) d_md_call_250 hL h
def j_md_call_192 (Q : Int32 → pI → pR → Prop) (f3 : Int32) (x5 : Int32) (x7 : Int32) (s0 : Int32) (I : pI) (R : pR) : Prop := (vp_in x5 200 ∧ (vp_in x5 200 ∧ ∀ I3, I3 = pw_wI I 145 x5.toNatClampNeg ((I 145 x5.toNatClampNeg) + (1 : Int32)) → ((¬ x7 = 0 → (vp_in x5 200 ∧ (vp_in ((I3 143 x5.toNatClampNeg) + s0) 240 ∧ (j_md_call_230 Q f3 (I3 146 ((I3 143 x5.toNatClampNeg) + s0).toNatClampNeg) I3 R)))) ∧ (x7 = 0 → (j_md_call_230 Q f3 (0 : Int32) I3 R)))))
set_option maxHeartbeats 4000000 in
set_option maxRecDepth 100000 in
theorem J_md_call_192 (d : Nat) {Q : Int32 → pI → pR → Prop} {f3 : Int32} {x5 : Int32} {x7 : Int32} {s0 : Int32} {E : pE} {B : pB} (g : pw_G m_md_call (d + 2) 0 0 E B) (hF : pX (qz Q) E B) {I : pI} {R : pR} (hL : pw_Lay R) (h : j_md_call_192  Q f3 x5 x7 s0 I R) : PX E B m_md_call.2.2.1 192 [some (.ref 121), none, none, some (.int f3), none, some (.int x5), none, some (.int x7), none] [.int s0] I R := by
  unfold j_md_call_192 at h
  refine PW.istore g (L' := [some (.ref 121), none, none, some (.int f3), none, some (.int x5), none, some (.int x7), some (.int s0)]) (by decide) rfl rfl d_md_call_192 ?_
  refine PW.aload_n g rfl rfl d_md_call_194 ?_
  refine PW.getR (q := 145) g fi_md_79 rfl (hL 121 12 30 rfl (by decide)) d_md_call_195 ?_
  refine PW.iload g rfl d_md_call_198 ?_
  refine PW.dup2 g rfl rfl d_md_call_200 ?_
  refine PW.iald g rfl h.1 d_md_call_201 ?_
  have h := h.2
  refine PW.iconst g (1) (by decide) d_md_call_202 ?_
  refine PW.iadd g d_md_call_203 ?_
  refine PW.iast g rfl h.1 d_md_call_204 ?_
  refine PX.gI (fun I3 eI3 => ?_)
  have h := h.2 _ eI3
  refine PW.aload_n g rfl rfl d_md_call_205 ?_
  refine PW.iload g rfl d_md_call_206 ?_
  refine PW.if_ne g 215 (by decide) d_md_call_208 (fun c9 => ?_) (fun c9 => ?_)
  · have h := h.1 c9
    refine PW.aload_n g rfl rfl d_md_call_215 ?_
    refine PW.getR (q := 146) g fi_md_82 rfl (hL 121 12 31 rfl (by decide)) d_md_call_216 ?_
    refine PW.aload_n g rfl rfl d_md_call_219 ?_
    refine PW.getR (q := 143) g fi_md_73 rfl (hL 121 12 28 rfl (by decide)) d_md_call_220 ?_
    refine PW.iload g rfl d_md_call_223 ?_
    refine PW.iald g rfl h.1 d_md_call_225 ?_
    have h := h.2
    refine PW.iload g rfl d_md_call_226 ?_
    refine PW.iadd g d_md_call_228 ?_
    refine PW.iald g rfl h.1 d_md_call_229 ?_
    have h := h.2
    refine PX.sub [some (.ref 121), none, none, some (.int f3), none, none, none, none, none] ⟨rfl, ⟨rfl, trivial⟩⟩ ?_
    exact J_md_call_230 d g hF hL h
  · have h := h.2 c9
    refine PW.iconst g (0) (by decide) d_md_call_211 ?_
    refine PW.goto g 230 (by decide) d_md_call_212 ?_
    refine PX.sub [some (.ref 121), none, none, some (.int f3), none, none, none, none, none] ⟨rfl, ⟨rfl, trivial⟩⟩ ?_
    exact J_md_call_230 d g hF hL h
def j_md_call_149 (Q : Int32 → pI → pR → Prop) (f3 : Int32) (x5 : Int32) (I : pI) (R : pR) : Prop := (vp_in x5 200 ∧ (vp_in x5 200 ∧ (vp_in x5 200 ∧ ((((I 144 x5.toNatClampNeg) - (I 143 x5.toNatClampNeg)) ≤ (I 145 x5.toNatClampNeg) → (j_md_call_192 Q f3 x5 ((I 144 x5.toNatClampNeg) - (I 143 x5.toNatClampNeg)) (((I 144 x5.toNatClampNeg) - (I 143 x5.toNatClampNeg)) - (1 : Int32)) I R)) ∧ (¬ ((I 144 x5.toNatClampNeg) - (I 143 x5.toNatClampNeg)) ≤ (I 145 x5.toNatClampNeg) → (vp_in x5 200 ∧ (j_md_call_192 Q f3 x5 ((I 144 x5.toNatClampNeg) - (I 143 x5.toNatClampNeg)) (I 145 x5.toNatClampNeg) I R)))))))
set_option maxHeartbeats 4000000 in
set_option maxRecDepth 100000 in
theorem J_md_call_149 (d : Nat) {Q : Int32 → pI → pR → Prop} {f3 : Int32} {x5 : Int32} {E : pE} {B : pB} (g : pw_G m_md_call (d + 2) 0 0 E B) (hF : pX (qz Q) E B) {I : pI} {R : pR} (hL : pw_Lay R) (h : j_md_call_149  Q f3 x5 I R) : PX E B m_md_call.2.2.1 149 [some (.ref 121), none, none, some (.int f3), none, some (.int x5), none, none, none] [] I R := by
  unfold j_md_call_149 at h
  refine PW.aload_n g rfl rfl d_md_call_149 ?_
  refine PW.getR (q := 144) g fi_md_76 rfl (hL 121 12 29 rfl (by decide)) d_md_call_150 ?_
  refine PW.iload g rfl d_md_call_153 ?_
  refine PW.iald g rfl h.1 d_md_call_155 ?_
  have h := h.2
  refine PW.aload_n g rfl rfl d_md_call_156 ?_
  refine PW.getR (q := 143) g fi_md_73 rfl (hL 121 12 28 rfl (by decide)) d_md_call_157 ?_
  refine PW.iload g rfl d_md_call_160 ?_
  refine PW.iald g rfl h.1 d_md_call_162 ?_
  have h := h.2
  refine PW.isub g d_md_call_163 ?_
  refine PW.istore g (L' := [some (.ref 121), none, none, some (.int f3), none, some (.int x5), none, some (.int ((I 144 x5.toNatClampNeg) - (I 143 x5.toNatClampNeg))), none]) (by decide) rfl rfl d_md_call_164 ?_
  refine PW.aload_n g rfl rfl d_md_call_166 ?_
  refine PW.getR (q := 145) g fi_md_79 rfl (hL 121 12 30 rfl (by decide)) d_md_call_167 ?_
  refine PW.iload g rfl d_md_call_170 ?_
  refine PW.iald g rfl h.1 d_md_call_172 ?_
  have h := h.2
  refine PW.iload g rfl d_md_call_173 ?_
  refine PW.icmp_ge g 188 (by decide) d_md_call_175 (fun c8 => ?_) (fun c8 => ?_)
  · have h := h.1 c8
    refine PW.iload g rfl d_md_call_188 ?_
    refine PW.iconst g (1) (by decide) d_md_call_190 ?_
    refine PW.isub g d_md_call_191 ?_
    refine PX.sub [some (.ref 121), none, none, some (.int f3), none, some (.int x5), none, some (.int ((I 144 x5.toNatClampNeg) - (I 143 x5.toNatClampNeg))), none] ⟨rfl, ⟨rfl, ⟨rfl, ⟨rfl, trivial⟩⟩⟩⟩ ?_
    exact J_md_call_192 d g hF hL h
  · have h := h.2 c8
    refine PW.aload_n g rfl rfl d_md_call_178 ?_
    refine PW.getR (q := 145) g fi_md_79 rfl (hL 121 12 30 rfl (by decide)) d_md_call_179 ?_
    refine PW.iload g rfl d_md_call_182 ?_
    refine PW.iald g rfl h.1 d_md_call_184 ?_
    have h := h.2
    refine PW.goto g 192 (by decide) d_md_call_185 ?_
    refine PX.sub [some (.ref 121), none, none, some (.int f3), none, some (.int x5), none, some (.int ((I 144 x5.toNatClampNeg) - (I 143 x5.toNatClampNeg))), none] ⟨rfl, ⟨rfl, ⟨rfl, ⟨rfl, trivial⟩⟩⟩⟩ ?_
    exact J_md_call_192 d g hF hL h
def j_md_call_115 (K26 : Int32 → Int32 → pI → pR → Prop) (Q : Int32 → pI → pR → Prop) (f1 : Int32) (f2 : Int32) (f3 : Int32) (x4 : Int32) (x5 : Int32) (s0 : Int32) (I : pI) (R : pR) : Prop := ((s0 = 0 → (j_md_call_251 (fun y1 y2 I2 R1 => K26 y1 y2 I2 R1) Q f1 f2 f3 x4 x5 s0 I R)) ∧ (¬ s0 = 0 → (vp_in x5 200 ∧ (((I 139 x5.toNatClampNeg) < 0 → (j_md_call_149 Q f3 x5 I R)) ∧ (¬ (I 139 x5.toNatClampNeg) < 0 → (vp_in x5 200 ∧ (vp_in x5 200 ∧ (((I 139 x5.toNatClampNeg) ≤ (I 145 x5.toNatClampNeg) → (j_md_call_251 (fun y3 y4 I6 R4 => K26 y3 y4 I6 R4) Q f1 f2 f3 x4 x5 s0 I R)) ∧ (¬ (I 139 x5.toNatClampNeg) ≤ (I 145 x5.toNatClampNeg) → (j_md_call_149 Q f3 x5 I R))))))))))
set_option maxHeartbeats 4000000 in
set_option maxRecDepth 100000 in
theorem J_md_call_115 (d : Nat) {K26 : Int32 → Int32 → pI → pR → Prop} {Q : Int32 → pI → pR → Prop} {f1 : Int32} {f2 : Int32} {f3 : Int32} {x4 : Int32} {x5 : Int32} {s0 : Int32} {E : pE} {B : pB} (g : pw_G m_md_call (d + 2) 0 0 E B) (hF : pX (qz Q) E B) (hK26 : ∀ (y4 : Int32) (y5 : Int32) (I : pI) (R : pR), pw_Lay R → K26 y4 y5 I R → PX E B m_md_call.2.2.1 26 [some (.ref 121), some (.int f1), some (.int f2), some (.int f3), some (.int y4), some (.int y5), none, none, none] [] I R) {I : pI} {R : pR} (hL : pw_Lay R) (h : j_md_call_115  K26 Q f1 f2 f3 x4 x5 s0 I R) : PX E B m_md_call.2.2.1 115 [some (.ref 121), some (.int f1), some (.int f2), some (.int f3), some (.int x4), some (.int x5), none, none, none] [.int s0] I R := by
  unfold j_md_call_115 at h
  refine PW.istore g (L' := [some (.ref 121), some (.int f1), some (.int f2), some (.int f3), some (.int x4), some (.int x5), some (.int s0), none, none]) (by decide) rfl rfl d_md_call_115 ?_
  refine PW.iload g rfl d_md_call_117 ?_
  refine PW.if_eq g 251 (by decide) d_md_call_119 (fun c4 => ?_) (fun c4 => ?_)
  · have h := h.1 c4
    refine PX.sub [some (.ref 121), some (.int f1), some (.int f2), some (.int f3), some (.int x4), some (.int x5), some (.int s0), none, none] ⟨rfl, ⟨rfl, ⟨rfl, ⟨rfl, ⟨rfl, ⟨rfl, ⟨rfl, trivial⟩⟩⟩⟩⟩⟩⟩ ?_
    refine J_md_call_251 d g hF (fun y1 y2 I2 R1 hL h => ?_) hL h
    refine PX.sub [some (.ref 121), some (.int f1), some (.int f2), some (.int f3), some (.int y1), some (.int y2), none, none, none] ⟨rfl, ⟨rfl, ⟨rfl, ⟨rfl, ⟨rfl, ⟨rfl, trivial⟩⟩⟩⟩⟩⟩ ?_
    exact hK26 _ _ _ _ hL h
  · have h := h.2 c4
    refine PW.aload_n g rfl rfl d_md_call_122 ?_
    refine PW.getR (q := 139) g fi_md_61 rfl (hL 121 12 24 rfl (by decide)) d_md_call_123 ?_
    refine PW.iload g rfl d_md_call_126 ?_
    refine PW.iald g rfl h.1 d_md_call_128 ?_
    have h := h.2
    refine PW.if_lt g 149 (by decide) d_md_call_129 (fun c7 => ?_) (fun c7 => ?_)
    · have h := h.1 c7
      refine PX.sub [some (.ref 121), none, none, some (.int f3), none, some (.int x5), none, none, none] ⟨rfl, ⟨rfl, ⟨rfl, trivial⟩⟩⟩ ?_
      exact J_md_call_149 d g hF hL h
    · have h := h.2 c7
      refine PW.aload_n g rfl rfl d_md_call_132 ?_
      refine PW.getR (q := 145) g fi_md_79 rfl (hL 121 12 30 rfl (by decide)) d_md_call_133 ?_
      refine PW.iload g rfl d_md_call_136 ?_
      refine PW.iald g rfl h.1 d_md_call_138 ?_
      have h := h.2
      refine PW.aload_n g rfl rfl d_md_call_139 ?_
      refine PW.getR (q := 139) g fi_md_61 rfl (hL 121 12 24 rfl (by decide)) d_md_call_140 ?_
      refine PW.iload g rfl d_md_call_143 ?_
      refine PW.iald g rfl h.1 d_md_call_145 ?_
      have h := h.2
      refine PW.icmp_ge g 251 (by decide) d_md_call_146 (fun c10 => ?_) (fun c10 => ?_)
      · have h := h.1 c10
        refine PX.sub [some (.ref 121), some (.int f1), some (.int f2), some (.int f3), some (.int x4), some (.int x5), some (.int s0), none, none] ⟨rfl, ⟨rfl, ⟨rfl, ⟨rfl, ⟨rfl, ⟨rfl, ⟨rfl, trivial⟩⟩⟩⟩⟩⟩⟩ ?_
        refine J_md_call_251 d g hF (fun y3 y4 I6 R4 hL h => ?_) hL h
        refine PX.sub [some (.ref 121), some (.int f1), some (.int f2), some (.int f3), some (.int y3), some (.int y4), none, none, none] ⟨rfl, ⟨rfl, ⟨rfl, ⟨rfl, ⟨rfl, ⟨rfl, trivial⟩⟩⟩⟩⟩⟩ ?_
        exact hK26 _ _ _ _ hL h
      · have h := h.2 c10
        refine PX.sub [some (.ref 121), none, none, some (.int f3), none, some (.int x5), none, none, none] ⟨rfl, ⟨rfl, ⟨rfl, trivial⟩⟩⟩ ?_
        exact J_md_call_149 d g hF hL h
def j_md_call_114 (K26 : Int32 → Int32 → pI → pR → Prop) (Q : Int32 → pI → pR → Prop) (f1 : Int32) (f2 : Int32) (f3 : Int32) (x4 : Int32) (x5 : Int32) (I : pI) (R : pR) : Prop := (j_md_call_115 (fun y5 y6 I7 R5 => K26 y5 y6 I7 R5) Q f1 f2 f3 x4 x5 (0 : Int32) I R)
set_option maxHeartbeats 4000000 in
set_option maxRecDepth 100000 in
theorem J_md_call_114 (d : Nat) {K26 : Int32 → Int32 → pI → pR → Prop} {Q : Int32 → pI → pR → Prop} {f1 : Int32} {f2 : Int32} {f3 : Int32} {x4 : Int32} {x5 : Int32} {E : pE} {B : pB} (g : pw_G m_md_call (d + 2) 0 0 E B) (hF : pX (qz Q) E B) (hK26 : ∀ (y4 : Int32) (y5 : Int32) (I : pI) (R : pR), pw_Lay R → K26 y4 y5 I R → PX E B m_md_call.2.2.1 26 [some (.ref 121), some (.int f1), some (.int f2), some (.int f3), some (.int y4), some (.int y5), none, none, none] [] I R) {I : pI} {R : pR} (hL : pw_Lay R) (h : j_md_call_114  K26 Q f1 f2 f3 x4 x5 I R) : PX E B m_md_call.2.2.1 114 [some (.ref 121), some (.int f1), some (.int f2), some (.int f3), some (.int x4), some (.int x5), none, none, none] [] I R := by
  unfold j_md_call_114 at h
  refine PW.iconst g (0) (by decide) d_md_call_114 ?_
  refine PX.sub [some (.ref 121), some (.int f1), some (.int f2), some (.int f3), some (.int x4), some (.int x5), none, none, none] ⟨rfl, ⟨rfl, ⟨rfl, ⟨rfl, ⟨rfl, ⟨rfl, trivial⟩⟩⟩⟩⟩⟩ ?_
  refine J_md_call_115 d g hF (fun y5 y6 I7 R5 hL h => ?_) hL h
  refine PX.sub [some (.ref 121), some (.int f1), some (.int f2), some (.int f3), some (.int y5), some (.int y6), none, none, none] ⟨rfl, ⟨rfl, ⟨rfl, ⟨rfl, ⟨rfl, ⟨rfl, trivial⟩⟩⟩⟩⟩⟩ ?_
  exact hK26 _ _ _ _ hL h
def j_md_call_110 (K26 : Int32 → Int32 → pI → pR → Prop) (Q : Int32 → pI → pR → Prop) (f1 : Int32) (f2 : Int32) (f3 : Int32) (x4 : Int32) (x5 : Int32) (I : pI) (R : pR) : Prop := (j_md_call_115 (fun y11 y12 I10 R8 => K26 y11 y12 I10 R8) Q f1 f2 f3 x4 x5 (1 : Int32) I R)
set_option maxHeartbeats 4000000 in
set_option maxRecDepth 100000 in
theorem J_md_call_110 (d : Nat) {K26 : Int32 → Int32 → pI → pR → Prop} {Q : Int32 → pI → pR → Prop} {f1 : Int32} {f2 : Int32} {f3 : Int32} {x4 : Int32} {x5 : Int32} {E : pE} {B : pB} (g : pw_G m_md_call (d + 2) 0 0 E B) (hF : pX (qz Q) E B) (hK26 : ∀ (y4 : Int32) (y5 : Int32) (I : pI) (R : pR), pw_Lay R → K26 y4 y5 I R → PX E B m_md_call.2.2.1 26 [some (.ref 121), some (.int f1), some (.int f2), some (.int f3), some (.int y4), some (.int y5), none, none, none] [] I R) {I : pI} {R : pR} (hL : pw_Lay R) (h : j_md_call_110  K26 Q f1 f2 f3 x4 x5 I R) : PX E B m_md_call.2.2.1 110 [some (.ref 121), some (.int f1), some (.int f2), some (.int f3), some (.int x4), some (.int x5), none, none, none] [] I R := by
  unfold j_md_call_110 at h
  refine PW.iconst g (1) (by decide) d_md_call_110 ?_
  refine PW.goto g 115 (by decide) d_md_call_111 ?_
  refine PX.sub [some (.ref 121), some (.int f1), some (.int f2), some (.int f3), some (.int x4), some (.int x5), none, none, none] ⟨rfl, ⟨rfl, ⟨rfl, ⟨rfl, ⟨rfl, ⟨rfl, trivial⟩⟩⟩⟩⟩⟩ ?_
  refine J_md_call_115 d g hF (fun y11 y12 I10 R8 hL h => ?_) hL h
  refine PX.sub [some (.ref 121), some (.int f1), some (.int f2), some (.int f3), some (.int y11), some (.int y12), none, none, none] ⟨rfl, ⟨rfl, ⟨rfl, ⟨rfl, ⟨rfl, ⟨rfl, trivial⟩⟩⟩⟩⟩⟩ ?_
  exact hK26 _ _ _ _ hL h
def j_md_call_107 (K26 : Int32 → Int32 → pI → pR → Prop) (Q : Int32 → pI → pR → Prop) (f1 : Int32) (f2 : Int32) (f3 : Int32) (x4 : Int32) (x5 : Int32) (s0 : Int32) (s1 : Int32) (I : pI) (R : pR) : Prop := ((¬ s0 = s1 → (j_md_call_114 (fun y15 y16 I12 R10 => K26 y15 y16 I12 R10) Q f1 f2 f3 x4 x5 I R)) ∧ (s0 = s1 → (j_md_call_110 (fun y17 y18 I13 R11 => K26 y17 y18 I13 R11) Q f1 f2 f3 x4 x5 I R)))
set_option maxHeartbeats 4000000 in
set_option maxRecDepth 100000 in
theorem J_md_call_107 (d : Nat) {K26 : Int32 → Int32 → pI → pR → Prop} {Q : Int32 → pI → pR → Prop} {f1 : Int32} {f2 : Int32} {f3 : Int32} {x4 : Int32} {x5 : Int32} {s0 : Int32} {s1 : Int32} {E : pE} {B : pB} (g : pw_G m_md_call (d + 2) 0 0 E B) (hF : pX (qz Q) E B) (hK26 : ∀ (y4 : Int32) (y5 : Int32) (I : pI) (R : pR), pw_Lay R → K26 y4 y5 I R → PX E B m_md_call.2.2.1 26 [some (.ref 121), some (.int f1), some (.int f2), some (.int f3), some (.int y4), some (.int y5), none, none, none] [] I R) {I : pI} {R : pR} (hL : pw_Lay R) (h : j_md_call_107  K26 Q f1 f2 f3 x4 x5 s0 s1 I R) : PX E B m_md_call.2.2.1 107 [some (.ref 121), some (.int f1), some (.int f2), some (.int f3), some (.int x4), some (.int x5), none, none, none] [.int s1, .int s0] I R := by
  unfold j_md_call_107 at h
  refine PW.icmp_ne g 114 (by decide) d_md_call_107 (fun c15 => ?_) (fun c15 => ?_)
  · have h := h.1 c15
    refine PX.sub [some (.ref 121), some (.int f1), some (.int f2), some (.int f3), some (.int x4), some (.int x5), none, none, none] ⟨rfl, ⟨rfl, ⟨rfl, ⟨rfl, ⟨rfl, ⟨rfl, trivial⟩⟩⟩⟩⟩⟩ ?_
    refine J_md_call_114 d g hF (fun y15 y16 I12 R10 hL h => ?_) hL h
    refine PX.sub [some (.ref 121), some (.int f1), some (.int f2), some (.int f3), some (.int y15), some (.int y16), none, none, none] ⟨rfl, ⟨rfl, ⟨rfl, ⟨rfl, ⟨rfl, ⟨rfl, trivial⟩⟩⟩⟩⟩⟩ ?_
    exact hK26 _ _ _ _ hL h
  · have h := h.2 c15
    refine PX.sub [some (.ref 121), some (.int f1), some (.int f2), some (.int f3), some (.int x4), some (.int x5), none, none, none] ⟨rfl, ⟨rfl, ⟨rfl, ⟨rfl, ⟨rfl, ⟨rfl, trivial⟩⟩⟩⟩⟩⟩ ?_
    refine J_md_call_110 d g hF (fun y17 y18 I13 R11 hL h => ?_) hL h
    refine PX.sub [some (.ref 121), some (.int f1), some (.int f2), some (.int f3), some (.int y17), some (.int y18), none, none, none] ⟨rfl, ⟨rfl, ⟨rfl, ⟨rfl, ⟨rfl, ⟨rfl, trivial⟩⟩⟩⟩⟩⟩ ?_
    exact hK26 _ _ _ _ hL h
def j_md_call_91 (K26 : Int32 → Int32 → pI → pR → Prop) (Q : Int32 → pI → pR → Prop) (f1 : Int32) (f2 : Int32) (f3 : Int32) (x4 : Int32) (x5 : Int32) (s0 : Int32) (I : pI) (R : pR) : Prop := (vp_in x5 200 ∧ ((¬ f2 = (I 142 x5.toNatClampNeg) → (j_md_call_107 (fun y19 y20 I14 R12 => K26 y19 y20 I14 R12) Q f1 f2 f3 x4 x5 s0 (0 : Int32) I R)) ∧ (f2 = (I 142 x5.toNatClampNeg) → (j_md_call_107 (fun y21 y22 I15 R13 => K26 y21 y22 I15 R13) Q f1 f2 f3 x4 x5 s0 (1 : Int32) I R))))
set_option maxHeartbeats 4000000 in
set_option maxRecDepth 100000 in
theorem J_md_call_91 (d : Nat) {K26 : Int32 → Int32 → pI → pR → Prop} {Q : Int32 → pI → pR → Prop} {f1 : Int32} {f2 : Int32} {f3 : Int32} {x4 : Int32} {x5 : Int32} {s0 : Int32} {E : pE} {B : pB} (g : pw_G m_md_call (d + 2) 0 0 E B) (hF : pX (qz Q) E B) (hK26 : ∀ (y4 : Int32) (y5 : Int32) (I : pI) (R : pR), pw_Lay R → K26 y4 y5 I R → PX E B m_md_call.2.2.1 26 [some (.ref 121), some (.int f1), some (.int f2), some (.int f3), some (.int y4), some (.int y5), none, none, none] [] I R) {I : pI} {R : pR} (hL : pw_Lay R) (h : j_md_call_91  K26 Q f1 f2 f3 x4 x5 s0 I R) : PX E B m_md_call.2.2.1 91 [some (.ref 121), some (.int f1), some (.int f2), some (.int f3), some (.int x4), some (.int x5), none, none, none] [.int s0] I R := by
  unfold j_md_call_91 at h
  refine PW.iload_n g rfl rfl d_md_call_91 ?_
  refine PW.aload_n g rfl rfl d_md_call_92 ?_
  refine PW.getR (q := 142) g fi_md_70 rfl (hL 121 12 27 rfl (by decide)) d_md_call_93 ?_
  refine PW.iload g rfl d_md_call_96 ?_
  refine PW.iald g rfl h.1 d_md_call_98 ?_
  have h := h.2
  refine PW.icmp_ne g 106 (by decide) d_md_call_99 (fun c14 => ?_) (fun c14 => ?_)
  · have h := h.1 c14
    refine PW.iconst g (0) (by decide) d_md_call_106 ?_
    refine PX.sub [some (.ref 121), some (.int f1), some (.int f2), some (.int f3), some (.int x4), some (.int x5), none, none, none] ⟨rfl, ⟨rfl, ⟨rfl, ⟨rfl, ⟨rfl, ⟨rfl, trivial⟩⟩⟩⟩⟩⟩ ?_
    refine J_md_call_107 d g hF (fun y19 y20 I14 R12 hL h => ?_) hL h
    refine PX.sub [some (.ref 121), some (.int f1), some (.int f2), some (.int f3), some (.int y19), some (.int y20), none, none, none] ⟨rfl, ⟨rfl, ⟨rfl, ⟨rfl, ⟨rfl, ⟨rfl, trivial⟩⟩⟩⟩⟩⟩ ?_
    exact hK26 _ _ _ _ hL h
  · have h := h.2 c14
    refine PW.iconst g (1) (by decide) d_md_call_102 ?_
    refine PW.goto g 107 (by decide) d_md_call_103 ?_
    refine PX.sub [some (.ref 121), some (.int f1), some (.int f2), some (.int f3), some (.int x4), some (.int x5), none, none, none] ⟨rfl, ⟨rfl, ⟨rfl, ⟨rfl, ⟨rfl, ⟨rfl, trivial⟩⟩⟩⟩⟩⟩ ?_
    refine J_md_call_107 d g hF (fun y21 y22 I15 R13 hL h => ?_) hL h
    refine PX.sub [some (.ref 121), some (.int f1), some (.int f2), some (.int f3), some (.int y21), some (.int y22), none, none, none] ⟨rfl, ⟨rfl, ⟨rfl, ⟨rfl, ⟨rfl, ⟨rfl, trivial⟩⟩⟩⟩⟩⟩ ?_
    exact hK26 _ _ _ _ hL h
def l_md_call_26 (f1 : Int32) (f2 : Int32) (f3 : Int32) (K : Int32 → pI → pR → Prop) (Q : Int32 → pI → pR → Prop) : Nat → Int32 → Int32 → pI → pR → Prop
  | 0, _, _, _, _ => False
  | n + 1, x4, x5, I, R => (((I 121 63) ≤ x5 → K x4 I R) ∧ (¬ (I 121 63) ≤ x5 → (((I 121 61) = 0 → K x4 I R) ∧ (¬ (I 121 61) = 0 → (vp_in x5 200 ∧ ((¬ (I 131 x5.toNatClampNeg) = (7 : Int32) → (j_md_call_114 (fun y7 y8 I8 R6 => l_md_call_26 f1 f2 f3 K Q n y7 y8 I8 R6) Q f1 f2 f3 x4 x5 I R)) ∧ ((I 131 x5.toNatClampNeg) = (7 : Int32) → (vp_in x5 200 ∧ ((¬ (I 140 x5.toNatClampNeg) = f1 → (j_md_call_114 (fun y9 y10 I9 R7 => l_md_call_26 f1 f2 f3 K Q n y9 y10 I9 R7) Q f1 f2 f3 x4 x5 I R)) ∧ ((I 140 x5.toNatClampNeg) = f1 → (vp_in x5 200 ∧ (((I 141 x5.toNatClampNeg) = 0 → (j_md_call_110 (fun y13 y14 I11 R9 => l_md_call_26 f1 f2 f3 K Q n y13 y14 I11 R9) Q f1 f2 f3 x4 x5 I R)) ∧ (¬ (I 141 x5.toNatClampNeg) = 0 → (vp_in x5 200 ∧ ((¬ (I 141 x5.toNatClampNeg) = (1 : Int32) → (j_md_call_91 (fun y23 y24 I16 R14 => l_md_call_26 f1 f2 f3 K Q n y23 y24 I16 R14) Q f1 f2 f3 x4 x5 (0 : Int32) I R)) ∧ ((I 141 x5.toNatClampNeg) = (1 : Int32) → (j_md_call_91 (fun y25 y26 I17 R15 => l_md_call_26 f1 f2 f3 K Q n y25 y26 I17 R15) Q f1 f2 f3 x4 x5 (1 : Int32) I R)))))))))))))))))
set_option maxHeartbeats 4000000 in
set_option maxRecDepth 100000 in
theorem L_md_call_26 (d : Nat) {f1 : Int32} {f2 : Int32} {f3 : Int32} {K : Int32 → pI → pR → Prop} {Q : Int32 → pI → pR → Prop} {E : pE} {B : pB} (g : pw_G m_md_call (d + 2) 0 0 E B) (hF : pX (qz Q) E B) (hK : ∀ (y4 : Int32) (I : pI) (R : pR), pw_Lay R → K y4 I R → PX E B m_md_call.2.2.1 274 [some (.ref 121), none, none, some (.int f3), some (.int y4), none, none, none, none] [] I R) : ∀ (n : Nat) (x4 : Int32) (x5 : Int32) (I : pI) (R : pR), pw_Lay R → l_md_call_26 f1 f2 f3 K Q n x4 x5 I R → PX E B m_md_call.2.2.1 26 [some (.ref 121), some (.int f1), some (.int f2), some (.int f3), some (.int x4), some (.int x5), none, none, none] [] I R := by
  intro n
  induction n with
  | zero => intro x4 x5 I R hL h; exact False.elim h
  | succ n ih =>
    intro x4 x5 I R hL h
    refine PW.iload g rfl d_md_call_26 ?_
    refine PW.aload_n g rfl rfl d_md_call_28 ?_
    refine PW.getI g fi_md_380 rfl d_md_call_29 ?_
    refine PW.icmp_ge g 274 (by decide) d_md_call_32 (fun c1 => ?_) (fun c1 => ?_)
    · have h := h.1 c1
      refine PX.sub [some (.ref 121), none, none, some (.int f3), some (.int x4), none, none, none, none] ⟨rfl, ⟨rfl, ⟨rfl, trivial⟩⟩⟩ ?_
      exact hK _ _ _ hL h
    · have h := h.2 c1
      refine PW.aload_n g rfl rfl d_md_call_35 ?_
      refine PW.getI g fi_md_383 rfl d_md_call_36 ?_
      refine PW.if_eq g 274 (by decide) d_md_call_39 (fun c2 => ?_) (fun c2 => ?_)
      · have h := h.1 c2
        refine PX.sub [some (.ref 121), none, none, some (.int f3), some (.int x4), none, none, none, none] ⟨rfl, ⟨rfl, ⟨rfl, trivial⟩⟩⟩ ?_
        exact hK _ _ _ hL h
      · have h := h.2 c2
        refine PW.aload_n g rfl rfl d_md_call_42 ?_
        refine PW.getR (q := 131) g fi_md_37 rfl (hL 121 12 16 rfl (by decide)) d_md_call_43 ?_
        refine PW.iload g rfl d_md_call_46 ?_
        refine PW.iald g rfl h.1 d_md_call_48 ?_
        have h := h.2
        refine PW.bipush g (7) (by decide) d_md_call_49 ?_
        refine PW.icmp_ne g 114 (by decide) d_md_call_51 (fun c3 => ?_) (fun c3 => ?_)
        · have h := h.1 c3
          refine PX.sub [some (.ref 121), some (.int f1), some (.int f2), some (.int f3), some (.int x4), some (.int x5), none, none, none] ⟨rfl, ⟨rfl, ⟨rfl, ⟨rfl, ⟨rfl, ⟨rfl, trivial⟩⟩⟩⟩⟩⟩ ?_
          refine J_md_call_114 d g hF (fun y7 y8 I8 R6 hL h => ?_) hL h
          refine PX.sub [some (.ref 121), some (.int f1), some (.int f2), some (.int f3), some (.int y7), some (.int y8), none, none, none] ⟨rfl, ⟨rfl, ⟨rfl, ⟨rfl, ⟨rfl, ⟨rfl, trivial⟩⟩⟩⟩⟩⟩ ?_
          exact ih _ _ _ _ hL h
        · have h := h.2 c3
          refine PW.aload_n g rfl rfl d_md_call_54 ?_
          refine PW.getR (q := 140) g fi_md_64 rfl (hL 121 12 25 rfl (by decide)) d_md_call_55 ?_
          refine PW.iload g rfl d_md_call_58 ?_
          refine PW.iald g rfl h.1 d_md_call_60 ?_
          have h := h.2
          refine PW.iload_n g rfl rfl d_md_call_61 ?_
          refine PW.icmp_ne g 114 (by decide) d_md_call_62 (fun c11 => ?_) (fun c11 => ?_)
          · have h := h.1 c11
            refine PX.sub [some (.ref 121), some (.int f1), some (.int f2), some (.int f3), some (.int x4), some (.int x5), none, none, none] ⟨rfl, ⟨rfl, ⟨rfl, ⟨rfl, ⟨rfl, ⟨rfl, trivial⟩⟩⟩⟩⟩⟩ ?_
            refine J_md_call_114 d g hF (fun y9 y10 I9 R7 hL h => ?_) hL h
            refine PX.sub [some (.ref 121), some (.int f1), some (.int f2), some (.int f3), some (.int y9), some (.int y10), none, none, none] ⟨rfl, ⟨rfl, ⟨rfl, ⟨rfl, ⟨rfl, ⟨rfl, trivial⟩⟩⟩⟩⟩⟩ ?_
            exact ih _ _ _ _ hL h
          · have h := h.2 c11
            refine PW.aload_n g rfl rfl d_md_call_65 ?_
            refine PW.getR (q := 141) g fi_md_67 rfl (hL 121 12 26 rfl (by decide)) d_md_call_66 ?_
            refine PW.iload g rfl d_md_call_69 ?_
            refine PW.iald g rfl h.1 d_md_call_71 ?_
            have h := h.2
            refine PW.if_eq g 110 (by decide) d_md_call_72 (fun c12 => ?_) (fun c12 => ?_)
            · have h := h.1 c12
              refine PX.sub [some (.ref 121), some (.int f1), some (.int f2), some (.int f3), some (.int x4), some (.int x5), none, none, none] ⟨rfl, ⟨rfl, ⟨rfl, ⟨rfl, ⟨rfl, ⟨rfl, trivial⟩⟩⟩⟩⟩⟩ ?_
              refine J_md_call_110 d g hF (fun y13 y14 I11 R9 hL h => ?_) hL h
              refine PX.sub [some (.ref 121), some (.int f1), some (.int f2), some (.int f3), some (.int y13), some (.int y14), none, none, none] ⟨rfl, ⟨rfl, ⟨rfl, ⟨rfl, ⟨rfl, ⟨rfl, trivial⟩⟩⟩⟩⟩⟩ ?_
              exact ih _ _ _ _ hL h
            · have h := h.2 c12
              refine PW.aload_n g rfl rfl d_md_call_75 ?_
              refine PW.getR (q := 141) g fi_md_67 rfl (hL 121 12 26 rfl (by decide)) d_md_call_76 ?_
              refine PW.iload g rfl d_md_call_79 ?_
              refine PW.iald g rfl h.1 d_md_call_81 ?_
              have h := h.2
              refine PW.iconst g (1) (by decide) d_md_call_82 ?_
              refine PW.icmp_ne g 90 (by decide) d_md_call_83 (fun c13 => ?_) (fun c13 => ?_)
              · have h := h.1 c13
                refine PW.iconst g (0) (by decide) d_md_call_90 ?_
                refine PX.sub [some (.ref 121), some (.int f1), some (.int f2), some (.int f3), some (.int x4), some (.int x5), none, none, none] ⟨rfl, ⟨rfl, ⟨rfl, ⟨rfl, ⟨rfl, ⟨rfl, trivial⟩⟩⟩⟩⟩⟩ ?_
                refine J_md_call_91 d g hF (fun y23 y24 I16 R14 hL h => ?_) hL h
                refine PX.sub [some (.ref 121), some (.int f1), some (.int f2), some (.int f3), some (.int y23), some (.int y24), none, none, none] ⟨rfl, ⟨rfl, ⟨rfl, ⟨rfl, ⟨rfl, ⟨rfl, trivial⟩⟩⟩⟩⟩⟩ ?_
                exact ih _ _ _ _ hL h
              · have h := h.2 c13
                refine PW.iconst g (1) (by decide) d_md_call_86 ?_
                refine PW.goto g 91 (by decide) d_md_call_87 ?_
                refine PX.sub [some (.ref 121), some (.int f1), some (.int f2), some (.int f3), some (.int x4), some (.int x5), none, none, none] ⟨rfl, ⟨rfl, ⟨rfl, ⟨rfl, ⟨rfl, ⟨rfl, trivial⟩⟩⟩⟩⟩⟩ ?_
                refine J_md_call_91 d g hF (fun y25 y26 I17 R15 hL h => ?_) hL h
                refine PX.sub [some (.ref 121), some (.int f1), some (.int f2), some (.int f3), some (.int y25), some (.int y26), none, none, none] ⟨rfl, ⟨rfl, ⟨rfl, ⟨rfl, ⟨rfl, ⟨rfl, trivial⟩⟩⟩⟩⟩⟩ ?_
                exact ih _ _ _ _ hL h
def j_md_call_274 (Q : Int32 → pI → pR → Prop) (x3 : Int32) (x4 : Int32) (I : pI) (R : pR) : Prop := ((x4 = 0 → (w_md_give (0 : Int32) I R (fun I19 R17 => (w_md_draw x3 (0 : Int32) I19 R17 (fun I20 R18 => Q (1 : Int32) I20 R18))))) ∧ (¬ x4 = 0 → (w_md_trouble (2 : Int32) x3 I R (fun v5 I21 R19 => Q v5 I21 R19))))
set_option maxHeartbeats 4000000 in
set_option maxRecDepth 100000 in
theorem J_md_call_274 (d : Nat) {Q : Int32 → pI → pR → Prop} {x3 : Int32} {x4 : Int32} {E : pE} {B : pB} (g : pw_G m_md_call (d + 2) 0 0 E B) (hF : pX (qz Q) E B) {I : pI} {R : pR} (hL : pw_Lay R) (h : j_md_call_274  Q x3 x4 I R) : PX E B m_md_call.2.2.1 274 [some (.ref 121), none, none, some (.int x3), some (.int x4), none, none, none, none] [] I R := by
  unfold j_md_call_274 at h
  refine PW.iload g rfl d_md_call_274 ?_
  refine PW.if_eq g 286 (by decide) d_md_call_276 (fun c16 => ?_) (fun c16 => ?_)
  · have h := h.1 c16
    refine PW.aload_n g rfl rfl d_md_call_286 ?_
    refine PW.iconst g (0) (by decide) d_md_call_287 ?_
    refine PX.cVv [.int (0 : Int32)] [] g rfl ck_md (c_md_give d  hL h) cl_md_386 (by omega) (by decide) rfl rfl (Nat.le_of_ble_eq_true rfl) d_md_call_288 (fun I19 R17 hL h => ?_)
    refine PW.aload_n g rfl rfl d_md_call_291 ?_
    refine PW.iload_n g rfl rfl d_md_call_292 ?_
    refine PW.iconst g (0) (by decide) d_md_call_293 ?_
    refine PX.cVv [.int x3, .int (0 : Int32)] [] g rfl ck_md (c_md_draw d  hL h) cl_md_389 (by omega) (by decide) rfl rfl (Nat.le_of_ble_eq_true rfl) d_md_call_294 (fun I20 R18 hL h => ?_)
    refine PW.iconst g (1) (by decide) d_md_call_297 ?_
    exact PX.zret g hF rfl (Or.inr rfl) d_md_call_298 hL h
  · have h := h.2 c16
    refine PW.aload_n g rfl rfl d_md_call_279 ?_
    refine PW.iconst g (2) (by decide) d_md_call_280 ?_
    refine PW.iload_n g rfl rfl d_md_call_281 ?_
    refine PX.cVz [.int (2 : Int32), .int x3] [] g rfl ck_md (c_md_trouble d  hL h) cl_md_392 (by omega) (by decide) rfl rfl (Nat.le_of_ble_eq_true rfl) d_md_call_282 (fun v5 I21 R19 hL hzv5 h => ?_)
    exact PX.zret g hF rfl hzv5 d_md_call_285 hL h
def w_md_call (a1 : Int32) (a2 : Int32) (a3 : Int32) (I : pI) (R : pR) (Q : Int32 → pI → pR → Prop) : Prop := (vp_in (((2 : Int32) * (I 121 68)) + a1) 12 ∧ (vp_in (((2 : Int32) * (I 121 68)) + a1) 12 ∧ ∀ I1, I1 = pw_wI I 167 (((2 : Int32) * (I 121 68)) + a1).toNatClampNeg ((I 167 (((2 : Int32) * (I 121 68)) + a1).toNatClampNeg) + (1 : Int32)) → (∃ n1, l_md_call_26 a1 a2 a3 (fun y27 I18 R16 => (j_md_call_274 Q a3 y27 I18 R16)) Q n1 (0 : Int32) (I1 121 62) I1 R)))
set_option maxHeartbeats 4000000 in
set_option maxRecDepth 100000 in
theorem c_md_call (d : Nat) {a1 : Int32} {a2 : Int32} {a3 : Int32} {I : pI} {R : pR} {Q : Int32 → pI → pR → Prop} (hL : pw_Lay R) (h : w_md_call a1 a2 a3 I R Q) : Cm (d + 2) m_md_call [.ref 121, .int a1, .int a2, .int a3] I R (qz Q) := by
  refine Cm.of [some (.ref 121), some (.int a1), some (.int a2), some (.int a3), none, none, none, none, none] (by decide) rfl (Nat.le_of_ble_eq_true rfl) (by simp) (fun E B g hF => ?_)
  unfold w_md_call at h
  refine PW.aload_n g rfl rfl d_md_call_0 ?_
  refine PW.getR (q := 167) g fi_md_150 rfl (hL 121 12 75 rfl (by decide)) d_md_call_1 ?_
  refine PW.iconst g (2) (by decide) d_md_call_4 ?_
  refine PW.aload_n g rfl rfl d_md_call_5 ?_
  refine PW.getI g fi_md_374 rfl d_md_call_6 ?_
  refine PW.imul g d_md_call_9 ?_
  refine PW.iload_n g rfl rfl d_md_call_10 ?_
  refine PW.iadd g d_md_call_11 ?_
  refine PW.dup2 g rfl rfl d_md_call_12 ?_
  refine PW.iald g rfl h.1 d_md_call_13 ?_
  have h := h.2
  refine PW.iconst g (1) (by decide) d_md_call_14 ?_
  refine PW.iadd g d_md_call_15 ?_
  refine PW.iast g rfl h.1 d_md_call_16 ?_
  refine PX.gI (fun I1 eI1 => ?_)
  have h := h.2 _ eI1
  refine PW.iconst g (0) (by decide) d_md_call_17 ?_
  refine PW.istore g (L' := [some (.ref 121), some (.int a1), some (.int a2), some (.int a3), some (.int (0 : Int32)), none, none, none, none]) (by decide) rfl rfl d_md_call_18 ?_
  refine PW.aload_n g rfl rfl d_md_call_20 ?_
  refine PW.getI g fi_md_377 rfl d_md_call_21 ?_
  refine PW.istore g (L' := [some (.ref 121), some (.int a1), some (.int a2), some (.int a3), some (.int (0 : Int32)), some (.int (I1 121 62)), none, none, none]) (by decide) rfl rfl d_md_call_24 ?_
  refine PX.sub [some (.ref 121), some (.int a1), some (.int a2), some (.int a3), some (.int (0 : Int32)), some (.int (I1 121 62)), none, none, none] ⟨rfl, ⟨rfl, ⟨rfl, ⟨rfl, ⟨rfl, ⟨rfl, trivial⟩⟩⟩⟩⟩⟩ ?_
  obtain ⟨n1, h⟩ := h
  refine L_md_call_26 d g hF (fun y27 I18 R16 hL h => ?_) n1 (0 : Int32) (I1 121 62) I1 R hL h
  refine PX.sub [some (.ref 121), none, none, some (.int a3), some (.int y27), none, none, none, none] ⟨rfl, ⟨rfl, ⟨rfl, trivial⟩⟩⟩ ?_
  exact J_md_call_274 d g hF hL h
def w_md_truth (a1 : Int32) (I : pI) (R : pR) (Q : Int32 → pI → pR → Prop) : Prop := ((a1 = 0 → Q (0 : Int32) I R) ∧ (¬ a1 = 0 → Q (1 : Int32) I R))
set_option maxHeartbeats 4000000 in
set_option maxRecDepth 100000 in
theorem c_md_truth (d : Nat) {a1 : Int32} {I : pI} {R : pR} {Q : Int32 → pI → pR → Prop} (hL : pw_Lay R) (h : w_md_truth a1 I R Q) : Cm (d + 1) m_md_truth [.int a1] I R (qi Q) := by
  refine Cm.of [some (.int a1)] (by decide) rfl (Nat.le_of_ble_eq_true rfl) (by simp) (fun E B g hF => ?_)
  unfold w_md_truth at h
  refine PW.iload_n g rfl rfl d_md_truth_0 ?_
  refine PW.if_eq g 8 (by decide) d_md_truth_1 (fun c1 => ?_) (fun c1 => ?_)
  · have h := h.1 c1
    refine PW.iconst g (0) (by decide) d_md_truth_8 ?_
    exact PX.iret g hF rfl d_md_truth_9 hL h
  · have h := h.2 c1
    refine PW.iconst g (1) (by decide) d_md_truth_4 ?_
    refine PW.goto g 9 (by decide) d_md_truth_5 ?_
    exact PX.iret g hF rfl d_md_truth_9 hL h
def w_md_compared (a1 : Int32) (a2 : Int32) (a3 : Int32) (I : pI) (R : pR) (Q : Int32 → pI → pR → Prop) : Prop := ((¬ a1 = (128 : Int32) → ((¬ a1 = (129 : Int32) → ((¬ a1 = (130 : Int32) → ((¬ a1 = (131 : Int32) → ((¬ a1 = (60 : Int32) → ((a2 ≤ a3 → (w_md_truth (0 : Int32) I R (fun v1 I1 R1 => Q v1 I1 R1))) ∧ (¬ a2 ≤ a3 → (w_md_truth (1 : Int32) I R (fun v2 I2 R2 => Q v2 I2 R2))))) ∧ (a1 = (60 : Int32) → ((a3 ≤ a2 → (w_md_truth (0 : Int32) I R (fun v3 I3 R3 => Q v3 I3 R3))) ∧ (¬ a3 ≤ a2 → (w_md_truth (1 : Int32) I R (fun v4 I4 R4 => Q v4 I4 R4))))))) ∧ (a1 = (131 : Int32) → ((a2 < a3 → (w_md_truth (0 : Int32) I R (fun v5 I5 R5 => Q v5 I5 R5))) ∧ (¬ a2 < a3 → (w_md_truth (1 : Int32) I R (fun v6 I6 R6 => Q v6 I6 R6))))))) ∧ (a1 = (130 : Int32) → ((a3 < a2 → (w_md_truth (0 : Int32) I R (fun v7 I7 R7 => Q v7 I7 R7))) ∧ (¬ a3 < a2 → (w_md_truth (1 : Int32) I R (fun v8 I8 R8 => Q v8 I8 R8))))))) ∧ (a1 = (129 : Int32) → ((a2 = a3 → (w_md_truth (0 : Int32) I R (fun v9 I9 R9 => Q v9 I9 R9))) ∧ (¬ a2 = a3 → (w_md_truth (1 : Int32) I R (fun v10 I10 R10 => Q v10 I10 R10))))))) ∧ (a1 = (128 : Int32) → ((¬ a2 = a3 → (w_md_truth (0 : Int32) I R (fun v11 I11 R11 => Q v11 I11 R11))) ∧ (a2 = a3 → (w_md_truth (1 : Int32) I R (fun v12 I12 R12 => Q v12 I12 R12))))))
set_option maxHeartbeats 4000000 in
set_option maxRecDepth 100000 in
theorem c_md_compared (d : Nat) {a1 : Int32} {a2 : Int32} {a3 : Int32} {I : pI} {R : pR} {Q : Int32 → pI → pR → Prop} (hL : pw_Lay R) (h : w_md_compared a1 a2 a3 I R Q) : Cm (d + 2) m_md_compared [.int a1, .int a2, .int a3] I R (qi Q) := by
  refine Cm.of [some (.int a1), some (.int a2), some (.int a3)] (by decide) rfl (Nat.le_of_ble_eq_true rfl) (by simp) (fun E B g hF => ?_)
  unfold w_md_compared at h
  refine PW.iload_n g rfl rfl d_md_compared_0 ?_
  refine PW.sipush g (128) (by decide) d_md_compared_1 ?_
  refine PW.icmp_ne g 21 (by decide) d_md_compared_4 (fun c1 => ?_) (fun c1 => ?_)
  · have h := h.1 c1
    refine PW.iload_n g rfl rfl d_md_compared_21 ?_
    refine PW.sipush g (129) (by decide) d_md_compared_22 ?_
    refine PW.icmp_ne g 42 (by decide) d_md_compared_25 (fun c2 => ?_) (fun c2 => ?_)
    · have h := h.1 c2
      refine PW.iload_n g rfl rfl d_md_compared_42 ?_
      refine PW.sipush g (130) (by decide) d_md_compared_43 ?_
      refine PW.icmp_ne g 63 (by decide) d_md_compared_46 (fun c3 => ?_) (fun c3 => ?_)
      · have h := h.1 c3
        refine PW.iload_n g rfl rfl d_md_compared_63 ?_
        refine PW.sipush g (131) (by decide) d_md_compared_64 ?_
        refine PW.icmp_ne g 84 (by decide) d_md_compared_67 (fun c4 => ?_) (fun c4 => ?_)
        · have h := h.1 c4
          refine PW.iload_n g rfl rfl d_md_compared_84 ?_
          refine PW.bipush g (60) (by decide) d_md_compared_85 ?_
          refine PW.icmp_ne g 103 (by decide) d_md_compared_87 (fun c5 => ?_) (fun c5 => ?_)
          · have h := h.1 c5
            refine PW.iload_n g rfl rfl d_md_compared_103 ?_
            refine PW.iload_n g rfl rfl d_md_compared_104 ?_
            refine PW.icmp_le g 112 (by decide) d_md_compared_105 (fun c6 => ?_) (fun c6 => ?_)
            · have h := h.1 c6
              refine PW.iconst g (0) (by decide) d_md_compared_112 ?_
              refine PX.cSi [.int (0 : Int32)] [] g (c_md_truth d  hL h) cl_md_394 (by omega) (by decide) rfl rfl (Nat.le_of_ble_eq_true rfl) d_md_compared_113 (fun v1 I1 R1 hL h => ?_)
              exact PX.iret g hF rfl d_md_compared_116 hL h
            · have h := h.2 c6
              refine PW.iconst g (1) (by decide) d_md_compared_108 ?_
              refine PW.goto g 113 (by decide) d_md_compared_109 ?_
              refine PX.cSi [.int (1 : Int32)] [] g (c_md_truth d  hL h) cl_md_394 (by omega) (by decide) rfl rfl (Nat.le_of_ble_eq_true rfl) d_md_compared_113 (fun v2 I2 R2 hL h => ?_)
              exact PX.iret g hF rfl d_md_compared_116 hL h
          · have h := h.2 c5
            refine PW.iload_n g rfl rfl d_md_compared_90 ?_
            refine PW.iload_n g rfl rfl d_md_compared_91 ?_
            refine PW.icmp_ge g 99 (by decide) d_md_compared_92 (fun c7 => ?_) (fun c7 => ?_)
            · have h := h.1 c7
              refine PW.iconst g (0) (by decide) d_md_compared_99 ?_
              refine PW.goto g 113 (by decide) d_md_compared_100 ?_
              refine PX.cSi [.int (0 : Int32)] [] g (c_md_truth d  hL h) cl_md_394 (by omega) (by decide) rfl rfl (Nat.le_of_ble_eq_true rfl) d_md_compared_113 (fun v3 I3 R3 hL h => ?_)
              exact PX.iret g hF rfl d_md_compared_116 hL h
            · have h := h.2 c7
              refine PW.iconst g (1) (by decide) d_md_compared_95 ?_
              refine PW.goto g 113 (by decide) d_md_compared_96 ?_
              refine PX.cSi [.int (1 : Int32)] [] g (c_md_truth d  hL h) cl_md_394 (by omega) (by decide) rfl rfl (Nat.le_of_ble_eq_true rfl) d_md_compared_113 (fun v4 I4 R4 hL h => ?_)
              exact PX.iret g hF rfl d_md_compared_116 hL h
        · have h := h.2 c4
          refine PW.iload_n g rfl rfl d_md_compared_70 ?_
          refine PW.iload_n g rfl rfl d_md_compared_71 ?_
          refine PW.icmp_lt g 79 (by decide) d_md_compared_72 (fun c8 => ?_) (fun c8 => ?_)
          · have h := h.1 c8
            refine PW.iconst g (0) (by decide) d_md_compared_79 ?_
            refine PX.cSi [.int (0 : Int32)] [] g (c_md_truth d  hL h) cl_md_394 (by omega) (by decide) rfl rfl (Nat.le_of_ble_eq_true rfl) d_md_compared_80 (fun v5 I5 R5 hL h => ?_)
            exact PX.iret g hF rfl d_md_compared_83 hL h
          · have h := h.2 c8
            refine PW.iconst g (1) (by decide) d_md_compared_75 ?_
            refine PW.goto g 80 (by decide) d_md_compared_76 ?_
            refine PX.cSi [.int (1 : Int32)] [] g (c_md_truth d  hL h) cl_md_394 (by omega) (by decide) rfl rfl (Nat.le_of_ble_eq_true rfl) d_md_compared_80 (fun v6 I6 R6 hL h => ?_)
            exact PX.iret g hF rfl d_md_compared_83 hL h
      · have h := h.2 c3
        refine PW.iload_n g rfl rfl d_md_compared_49 ?_
        refine PW.iload_n g rfl rfl d_md_compared_50 ?_
        refine PW.icmp_gt g 58 (by decide) d_md_compared_51 (fun c9 => ?_) (fun c9 => ?_)
        · have h := h.1 c9
          refine PW.iconst g (0) (by decide) d_md_compared_58 ?_
          refine PX.cSi [.int (0 : Int32)] [] g (c_md_truth d  hL h) cl_md_394 (by omega) (by decide) rfl rfl (Nat.le_of_ble_eq_true rfl) d_md_compared_59 (fun v7 I7 R7 hL h => ?_)
          exact PX.iret g hF rfl d_md_compared_62 hL h
        · have h := h.2 c9
          refine PW.iconst g (1) (by decide) d_md_compared_54 ?_
          refine PW.goto g 59 (by decide) d_md_compared_55 ?_
          refine PX.cSi [.int (1 : Int32)] [] g (c_md_truth d  hL h) cl_md_394 (by omega) (by decide) rfl rfl (Nat.le_of_ble_eq_true rfl) d_md_compared_59 (fun v8 I8 R8 hL h => ?_)
          exact PX.iret g hF rfl d_md_compared_62 hL h
    · have h := h.2 c2
      refine PW.iload_n g rfl rfl d_md_compared_28 ?_
      refine PW.iload_n g rfl rfl d_md_compared_29 ?_
      refine PW.icmp_eq g 37 (by decide) d_md_compared_30 (fun c10 => ?_) (fun c10 => ?_)
      · have h := h.1 c10
        refine PW.iconst g (0) (by decide) d_md_compared_37 ?_
        refine PX.cSi [.int (0 : Int32)] [] g (c_md_truth d  hL h) cl_md_394 (by omega) (by decide) rfl rfl (Nat.le_of_ble_eq_true rfl) d_md_compared_38 (fun v9 I9 R9 hL h => ?_)
        exact PX.iret g hF rfl d_md_compared_41 hL h
      · have h := h.2 c10
        refine PW.iconst g (1) (by decide) d_md_compared_33 ?_
        refine PW.goto g 38 (by decide) d_md_compared_34 ?_
        refine PX.cSi [.int (1 : Int32)] [] g (c_md_truth d  hL h) cl_md_394 (by omega) (by decide) rfl rfl (Nat.le_of_ble_eq_true rfl) d_md_compared_38 (fun v10 I10 R10 hL h => ?_)
        exact PX.iret g hF rfl d_md_compared_41 hL h
  · have h := h.2 c1
    refine PW.iload_n g rfl rfl d_md_compared_7 ?_
    refine PW.iload_n g rfl rfl d_md_compared_8 ?_
    refine PW.icmp_ne g 16 (by decide) d_md_compared_9 (fun c11 => ?_) (fun c11 => ?_)
    · have h := h.1 c11
      refine PW.iconst g (0) (by decide) d_md_compared_16 ?_
      refine PX.cSi [.int (0 : Int32)] [] g (c_md_truth d  hL h) cl_md_394 (by omega) (by decide) rfl rfl (Nat.le_of_ble_eq_true rfl) d_md_compared_17 (fun v11 I11 R11 hL h => ?_)
      exact PX.iret g hF rfl d_md_compared_20 hL h
    · have h := h.2 c11
      refine PW.iconst g (1) (by decide) d_md_compared_12 ?_
      refine PW.goto g 17 (by decide) d_md_compared_13 ?_
      refine PX.cSi [.int (1 : Int32)] [] g (c_md_truth d  hL h) cl_md_394 (by omega) (by decide) rfl rfl (Nat.le_of_ble_eq_true rfl) d_md_compared_17 (fun v12 I12 R12 hL h => ?_)
      exact PX.iret g hF rfl d_md_compared_20 hL h
def j_md_reckon_58 (Q : Int32 → pI → pR → Prop) (x1 : Int32) (x2 : Int32) (x3 : Int32) (x4 : Int32) (I : pI) (R : pR) : Prop := (w_md_rank x1 I R (fun v1 I2 R1 => ((¬ v1 = (3 : Int32) → ((¬ x1 = (43 : Int32) → ((¬ x1 = (45 : Int32) → ((¬ x1 = (42 : Int32) → ((¬ x1 = (47 : Int32) → (¬ x3 = 0 ∧ (w_md_give (x4 - x4 / x3 * x3) I2 R1 (fun I3 R2 => (w_md_draw x2 (x4 - x4 / x3 * x3) I3 R2 (fun I4 R3 => Q (1 : Int32) I4 R3)))))) ∧ (x1 = (47 : Int32) → (¬ x3 = 0 ∧ (w_md_give (x4 / x3) I2 R1 (fun I5 R4 => (w_md_draw x2 (x4 / x3) I5 R4 (fun I6 R5 => Q (1 : Int32) I6 R5)))))))) ∧ (x1 = (42 : Int32) → (w_md_give (x4 * x3) I2 R1 (fun I7 R6 => (w_md_draw x2 (x4 * x3) I7 R6 (fun I8 R7 => Q (1 : Int32) I8 R7))))))) ∧ (x1 = (45 : Int32) → (w_md_give (x4 - x3) I2 R1 (fun I9 R8 => (w_md_draw x2 (x4 - x3) I9 R8 (fun I10 R9 => Q (1 : Int32) I10 R9))))))) ∧ (x1 = (43 : Int32) → (w_md_give (x4 + x3) I2 R1 (fun I11 R10 => (w_md_draw x2 (x4 + x3) I11 R10 (fun I12 R11 => Q (1 : Int32) I12 R11))))))) ∧ (v1 = (3 : Int32) → (w_md_compared x1 x4 x3 I2 R1 (fun v12 I13 R12 => (w_md_give v12 I13 R12 (fun I14 R13 => (w_md_draw x2 v12 I14 R13 (fun I15 R14 => Q (1 : Int32) I15 R14))))))))))
set_option maxHeartbeats 4000000 in
set_option maxRecDepth 100000 in
theorem J_md_reckon_58 (d : Nat) {Q : Int32 → pI → pR → Prop} {x1 : Int32} {x2 : Int32} {x3 : Int32} {x4 : Int32} {E : pE} {B : pB} (g : pw_G m_md_reckon (d + 3) 0 0 E B) (hF : pX (qz Q) E B) {I : pI} {R : pR} (hL : pw_Lay R) (h : j_md_reckon_58  Q x1 x2 x3 x4 I R) : PX E B m_md_reckon.2.2.1 58 [some (.ref 121), some (.int x1), some (.int x2), some (.int x3), some (.int x4), none] [] I R := by
  unfold j_md_reckon_58 at h
  refine PW.iconst g (0) (by decide) d_md_reckon_58 ?_
  refine PW.istore g (L' := [some (.ref 121), some (.int x1), some (.int x2), some (.int x3), some (.int x4), some (.int (0 : Int32))]) (by decide) rfl rfl d_md_reckon_59 ?_
  refine PW.iload_n g rfl rfl d_md_reckon_61 ?_
  refine PX.cSi [.int x1] [] g (c_md_rank d  hL h) cl_md_223 (by omega) (by decide) rfl rfl (Nat.le_of_ble_eq_true rfl) d_md_reckon_62 (fun v1 I2 R1 hL h => ?_)
  refine PW.iconst g (3) (by decide) d_md_reckon_65 ?_
  refine PW.icmp_ne g 81 (by decide) d_md_reckon_66 (fun c3 => ?_) (fun c3 => ?_)
  · have h := h.1 c3
    refine PW.iload_n g rfl rfl d_md_reckon_81 ?_
    refine PW.bipush g (43) (by decide) d_md_reckon_82 ?_
    refine PW.icmp_ne g 96 (by decide) d_md_reckon_84 (fun c4 => ?_) (fun c4 => ?_)
    · have h := h.1 c4
      refine PW.iload_n g rfl rfl d_md_reckon_96 ?_
      refine PW.bipush g (45) (by decide) d_md_reckon_97 ?_
      refine PW.icmp_ne g 111 (by decide) d_md_reckon_99 (fun c5 => ?_) (fun c5 => ?_)
      · have h := h.1 c5
        refine PW.iload_n g rfl rfl d_md_reckon_111 ?_
        refine PW.bipush g (42) (by decide) d_md_reckon_112 ?_
        refine PW.icmp_ne g 126 (by decide) d_md_reckon_114 (fun c6 => ?_) (fun c6 => ?_)
        · have h := h.1 c6
          refine PW.iload_n g rfl rfl d_md_reckon_126 ?_
          refine PW.bipush g (47) (by decide) d_md_reckon_127 ?_
          refine PW.icmp_ne g 139 (by decide) d_md_reckon_129 (fun c7 => ?_) (fun c7 => ?_)
          · have h := h.1 c7
            refine PW.iload g rfl d_md_reckon_139 ?_
            refine PW.iload_n g rfl rfl d_md_reckon_141 ?_
            refine PW.irem g h.1 d_md_reckon_142 ?_
            have h := h.2
            refine PW.istore g (L' := [some (.ref 121), some (.int x1), some (.int x2), some (.int x3), some (.int x4), some (.int (x4 - x4 / x3 * x3))]) (by decide) rfl rfl d_md_reckon_143 ?_
            refine PW.aload_n g rfl rfl d_md_reckon_145 ?_
            refine PW.iload g rfl d_md_reckon_146 ?_
            refine PX.cVv [.int (x4 - x4 / x3 * x3)] [] g rfl ck_md (c_md_give d  hL h) cl_md_386 (by omega) (by decide) rfl rfl (Nat.le_of_ble_eq_true rfl) d_md_reckon_148 (fun I3 R2 hL h => ?_)
            refine PW.aload_n g rfl rfl d_md_reckon_151 ?_
            refine PW.iload_n g rfl rfl d_md_reckon_152 ?_
            refine PW.iload g rfl d_md_reckon_153 ?_
            refine PX.cVv [.int x2, .int (x4 - x4 / x3 * x3)] [] g rfl ck_md (c_md_draw d  hL h) cl_md_389 (by omega) (by decide) rfl rfl (Nat.le_of_ble_eq_true rfl) d_md_reckon_155 (fun I4 R3 hL h => ?_)
            refine PW.iconst g (1) (by decide) d_md_reckon_158 ?_
            exact PX.zret g hF rfl (Or.inr rfl) d_md_reckon_159 hL h
          · have h := h.2 c7
            refine PW.iload g rfl d_md_reckon_132 ?_
            refine PW.iload_n g rfl rfl d_md_reckon_134 ?_
            refine PW.idiv g h.1 d_md_reckon_135 ?_
            have h := h.2
            refine PW.goto g 143 (by decide) d_md_reckon_136 ?_
            refine PW.istore g (L' := [some (.ref 121), some (.int x1), some (.int x2), some (.int x3), some (.int x4), some (.int (x4 / x3))]) (by decide) rfl rfl d_md_reckon_143 ?_
            refine PW.aload_n g rfl rfl d_md_reckon_145 ?_
            refine PW.iload g rfl d_md_reckon_146 ?_
            refine PX.cVv [.int (x4 / x3)] [] g rfl ck_md (c_md_give d  hL h) cl_md_386 (by omega) (by decide) rfl rfl (Nat.le_of_ble_eq_true rfl) d_md_reckon_148 (fun I5 R4 hL h => ?_)
            refine PW.aload_n g rfl rfl d_md_reckon_151 ?_
            refine PW.iload_n g rfl rfl d_md_reckon_152 ?_
            refine PW.iload g rfl d_md_reckon_153 ?_
            refine PX.cVv [.int x2, .int (x4 / x3)] [] g rfl ck_md (c_md_draw d  hL h) cl_md_389 (by omega) (by decide) rfl rfl (Nat.le_of_ble_eq_true rfl) d_md_reckon_155 (fun I6 R5 hL h => ?_)
            refine PW.iconst g (1) (by decide) d_md_reckon_158 ?_
            exact PX.zret g hF rfl (Or.inr rfl) d_md_reckon_159 hL h
        · have h := h.2 c6
          refine PW.iload g rfl d_md_reckon_117 ?_
          refine PW.iload_n g rfl rfl d_md_reckon_119 ?_
          refine PW.imul g d_md_reckon_120 ?_
          refine PW.istore g (L' := [some (.ref 121), some (.int x1), some (.int x2), some (.int x3), some (.int x4), some (.int (x4 * x3))]) (by decide) rfl rfl d_md_reckon_121 ?_
          refine PW.goto g 145 (by decide) d_md_reckon_123 ?_
          refine PW.aload_n g rfl rfl d_md_reckon_145 ?_
          refine PW.iload g rfl d_md_reckon_146 ?_
          refine PX.cVv [.int (x4 * x3)] [] g rfl ck_md (c_md_give d  hL h) cl_md_386 (by omega) (by decide) rfl rfl (Nat.le_of_ble_eq_true rfl) d_md_reckon_148 (fun I7 R6 hL h => ?_)
          refine PW.aload_n g rfl rfl d_md_reckon_151 ?_
          refine PW.iload_n g rfl rfl d_md_reckon_152 ?_
          refine PW.iload g rfl d_md_reckon_153 ?_
          refine PX.cVv [.int x2, .int (x4 * x3)] [] g rfl ck_md (c_md_draw d  hL h) cl_md_389 (by omega) (by decide) rfl rfl (Nat.le_of_ble_eq_true rfl) d_md_reckon_155 (fun I8 R7 hL h => ?_)
          refine PW.iconst g (1) (by decide) d_md_reckon_158 ?_
          exact PX.zret g hF rfl (Or.inr rfl) d_md_reckon_159 hL h
      · have h := h.2 c5
        refine PW.iload g rfl d_md_reckon_102 ?_
        refine PW.iload_n g rfl rfl d_md_reckon_104 ?_
        refine PW.isub g d_md_reckon_105 ?_
        refine PW.istore g (L' := [some (.ref 121), some (.int x1), some (.int x2), some (.int x3), some (.int x4), some (.int (x4 - x3))]) (by decide) rfl rfl d_md_reckon_106 ?_
        refine PW.goto g 145 (by decide) d_md_reckon_108 ?_
        refine PW.aload_n g rfl rfl d_md_reckon_145 ?_
        refine PW.iload g rfl d_md_reckon_146 ?_
        refine PX.cVv [.int (x4 - x3)] [] g rfl ck_md (c_md_give d  hL h) cl_md_386 (by omega) (by decide) rfl rfl (Nat.le_of_ble_eq_true rfl) d_md_reckon_148 (fun I9 R8 hL h => ?_)
        refine PW.aload_n g rfl rfl d_md_reckon_151 ?_
        refine PW.iload_n g rfl rfl d_md_reckon_152 ?_
        refine PW.iload g rfl d_md_reckon_153 ?_
        refine PX.cVv [.int x2, .int (x4 - x3)] [] g rfl ck_md (c_md_draw d  hL h) cl_md_389 (by omega) (by decide) rfl rfl (Nat.le_of_ble_eq_true rfl) d_md_reckon_155 (fun I10 R9 hL h => ?_)
        refine PW.iconst g (1) (by decide) d_md_reckon_158 ?_
        exact PX.zret g hF rfl (Or.inr rfl) d_md_reckon_159 hL h
    · have h := h.2 c4
      refine PW.iload g rfl d_md_reckon_87 ?_
      refine PW.iload_n g rfl rfl d_md_reckon_89 ?_
      refine PW.iadd g d_md_reckon_90 ?_
      refine PW.istore g (L' := [some (.ref 121), some (.int x1), some (.int x2), some (.int x3), some (.int x4), some (.int (x4 + x3))]) (by decide) rfl rfl d_md_reckon_91 ?_
      refine PW.goto g 145 (by decide) d_md_reckon_93 ?_
      refine PW.aload_n g rfl rfl d_md_reckon_145 ?_
      refine PW.iload g rfl d_md_reckon_146 ?_
      refine PX.cVv [.int (x4 + x3)] [] g rfl ck_md (c_md_give d  hL h) cl_md_386 (by omega) (by decide) rfl rfl (Nat.le_of_ble_eq_true rfl) d_md_reckon_148 (fun I11 R10 hL h => ?_)
      refine PW.aload_n g rfl rfl d_md_reckon_151 ?_
      refine PW.iload_n g rfl rfl d_md_reckon_152 ?_
      refine PW.iload g rfl d_md_reckon_153 ?_
      refine PX.cVv [.int x2, .int (x4 + x3)] [] g rfl ck_md (c_md_draw d  hL h) cl_md_389 (by omega) (by decide) rfl rfl (Nat.le_of_ble_eq_true rfl) d_md_reckon_155 (fun I12 R11 hL h => ?_)
      refine PW.iconst g (1) (by decide) d_md_reckon_158 ?_
      exact PX.zret g hF rfl (Or.inr rfl) d_md_reckon_159 hL h
  · have h := h.2 c3
    refine PW.iload_n g rfl rfl d_md_reckon_69 ?_
    refine PW.iload g rfl d_md_reckon_70 ?_
    refine PW.iload_n g rfl rfl d_md_reckon_72 ?_
    refine PX.cSi [.int x1, .int x4, .int x3] [] g (c_md_compared d  hL h) cl_md_398 (by omega) (by decide) rfl rfl (Nat.le_of_ble_eq_true rfl) d_md_reckon_73 (fun v12 I13 R12 hL h => ?_)
    refine PW.istore g (L' := [some (.ref 121), some (.int x1), some (.int x2), some (.int x3), some (.int x4), some (.int v12)]) (by decide) rfl rfl d_md_reckon_76 ?_
    refine PW.goto g 145 (by decide) d_md_reckon_78 ?_
    refine PW.aload_n g rfl rfl d_md_reckon_145 ?_
    refine PW.iload g rfl d_md_reckon_146 ?_
    refine PX.cVv [.int v12] [] g rfl ck_md (c_md_give d  hL h) cl_md_386 (by omega) (by decide) rfl rfl (Nat.le_of_ble_eq_true rfl) d_md_reckon_148 (fun I14 R13 hL h => ?_)
    refine PW.aload_n g rfl rfl d_md_reckon_151 ?_
    refine PW.iload_n g rfl rfl d_md_reckon_152 ?_
    refine PW.iload g rfl d_md_reckon_153 ?_
    refine PX.cVv [.int x2, .int v12] [] g rfl ck_md (c_md_draw d  hL h) cl_md_389 (by omega) (by decide) rfl rfl (Nat.le_of_ble_eq_true rfl) d_md_reckon_155 (fun I15 R14 hL h => ?_)
    refine PW.iconst g (1) (by decide) d_md_reckon_158 ?_
    exact PX.zret g hF rfl (Or.inr rfl) d_md_reckon_159 hL h
def j_md_reckon_47 (Q : Int32 → pI → pR → Prop) (x1 : Int32) (x2 : Int32) (x3 : Int32) (x4 : Int32) (I : pI) (R : pR) : Prop := ((¬ x3 = 0 → (j_md_reckon_58 Q x1 x2 x3 x4 I R)) ∧ (x3 = 0 → (w_md_trouble (3 : Int32) x2 I R (fun v15 I16 R15 => Q v15 I16 R15))))
set_option maxHeartbeats 4000000 in
set_option maxRecDepth 100000 in
theorem J_md_reckon_47 (d : Nat) {Q : Int32 → pI → pR → Prop} {x1 : Int32} {x2 : Int32} {x3 : Int32} {x4 : Int32} {E : pE} {B : pB} (g : pw_G m_md_reckon (d + 3) 0 0 E B) (hF : pX (qz Q) E B) {I : pI} {R : pR} (hL : pw_Lay R) (h : j_md_reckon_47  Q x1 x2 x3 x4 I R) : PX E B m_md_reckon.2.2.1 47 [some (.ref 121), some (.int x1), some (.int x2), some (.int x3), some (.int x4), none] [] I R := by
  unfold j_md_reckon_47 at h
  refine PW.iload_n g rfl rfl d_md_reckon_47 ?_
  refine PW.if_ne g 58 (by decide) d_md_reckon_48 (fun c2 => ?_) (fun c2 => ?_)
  · have h := h.1 c2
    refine PX.sub [some (.ref 121), some (.int x1), some (.int x2), some (.int x3), some (.int x4), none] ⟨rfl, ⟨rfl, ⟨rfl, ⟨rfl, ⟨rfl, trivial⟩⟩⟩⟩⟩ ?_
    exact J_md_reckon_58 d g hF hL h
  · have h := h.2 c2
    refine PW.aload_n g rfl rfl d_md_reckon_51 ?_
    refine PW.iconst g (3) (by decide) d_md_reckon_52 ?_
    refine PW.iload_n g rfl rfl d_md_reckon_53 ?_
    refine PX.cVz [.int (3 : Int32), .int x2] [] g rfl ck_md (c_md_trouble d  hL h) cl_md_392 (by omega) (by decide) rfl rfl (Nat.le_of_ble_eq_true rfl) d_md_reckon_54 (fun v15 I16 R15 hL hzv15 h => ?_)
    exact PX.zret g hF rfl hzv15 d_md_reckon_57 hL h
def w_md_reckon (a1 : Int32) (a2 : Int32) (I : pI) (R : pR) (Q : Int32 → pI → pR → Prop) : Prop := (vp_in ((I 121 58) - (1 : Int32)) 64 ∧ (vp_in ((I 121 58) - (2 : Int32)) 64 ∧ (∀ I1, I1 = pw_wI I 121 58 ((I 121 58) - (2 : Int32)) → ((a1 = (47 : Int32) → (j_md_reckon_47 Q a1 a2 (I 158 ((I 121 58) - (1 : Int32)).toNatClampNeg) (I 158 ((I 121 58) - (2 : Int32)).toNatClampNeg) I1 R)) ∧ (¬ a1 = (47 : Int32) → ((¬ a1 = (37 : Int32) → (j_md_reckon_58 Q a1 a2 (I 158 ((I 121 58) - (1 : Int32)).toNatClampNeg) (I 158 ((I 121 58) - (2 : Int32)).toNatClampNeg) I1 R)) ∧ (a1 = (37 : Int32) → (j_md_reckon_47 Q a1 a2 (I 158 ((I 121 58) - (1 : Int32)).toNatClampNeg) (I 158 ((I 121 58) - (2 : Int32)).toNatClampNeg) I1 R))))))))
set_option maxHeartbeats 4000000 in
set_option maxRecDepth 100000 in
theorem c_md_reckon (d : Nat) {a1 : Int32} {a2 : Int32} {I : pI} {R : pR} {Q : Int32 → pI → pR → Prop} (hL : pw_Lay R) (h : w_md_reckon a1 a2 I R Q) : Cm (d + 3) m_md_reckon [.ref 121, .int a1, .int a2] I R (qz Q) := by
  refine Cm.of [some (.ref 121), some (.int a1), some (.int a2), none, none, none] (by decide) rfl (Nat.le_of_ble_eq_true rfl) (by simp) (fun E B g hF => ?_)
  unfold w_md_reckon at h
  refine PW.aload_n g rfl rfl d_md_reckon_0 ?_
  refine PW.getR (q := 158) g fi_md_122 rfl (hL 121 12 57 rfl (by decide)) d_md_reckon_1 ?_
  refine PW.aload_n g rfl rfl d_md_reckon_4 ?_
  refine PW.getI g fi_md_365 rfl d_md_reckon_5 ?_
  refine PW.iconst g (1) (by decide) d_md_reckon_8 ?_
  refine PW.isub g d_md_reckon_9 ?_
  refine PW.iald g rfl h.1 d_md_reckon_10 ?_
  have h := h.2
  refine PW.istore_n g rfl (L' := [some (.ref 121), some (.int a1), some (.int a2), some (.int (I 158 ((I 121 58) - (1 : Int32)).toNatClampNeg)), none, none]) (by decide) rfl rfl d_md_reckon_11 ?_
  refine PW.aload_n g rfl rfl d_md_reckon_12 ?_
  refine PW.getR (q := 158) g fi_md_122 rfl (hL 121 12 57 rfl (by decide)) d_md_reckon_13 ?_
  refine PW.aload_n g rfl rfl d_md_reckon_16 ?_
  refine PW.getI g fi_md_365 rfl d_md_reckon_17 ?_
  refine PW.iconst g (2) (by decide) d_md_reckon_20 ?_
  refine PW.isub g d_md_reckon_21 ?_
  refine PW.iald g rfl h.1 d_md_reckon_22 ?_
  have h := h.2
  refine PW.istore g (L' := [some (.ref 121), some (.int a1), some (.int a2), some (.int (I 158 ((I 121 58) - (1 : Int32)).toNatClampNeg)), some (.int (I 158 ((I 121 58) - (2 : Int32)).toNatClampNeg)), none]) (by decide) rfl rfl d_md_reckon_23 ?_
  refine PW.aload_n g rfl rfl d_md_reckon_25 ?_
  refine PW.dup g rfl d_md_reckon_26 ?_
  refine PW.getI g fi_md_365 rfl d_md_reckon_27 ?_
  refine PW.iconst g (2) (by decide) d_md_reckon_30 ?_
  refine PW.isub g d_md_reckon_31 ?_
  refine PW.putI g fi_md_365 rfl rfl rfl d_md_reckon_32 ?_
  refine PX.gI (fun I1 eI1 => ?_)
  have h := h _ eI1
  refine PW.iload_n g rfl rfl d_md_reckon_35 ?_
  refine PW.bipush g (47) (by decide) d_md_reckon_36 ?_
  refine PW.icmp_eq g 47 (by decide) d_md_reckon_38 (fun c1 => ?_) (fun c1 => ?_)
  · have h := h.1 c1
    refine PX.sub [some (.ref 121), some (.int a1), some (.int a2), some (.int (I 158 ((I 121 58) - (1 : Int32)).toNatClampNeg)), some (.int (I 158 ((I 121 58) - (2 : Int32)).toNatClampNeg)), none] ⟨rfl, ⟨rfl, ⟨rfl, ⟨rfl, ⟨rfl, trivial⟩⟩⟩⟩⟩ ?_
    exact J_md_reckon_47 d g hF hL h
  · have h := h.2 c1
    refine PW.iload_n g rfl rfl d_md_reckon_41 ?_
    refine PW.bipush g (37) (by decide) d_md_reckon_42 ?_
    refine PW.icmp_ne g 58 (by decide) d_md_reckon_44 (fun c8 => ?_) (fun c8 => ?_)
    · have h := h.1 c8
      refine PX.sub [some (.ref 121), some (.int a1), some (.int a2), some (.int (I 158 ((I 121 58) - (1 : Int32)).toNatClampNeg)), some (.int (I 158 ((I 121 58) - (2 : Int32)).toNatClampNeg)), none] ⟨rfl, ⟨rfl, ⟨rfl, ⟨rfl, ⟨rfl, trivial⟩⟩⟩⟩⟩ ?_
      exact J_md_reckon_58 d g hF hL h
    · have h := h.2 c8
      refine PX.sub [some (.ref 121), some (.int a1), some (.int a2), some (.int (I 158 ((I 121 58) - (1 : Int32)).toNatClampNeg)), some (.int (I 158 ((I 121 58) - (2 : Int32)).toNatClampNeg)), none] ⟨rfl, ⟨rfl, ⟨rfl, ⟨rfl, ⟨rfl, trivial⟩⟩⟩⟩⟩ ?_
      exact J_md_reckon_47 d g hF hL h
def j_md_tested_45 (Q : Int32 → pI → pR → Prop) (x1 : Int32) (x2 : Int32) (x3 : Int32) (s0 : Int32) (s1 : Int32) (I : pI) (R : pR) : Prop := ((¬ s0 = s1 → (w_md_truth x3 I R (fun v1 I1 R1 => (vp_in ((I 121 58) - (1 : Int32)) 64 ∧ ∀ I2, I2 = pw_wI I1 158 ((I 121 58) - (1 : Int32)).toNatClampNeg v1 → (vp_in x1 800 ∧ (vp_in ((I2 121 58) - (1 : Int32)) 64 ∧ (w_md_draw (I2 130 x1.toNatClampNeg) (I2 158 ((I2 121 58) - (1 : Int32)).toNatClampNeg) I2 R1 (fun I3 R2 => Q (x2 + (1 : Int32)) I3 R2)))))))) ∧ (s0 = s1 → (∀ I4, I4 = pw_wI I 121 58 ((I 121 58) - (1 : Int32)) → Q (x1 + (1 : Int32)) I4 R)))
set_option maxHeartbeats 4000000 in
set_option maxRecDepth 100000 in
theorem J_md_tested_45 (d : Nat) {Q : Int32 → pI → pR → Prop} {x1 : Int32} {x2 : Int32} {x3 : Int32} {s0 : Int32} {s1 : Int32} {E : pE} {B : pB} (g : pw_G m_md_tested (d + 2) 0 0 E B) (hF : pX (qi Q) E B) {I : pI} {R : pR} (hL : pw_Lay R) (h : j_md_tested_45  Q x1 x2 x3 s0 s1 I R) : PX E B m_md_tested.2.2.1 45 [some (.ref 121), some (.int x1), some (.int x2), some (.int x3)] [.int s1, .int s0] I R := by
  unfold j_md_tested_45 at h
  refine PW.icmp_ne g 62 (by decide) d_md_tested_45 (fun c3 => ?_) (fun c3 => ?_)
  · have h := h.1 c3
    refine PW.aload_n g rfl rfl d_md_tested_62 ?_
    refine PW.getR (q := 158) g fi_md_122 rfl (hL 121 12 57 rfl (by decide)) d_md_tested_63 ?_
    refine PW.aload_n g rfl rfl d_md_tested_66 ?_
    refine PW.getI g fi_md_365 rfl d_md_tested_67 ?_
    refine PW.iconst g (1) (by decide) d_md_tested_70 ?_
    refine PW.isub g d_md_tested_71 ?_
    refine PW.iload_n g rfl rfl d_md_tested_72 ?_
    refine PX.cSi [.int x3] [.int ((I 121 58) - (1 : Int32)), .ref 158] g (c_md_truth d  hL h) cl_md_394 (by omega) (by decide) rfl rfl (Nat.le_of_ble_eq_true rfl) d_md_tested_73 (fun v1 I1 R1 hL h => ?_)
    refine PW.iast g rfl h.1 d_md_tested_76 ?_
    refine PX.gI (fun I2 eI2 => ?_)
    have h := h.2 _ eI2
    refine PW.aload_n g rfl rfl d_md_tested_77 ?_
    refine PW.aload_n g rfl rfl d_md_tested_78 ?_
    refine PW.getR (q := 130) g fi_md_34 rfl (hL 121 12 14 rfl (by decide)) d_md_tested_79 ?_
    refine PW.iload_n g rfl rfl d_md_tested_82 ?_
    refine PW.iald g rfl h.1 d_md_tested_83 ?_
    have h := h.2
    refine PW.aload_n g rfl rfl d_md_tested_84 ?_
    refine PW.getR (q := 158) g fi_md_122 rfl (hL 121 12 57 rfl (by decide)) d_md_tested_85 ?_
    refine PW.aload_n g rfl rfl d_md_tested_88 ?_
    refine PW.getI g fi_md_365 rfl d_md_tested_89 ?_
    refine PW.iconst g (1) (by decide) d_md_tested_92 ?_
    refine PW.isub g d_md_tested_93 ?_
    refine PW.iald g rfl h.1 d_md_tested_94 ?_
    have h := h.2
    refine PX.cVv [.int (I2 130 x1.toNatClampNeg), .int (I2 158 ((I2 121 58) - (1 : Int32)).toNatClampNeg)] [] g rfl ck_md (c_md_draw d  hL h) cl_md_389 (by omega) (by decide) rfl rfl (Nat.le_of_ble_eq_true rfl) d_md_tested_95 (fun I3 R2 hL h => ?_)
    refine PW.iload_n g rfl rfl d_md_tested_98 ?_
    refine PW.iconst g (1) (by decide) d_md_tested_99 ?_
    refine PW.iadd g d_md_tested_100 ?_
    exact PX.iret g hF rfl d_md_tested_101 hL h
  · have h := h.2 c3
    refine PW.aload_n g rfl rfl d_md_tested_48 ?_
    refine PW.dup g rfl d_md_tested_49 ?_
    refine PW.getI g fi_md_365 rfl d_md_tested_50 ?_
    refine PW.iconst g (1) (by decide) d_md_tested_53 ?_
    refine PW.isub g d_md_tested_54 ?_
    refine PW.putI g fi_md_365 rfl rfl rfl d_md_tested_55 ?_
    refine PX.gI (fun I4 eI4 => ?_)
    have h := h _ eI4
    refine PW.iload_n g rfl rfl d_md_tested_58 ?_
    refine PW.iconst g (1) (by decide) d_md_tested_59 ?_
    refine PW.iadd g d_md_tested_60 ?_
    exact PX.iret g hF rfl d_md_tested_61 hL h
def j_md_tested_26 (Q : Int32 → pI → pR → Prop) (x1 : Int32) (x2 : Int32) (s0 : Int32) (I : pI) (R : pR) : Prop := (vp_in x2 800 ∧ ((¬ (I 128 x2.toNatClampNeg) = (132 : Int32) → (j_md_tested_45 Q x1 x2 s0 s0 (0 : Int32) I R)) ∧ ((I 128 x2.toNatClampNeg) = (132 : Int32) → (j_md_tested_45 Q x1 x2 s0 s0 (1 : Int32) I R))))
set_option maxHeartbeats 4000000 in
set_option maxRecDepth 100000 in
theorem J_md_tested_26 (d : Nat) {Q : Int32 → pI → pR → Prop} {x1 : Int32} {x2 : Int32} {s0 : Int32} {E : pE} {B : pB} (g : pw_G m_md_tested (d + 2) 0 0 E B) (hF : pX (qi Q) E B) {I : pI} {R : pR} (hL : pw_Lay R) (h : j_md_tested_26  Q x1 x2 s0 I R) : PX E B m_md_tested.2.2.1 26 [some (.ref 121), some (.int x1), some (.int x2), none] [.int s0] I R := by
  unfold j_md_tested_26 at h
  refine PW.istore_n g rfl (L' := [some (.ref 121), some (.int x1), some (.int x2), some (.int s0)]) (by decide) rfl rfl d_md_tested_26 ?_
  refine PW.iload_n g rfl rfl d_md_tested_27 ?_
  refine PW.aload_n g rfl rfl d_md_tested_28 ?_
  refine PW.getR (q := 128) g fi_md_28 rfl (hL 121 12 12 rfl (by decide)) d_md_tested_29 ?_
  refine PW.iload_n g rfl rfl d_md_tested_32 ?_
  refine PW.iald g rfl h.1 d_md_tested_33 ?_
  have h := h.2
  refine PW.sipush g (132) (by decide) d_md_tested_34 ?_
  refine PW.icmp_ne g 44 (by decide) d_md_tested_37 (fun c2 => ?_) (fun c2 => ?_)
  · have h := h.1 c2
    refine PW.iconst g (0) (by decide) d_md_tested_44 ?_
    refine PX.sub [some (.ref 121), some (.int x1), some (.int x2), some (.int s0)] ⟨rfl, ⟨rfl, ⟨rfl, ⟨rfl, trivial⟩⟩⟩⟩ ?_
    exact J_md_tested_45 d g hF hL h
  · have h := h.2 c2
    refine PW.iconst g (1) (by decide) d_md_tested_40 ?_
    refine PW.goto g 45 (by decide) d_md_tested_41 ?_
    refine PX.sub [some (.ref 121), some (.int x1), some (.int x2), some (.int s0)] ⟨rfl, ⟨rfl, ⟨rfl, ⟨rfl, trivial⟩⟩⟩⟩ ?_
    exact J_md_tested_45 d g hF hL h
def w_md_tested (a1 : Int32) (I : pI) (R : pR) (Q : Int32 → pI → pR → Prop) : Prop := (vp_in a1 800 ∧ (vp_in ((I 121 58) - (1 : Int32)) 64 ∧ (((I 158 ((I 121 58) - (1 : Int32)).toNatClampNeg) = 0 → (j_md_tested_26 Q a1 (I 129 a1.toNatClampNeg) (0 : Int32) I R)) ∧ (¬ (I 158 ((I 121 58) - (1 : Int32)).toNatClampNeg) = 0 → (j_md_tested_26 Q a1 (I 129 a1.toNatClampNeg) (1 : Int32) I R)))))
set_option maxHeartbeats 4000000 in
set_option maxRecDepth 100000 in
theorem c_md_tested (d : Nat) {a1 : Int32} {I : pI} {R : pR} {Q : Int32 → pI → pR → Prop} (hL : pw_Lay R) (h : w_md_tested a1 I R Q) : Cm (d + 2) m_md_tested [.ref 121, .int a1] I R (qi Q) := by
  refine Cm.of [some (.ref 121), some (.int a1), none, none] (by decide) rfl (Nat.le_of_ble_eq_true rfl) (by simp) (fun E B g hF => ?_)
  unfold w_md_tested at h
  refine PW.aload_n g rfl rfl d_md_tested_0 ?_
  refine PW.getR (q := 129) g fi_md_31 rfl (hL 121 12 13 rfl (by decide)) d_md_tested_1 ?_
  refine PW.iload_n g rfl rfl d_md_tested_4 ?_
  refine PW.iald g rfl h.1 d_md_tested_5 ?_
  have h := h.2
  refine PW.istore_n g rfl (L' := [some (.ref 121), some (.int a1), some (.int (I 129 a1.toNatClampNeg)), none]) (by decide) rfl rfl d_md_tested_6 ?_
  refine PW.aload_n g rfl rfl d_md_tested_7 ?_
  refine PW.getR (q := 158) g fi_md_122 rfl (hL 121 12 57 rfl (by decide)) d_md_tested_8 ?_
  refine PW.aload_n g rfl rfl d_md_tested_11 ?_
  refine PW.getI g fi_md_365 rfl d_md_tested_12 ?_
  refine PW.iconst g (1) (by decide) d_md_tested_15 ?_
  refine PW.isub g d_md_tested_16 ?_
  refine PW.iald g rfl h.1 d_md_tested_17 ?_
  have h := h.2
  refine PW.if_eq g 25 (by decide) d_md_tested_18 (fun c1 => ?_) (fun c1 => ?_)
  · have h := h.1 c1
    refine PW.iconst g (0) (by decide) d_md_tested_25 ?_
    refine PX.sub [some (.ref 121), some (.int a1), some (.int (I 129 a1.toNatClampNeg)), none] ⟨rfl, ⟨rfl, ⟨rfl, trivial⟩⟩⟩ ?_
    exact J_md_tested_26 d g hF hL h
  · have h := h.2 c1
    refine PW.iconst g (1) (by decide) d_md_tested_21 ?_
    refine PW.goto g 26 (by decide) d_md_tested_22 ?_
    refine PX.sub [some (.ref 121), some (.int a1), some (.int (I 129 a1.toNatClampNeg)), none] ⟨rfl, ⟨rfl, ⟨rfl, trivial⟩⟩⟩ ?_
    exact J_md_tested_26 d g hF hL h
def j_md_one_272 (Q : Int32 → pI → pR → Prop) (x1 : Int32) (s1 : Int32) (s2 : Int32) (I : pI) (R : pR) : Prop := (vp_in s1 64 ∧ ∀ I2, I2 = pw_wI I 158 s1.toNatClampNeg s2 → (vp_in x1 800 ∧ (vp_in ((I2 121 58) - (1 : Int32)) 64 ∧ (w_md_draw (I2 130 x1.toNatClampNeg) (I2 158 ((I2 121 58) - (1 : Int32)).toNatClampNeg) I2 R (fun I3 R2 => Q (x1 + (1 : Int32)) I3 R2)))))
set_option maxHeartbeats 4000000 in
set_option maxRecDepth 100000 in
theorem J_md_one_272 (d : Nat) {Q : Int32 → pI → pR → Prop} {x1 : Int32} {s1 : Int32} {s2 : Int32} {E : pE} {B : pB} (g : pw_G m_md_one (d + 4) 0 0 E B) (hF : pX (qi Q) E B) {I : pI} {R : pR} (hL : pw_Lay R) (h : j_md_one_272  Q x1 s1 s2 I R) : PX E B m_md_one.2.2.1 272 [some (.ref 121), some (.int x1), none, none] [.int s2, .int s1, .ref 158] I R := by
  unfold j_md_one_272 at h
  refine PW.iast g rfl h.1 d_md_one_272 ?_
  refine PX.gI (fun I2 eI2 => ?_)
  have h := h.2 _ eI2
  refine PW.aload_n g rfl rfl d_md_one_273 ?_
  refine PW.aload_n g rfl rfl d_md_one_274 ?_
  refine PW.getR (q := 130) g fi_md_34 rfl (hL 121 12 14 rfl (by decide)) d_md_one_275 ?_
  refine PW.iload_n g rfl rfl d_md_one_278 ?_
  refine PW.iald g rfl h.1 d_md_one_279 ?_
  have h := h.2
  refine PW.aload_n g rfl rfl d_md_one_280 ?_
  refine PW.getR (q := 158) g fi_md_122 rfl (hL 121 12 57 rfl (by decide)) d_md_one_281 ?_
  refine PW.aload_n g rfl rfl d_md_one_284 ?_
  refine PW.getI g fi_md_365 rfl d_md_one_285 ?_
  refine PW.iconst g (1) (by decide) d_md_one_288 ?_
  refine PW.isub g d_md_one_289 ?_
  refine PW.iald g rfl h.1 d_md_one_290 ?_
  have h := h.2
  refine PX.cVv [.int (I2 130 x1.toNatClampNeg), .int (I2 158 ((I2 121 58) - (1 : Int32)).toNatClampNeg)] [] g rfl ck_md (c_md_draw d  hL h) cl_md_389 (by omega) (by decide) rfl rfl (Nat.le_of_ble_eq_true rfl) d_md_one_291 (fun I3 R2 hL h => ?_)
  refine PW.goto g 313 (by decide) d_md_one_294 ?_
  refine PW.iload_n g rfl rfl d_md_one_313 ?_
  refine PW.iconst g (1) (by decide) d_md_one_314 ?_
  refine PW.iadd g d_md_one_315 ?_
  exact PX.iret g hF rfl d_md_one_316 hL h
def j_md_one_269 (Q : Int32 → pI → pR → Prop) (x1 : Int32) (s1 : Int32) (s2 : Int32) (I : pI) (R : pR) : Prop := (w_md_truth s2 I R (fun v1 I1 R1 => (j_md_one_272 Q x1 s1 v1 I1 R1)))
set_option maxHeartbeats 4000000 in
set_option maxRecDepth 100000 in
theorem J_md_one_269 (d : Nat) {Q : Int32 → pI → pR → Prop} {x1 : Int32} {s1 : Int32} {s2 : Int32} {E : pE} {B : pB} (g : pw_G m_md_one (d + 4) 0 0 E B) (hF : pX (qi Q) E B) {I : pI} {R : pR} (hL : pw_Lay R) (h : j_md_one_269  Q x1 s1 s2 I R) : PX E B m_md_one.2.2.1 269 [some (.ref 121), some (.int x1), none, none] [.int s2, .int s1, .ref 158] I R := by
  unfold j_md_one_269 at h
  refine PX.cSi [.int s2] [.int s1, .ref 158] g (c_md_truth d  hL h) cl_md_394 (by omega) (by decide) rfl rfl (Nat.le_of_ble_eq_true rfl) d_md_one_269 (fun v1 I1 R1 hL h => ?_)
  refine PX.sub [some (.ref 121), some (.int x1), none, none] ⟨rfl, ⟨rfl, trivial⟩⟩ ?_
  exact J_md_one_272 d g hF hL h
def j_md_one_207 (Q : Int32 → pI → pR → Prop) (x1 : Int32) (x2 : Int32) (I : pI) (R : pR) : Prop := (vp_in ((I 121 58) - (1 : Int32)) 64 ∧ ((¬ x2 = (203 : Int32) → ((¬ x2 = (204 : Int32) → (((I 158 ((I 121 58) - (1 : Int32)).toNatClampNeg) = 0 → (j_md_one_269 Q x1 ((I 121 58) - (1 : Int32)) (0 : Int32) I R)) ∧ (¬ (I 158 ((I 121 58) - (1 : Int32)).toNatClampNeg) = 0 → (j_md_one_269 Q x1 ((I 121 58) - (1 : Int32)) (1 : Int32) I R)))) ∧ (x2 = (204 : Int32) → ((¬ (I 158 ((I 121 58) - (1 : Int32)).toNatClampNeg) = 0 → (j_md_one_269 Q x1 ((I 121 58) - (1 : Int32)) (0 : Int32) I R)) ∧ ((I 158 ((I 121 58) - (1 : Int32)).toNatClampNeg) = 0 → (j_md_one_269 Q x1 ((I 121 58) - (1 : Int32)) (1 : Int32) I R)))))) ∧ (x2 = (203 : Int32) → (j_md_one_272 Q x1 ((I 121 58) - (1 : Int32)) (-(I 158 ((I 121 58) - (1 : Int32)).toNatClampNeg)) I R))))
set_option maxHeartbeats 4000000 in
set_option maxRecDepth 100000 in
theorem J_md_one_207 (d : Nat) {Q : Int32 → pI → pR → Prop} {x1 : Int32} {x2 : Int32} {E : pE} {B : pB} (g : pw_G m_md_one (d + 4) 0 0 E B) (hF : pX (qi Q) E B) {I : pI} {R : pR} (hL : pw_Lay R) (h : j_md_one_207  Q x1 x2 I R) : PX E B m_md_one.2.2.1 207 [some (.ref 121), some (.int x1), some (.int x2), none] [] I R := by
  unfold j_md_one_207 at h
  refine PW.aload_n g rfl rfl d_md_one_207 ?_
  refine PW.getR (q := 158) g fi_md_122 rfl (hL 121 12 57 rfl (by decide)) d_md_one_208 ?_
  refine PW.aload_n g rfl rfl d_md_one_211 ?_
  refine PW.getI g fi_md_365 rfl d_md_one_212 ?_
  refine PW.iconst g (1) (by decide) d_md_one_215 ?_
  refine PW.isub g d_md_one_216 ?_
  refine PW.iald g rfl h.1 d_md_one_217 ?_
  have h := h.2
  refine PW.istore_n g rfl (L' := [some (.ref 121), some (.int x1), some (.int x2), some (.int (I 158 ((I 121 58) - (1 : Int32)).toNatClampNeg))]) (by decide) rfl rfl d_md_one_218 ?_
  refine PW.aload_n g rfl rfl d_md_one_219 ?_
  refine PW.getR (q := 158) g fi_md_122 rfl (hL 121 12 57 rfl (by decide)) d_md_one_220 ?_
  refine PW.aload_n g rfl rfl d_md_one_223 ?_
  refine PW.getI g fi_md_365 rfl d_md_one_224 ?_
  refine PW.iconst g (1) (by decide) d_md_one_227 ?_
  refine PW.isub g d_md_one_228 ?_
  refine PW.iload_n g rfl rfl d_md_one_229 ?_
  refine PW.sipush g (203) (by decide) d_md_one_230 ?_
  refine PW.icmp_ne g 241 (by decide) d_md_one_233 (fun c7 => ?_) (fun c7 => ?_)
  · have h := h.1 c7
    refine PW.iload_n g rfl rfl d_md_one_241 ?_
    refine PW.sipush g (204) (by decide) d_md_one_242 ?_
    refine PW.icmp_ne g 260 (by decide) d_md_one_245 (fun c8 => ?_) (fun c8 => ?_)
    · have h := h.1 c8
      refine PW.iload_n g rfl rfl d_md_one_260 ?_
      refine PW.if_eq g 268 (by decide) d_md_one_261 (fun c9 => ?_) (fun c9 => ?_)
      · have h := h.1 c9
        refine PW.iconst g (0) (by decide) d_md_one_268 ?_
        refine PX.sub [some (.ref 121), some (.int x1), none, none] ⟨rfl, ⟨rfl, trivial⟩⟩ ?_
        exact J_md_one_269 d g hF hL h
      · have h := h.2 c9
        refine PW.iconst g (1) (by decide) d_md_one_264 ?_
        refine PW.goto g 269 (by decide) d_md_one_265 ?_
        refine PX.sub [some (.ref 121), some (.int x1), none, none] ⟨rfl, ⟨rfl, trivial⟩⟩ ?_
        exact J_md_one_269 d g hF hL h
    · have h := h.2 c8
      refine PW.iload_n g rfl rfl d_md_one_248 ?_
      refine PW.if_ne g 256 (by decide) d_md_one_249 (fun c10 => ?_) (fun c10 => ?_)
      · have h := h.1 c10
        refine PW.iconst g (0) (by decide) d_md_one_256 ?_
        refine PW.goto g 269 (by decide) d_md_one_257 ?_
        refine PX.sub [some (.ref 121), some (.int x1), none, none] ⟨rfl, ⟨rfl, trivial⟩⟩ ?_
        exact J_md_one_269 d g hF hL h
      · have h := h.2 c10
        refine PW.iconst g (1) (by decide) d_md_one_252 ?_
        refine PW.goto g 269 (by decide) d_md_one_253 ?_
        refine PX.sub [some (.ref 121), some (.int x1), none, none] ⟨rfl, ⟨rfl, trivial⟩⟩ ?_
        exact J_md_one_269 d g hF hL h
  · have h := h.2 c7
    refine PW.iload_n g rfl rfl d_md_one_236 ?_
    refine PW.ineg g d_md_one_237 ?_
    refine PW.goto g 272 (by decide) d_md_one_238 ?_
    refine PX.sub [some (.ref 121), some (.int x1), none, none] ⟨rfl, ⟨rfl, trivial⟩⟩ ?_
    exact J_md_one_272 d g hF hL h
def w_md_one (a1 : Int32) (I : pI) (R : pR) (Q : Int32 → pI → pR → Prop) : Prop := (vp_in a1 800 ∧ ((¬ (I 128 a1.toNatClampNeg) = (1 : Int32) → ((¬ (I 128 a1.toNatClampNeg) = (2 : Int32) → ((¬ (I 128 a1.toNatClampNeg) = (202 : Int32) → ((¬ (I 128 a1.toNatClampNeg) = (201 : Int32) → ((¬ (I 128 a1.toNatClampNeg) = (205 : Int32) → (((I 128 a1.toNatClampNeg) = (203 : Int32) → (j_md_one_207 Q a1 (I 128 a1.toNatClampNeg) I R)) ∧ (¬ (I 128 a1.toNatClampNeg) = (203 : Int32) → (((I 128 a1.toNatClampNeg) = (204 : Int32) → (j_md_one_207 Q a1 (I 128 a1.toNatClampNeg) I R)) ∧ (¬ (I 128 a1.toNatClampNeg) = (204 : Int32) → (((I 128 a1.toNatClampNeg) = (132 : Int32) → (j_md_one_207 Q a1 (I 128 a1.toNatClampNeg) I R)) ∧ (¬ (I 128 a1.toNatClampNeg) = (132 : Int32) → ((¬ (I 128 a1.toNatClampNeg) = (133 : Int32) → (vp_in a1 800 ∧ (w_md_reckon (I 128 a1.toNatClampNeg) (I 130 a1.toNatClampNeg) I R (fun v3 I4 R3 => ((¬ v3 = 0 → Q (a1 + (1 : Int32)) I4 R3) ∧ (v3 = 0 → Q (-1 : Int32) I4 R3)))))) ∧ ((I 128 a1.toNatClampNeg) = (133 : Int32) → (j_md_one_207 Q a1 (I 128 a1.toNatClampNeg) I R)))))))))) ∧ ((I 128 a1.toNatClampNeg) = (205 : Int32) → (w_md_tested a1 I R (fun v4 I5 R4 => Q v4 I5 R4))))) ∧ ((I 128 a1.toNatClampNeg) = (201 : Int32) → (∀ I6, I6 = pw_wI I 121 58 ((I 121 58) - (1 : Int32)) → (vp_in a1 800 ∧ (vp_in (I6 121 58) 64 ∧ (vp_in a1 800 ∧ (w_md_call (I6 129 a1.toNatClampNeg) (I6 158 (I6 121 58).toNatClampNeg) (I6 130 a1.toNatClampNeg) I6 R (fun v5 I7 R5 => ((¬ v5 = 0 → Q (a1 + (1 : Int32)) I7 R5) ∧ (v5 = 0 → Q (-1 : Int32) I7 R5))))))))))) ∧ ((I 128 a1.toNatClampNeg) = (202 : Int32) → (vp_in a1 800 ∧ (w_md_give (I 159 a1.toNatClampNeg) I R (fun I8 R6 => (vp_in a1 800 ∧ (vp_in a1 800 ∧ (w_md_draw (I8 130 a1.toNatClampNeg) (I8 159 a1.toNatClampNeg) I8 R6 (fun I9 R7 => (vp_in a1 800 ∧ Q ((I9 129 a1.toNatClampNeg) + (1 : Int32)) I9 R7))))))))))) ∧ ((I 128 a1.toNatClampNeg) = (2 : Int32) → (vp_in a1 800 ∧ (vp_in (((26 : Int32) * (I 121 68)) + (I 129 a1.toNatClampNeg)) 156 ∧ (w_md_give (I 166 (((26 : Int32) * (I 121 68)) + (I 129 a1.toNatClampNeg)).toNatClampNeg) I R (fun I10 R8 => (vp_in a1 800 ∧ (vp_in ((I10 121 58) - (1 : Int32)) 64 ∧ (w_md_draw (I10 130 a1.toNatClampNeg) (I10 158 ((I10 121 58) - (1 : Int32)).toNatClampNeg) I10 R8 (fun I11 R9 => Q (a1 + (1 : Int32)) I11 R9))))))))))) ∧ ((I 128 a1.toNatClampNeg) = (1 : Int32) → (vp_in a1 800 ∧ (w_md_give (I 129 a1.toNatClampNeg) I R (fun I12 R10 => Q (a1 + (1 : Int32)) I12 R10))))))
set_option maxHeartbeats 4000000 in
set_option maxRecDepth 100000 in
theorem c_md_one (d : Nat) {a1 : Int32} {I : pI} {R : pR} {Q : Int32 → pI → pR → Prop} (hL : pw_Lay R) (h : w_md_one a1 I R Q) : Cm (d + 4) m_md_one [.ref 121, .int a1] I R (qi Q) := by
  refine Cm.of [some (.ref 121), some (.int a1), none, none] (by decide) rfl (Nat.le_of_ble_eq_true rfl) (by simp) (fun E B g hF => ?_)
  unfold w_md_one at h
  refine PW.aload_n g rfl rfl d_md_one_0 ?_
  refine PW.getR (q := 128) g fi_md_28 rfl (hL 121 12 12 rfl (by decide)) d_md_one_1 ?_
  refine PW.iload_n g rfl rfl d_md_one_4 ?_
  refine PW.iald g rfl h.1 d_md_one_5 ?_
  have h := h.2
  refine PW.istore_n g rfl (L' := [some (.ref 121), some (.int a1), some (.int (I 128 a1.toNatClampNeg)), none]) (by decide) rfl rfl d_md_one_6 ?_
  refine PW.iload_n g rfl rfl d_md_one_7 ?_
  refine PW.iconst g (1) (by decide) d_md_one_8 ?_
  refine PW.icmp_ne g 25 (by decide) d_md_one_9 (fun c1 => ?_) (fun c1 => ?_)
  · have h := h.1 c1
    refine PW.iload_n g rfl rfl d_md_one_25 ?_
    refine PW.iconst g (2) (by decide) d_md_one_26 ?_
    refine PW.icmp_ne g 77 (by decide) d_md_one_27 (fun c2 => ?_) (fun c2 => ?_)
    · have h := h.1 c2
      refine PW.iload_n g rfl rfl d_md_one_77 ?_
      refine PW.sipush g (202) (by decide) d_md_one_78 ?_
      refine PW.icmp_ne g 119 (by decide) d_md_one_81 (fun c3 => ?_) (fun c3 => ?_)
      · have h := h.1 c3
        refine PW.iload_n g rfl rfl d_md_one_119 ?_
        refine PW.sipush g (201) (by decide) d_md_one_120 ?_
        refine PW.icmp_ne g 166 (by decide) d_md_one_123 (fun c4 => ?_) (fun c4 => ?_)
        · have h := h.1 c4
          refine PW.iload_n g rfl rfl d_md_one_166 ?_
          refine PW.sipush g (205) (by decide) d_md_one_167 ?_
          refine PW.icmp_ne g 179 (by decide) d_md_one_170 (fun c5 => ?_) (fun c5 => ?_)
          · have h := h.1 c5
            refine PW.iload_n g rfl rfl d_md_one_179 ?_
            refine PW.sipush g (203) (by decide) d_md_one_180 ?_
            refine PW.icmp_eq g 207 (by decide) d_md_one_183 (fun c6 => ?_) (fun c6 => ?_)
            · have h := h.1 c6
              refine PX.sub [some (.ref 121), some (.int a1), some (.int (I 128 a1.toNatClampNeg)), none] ⟨rfl, ⟨rfl, ⟨rfl, trivial⟩⟩⟩ ?_
              exact J_md_one_207 d g hF hL h
            · have h := h.2 c6
              refine PW.iload_n g rfl rfl d_md_one_186 ?_
              refine PW.sipush g (204) (by decide) d_md_one_187 ?_
              refine PW.icmp_eq g 207 (by decide) d_md_one_190 (fun c11 => ?_) (fun c11 => ?_)
              · have h := h.1 c11
                refine PX.sub [some (.ref 121), some (.int a1), some (.int (I 128 a1.toNatClampNeg)), none] ⟨rfl, ⟨rfl, ⟨rfl, trivial⟩⟩⟩ ?_
                exact J_md_one_207 d g hF hL h
              · have h := h.2 c11
                refine PW.iload_n g rfl rfl d_md_one_193 ?_
                refine PW.sipush g (132) (by decide) d_md_one_194 ?_
                refine PW.icmp_eq g 207 (by decide) d_md_one_197 (fun c12 => ?_) (fun c12 => ?_)
                · have h := h.1 c12
                  refine PX.sub [some (.ref 121), some (.int a1), some (.int (I 128 a1.toNatClampNeg)), none] ⟨rfl, ⟨rfl, ⟨rfl, trivial⟩⟩⟩ ?_
                  exact J_md_one_207 d g hF hL h
                · have h := h.2 c12
                  refine PW.iload_n g rfl rfl d_md_one_200 ?_
                  refine PW.sipush g (133) (by decide) d_md_one_201 ?_
                  refine PW.icmp_ne g 297 (by decide) d_md_one_204 (fun c13 => ?_) (fun c13 => ?_)
                  · have h := h.1 c13
                    refine PW.aload_n g rfl rfl d_md_one_297 ?_
                    refine PW.iload_n g rfl rfl d_md_one_298 ?_
                    refine PW.aload_n g rfl rfl d_md_one_299 ?_
                    refine PW.getR (q := 130) g fi_md_34 rfl (hL 121 12 14 rfl (by decide)) d_md_one_300 ?_
                    refine PW.iload_n g rfl rfl d_md_one_303 ?_
                    refine PW.iald g rfl h.1 d_md_one_304 ?_
                    have h := h.2
                    refine PX.cVz [.int (I 128 a1.toNatClampNeg), .int (I 130 a1.toNatClampNeg)] [] g rfl ck_md (c_md_reckon d  hL h) cl_md_412 (by omega) (by decide) rfl rfl (Nat.le_of_ble_eq_true rfl) d_md_one_305 (fun v3 I4 R3 hL hzv3 h => ?_)
                    refine PW.if_ne g 313 (by decide) d_md_one_308 (fun c14 => ?_) (fun c14 => ?_)
                    · have h := h.1 c14
                      refine PW.iload_n g rfl rfl d_md_one_313 ?_
                      refine PW.iconst g (1) (by decide) d_md_one_314 ?_
                      refine PW.iadd g d_md_one_315 ?_
                      exact PX.iret g hF rfl d_md_one_316 hL h
                    · have h := h.2 c14
                      refine PW.iconst g (-1) (by decide) d_md_one_311 ?_
                      exact PX.iret g hF rfl d_md_one_312 hL h
                  · have h := h.2 c13
                    refine PX.sub [some (.ref 121), some (.int a1), some (.int (I 128 a1.toNatClampNeg)), none] ⟨rfl, ⟨rfl, ⟨rfl, trivial⟩⟩⟩ ?_
                    exact J_md_one_207 d g hF hL h
          · have h := h.2 c5
            refine PW.aload_n g rfl rfl d_md_one_173 ?_
            refine PW.iload_n g rfl rfl d_md_one_174 ?_
            refine PX.cVi [.int a1] [] g rfl ck_md (c_md_tested d  hL h) cl_md_409 (by omega) (by decide) rfl rfl (Nat.le_of_ble_eq_true rfl) d_md_one_175 (fun v4 I5 R4 hL h => ?_)
            exact PX.iret g hF rfl d_md_one_178 hL h
        · have h := h.2 c4
          refine PW.aload_n g rfl rfl d_md_one_126 ?_
          refine PW.dup g rfl d_md_one_127 ?_
          refine PW.getI g fi_md_365 rfl d_md_one_128 ?_
          refine PW.iconst g (1) (by decide) d_md_one_131 ?_
          refine PW.isub g d_md_one_132 ?_
          refine PW.putI g fi_md_365 rfl rfl rfl d_md_one_133 ?_
          refine PX.gI (fun I6 eI6 => ?_)
          have h := h _ eI6
          refine PW.aload_n g rfl rfl d_md_one_136 ?_
          refine PW.aload_n g rfl rfl d_md_one_137 ?_
          refine PW.getR (q := 129) g fi_md_31 rfl (hL 121 12 13 rfl (by decide)) d_md_one_138 ?_
          refine PW.iload_n g rfl rfl d_md_one_141 ?_
          refine PW.iald g rfl h.1 d_md_one_142 ?_
          have h := h.2
          refine PW.aload_n g rfl rfl d_md_one_143 ?_
          refine PW.getR (q := 158) g fi_md_122 rfl (hL 121 12 57 rfl (by decide)) d_md_one_144 ?_
          refine PW.aload_n g rfl rfl d_md_one_147 ?_
          refine PW.getI g fi_md_365 rfl d_md_one_148 ?_
          refine PW.iald g rfl h.1 d_md_one_151 ?_
          have h := h.2
          refine PW.aload_n g rfl rfl d_md_one_152 ?_
          refine PW.getR (q := 130) g fi_md_34 rfl (hL 121 12 14 rfl (by decide)) d_md_one_153 ?_
          refine PW.iload_n g rfl rfl d_md_one_156 ?_
          refine PW.iald g rfl h.1 d_md_one_157 ?_
          have h := h.2
          refine PX.cVz [.int (I6 129 a1.toNatClampNeg), .int (I6 158 (I6 121 58).toNatClampNeg), .int (I6 130 a1.toNatClampNeg)] [] g rfl ck_md (c_md_call d  hL h) cl_md_405 (by omega) (by decide) rfl rfl (Nat.le_of_ble_eq_true rfl) d_md_one_158 (fun v5 I7 R5 hL hzv5 h => ?_)
          refine PW.if_ne g 313 (by decide) d_md_one_161 (fun c15 => ?_) (fun c15 => ?_)
          · have h := h.1 c15
            refine PW.iload_n g rfl rfl d_md_one_313 ?_
            refine PW.iconst g (1) (by decide) d_md_one_314 ?_
            refine PW.iadd g d_md_one_315 ?_
            exact PX.iret g hF rfl d_md_one_316 hL h
          · have h := h.2 c15
            refine PW.iconst g (-1) (by decide) d_md_one_164 ?_
            exact PX.iret g hF rfl d_md_one_165 hL h
      · have h := h.2 c3
        refine PW.aload_n g rfl rfl d_md_one_84 ?_
        refine PW.aload_n g rfl rfl d_md_one_85 ?_
        refine PW.getR (q := 159) g fi_md_125 rfl (hL 121 12 64 rfl (by decide)) d_md_one_86 ?_
        refine PW.iload_n g rfl rfl d_md_one_89 ?_
        refine PW.iald g rfl h.1 d_md_one_90 ?_
        have h := h.2
        refine PX.cVv [.int (I 159 a1.toNatClampNeg)] [] g rfl ck_md (c_md_give d  hL h) cl_md_386 (by omega) (by decide) rfl rfl (Nat.le_of_ble_eq_true rfl) d_md_one_91 (fun I8 R6 hL h => ?_)
        refine PW.aload_n g rfl rfl d_md_one_94 ?_
        refine PW.aload_n g rfl rfl d_md_one_95 ?_
        refine PW.getR (q := 130) g fi_md_34 rfl (hL 121 12 14 rfl (by decide)) d_md_one_96 ?_
        refine PW.iload_n g rfl rfl d_md_one_99 ?_
        refine PW.iald g rfl h.1 d_md_one_100 ?_
        have h := h.2
        refine PW.aload_n g rfl rfl d_md_one_101 ?_
        refine PW.getR (q := 159) g fi_md_125 rfl (hL 121 12 64 rfl (by decide)) d_md_one_102 ?_
        refine PW.iload_n g rfl rfl d_md_one_105 ?_
        refine PW.iald g rfl h.1 d_md_one_106 ?_
        have h := h.2
        refine PX.cVv [.int (I8 130 a1.toNatClampNeg), .int (I8 159 a1.toNatClampNeg)] [] g rfl ck_md (c_md_draw d  hL h) cl_md_389 (by omega) (by decide) rfl rfl (Nat.le_of_ble_eq_true rfl) d_md_one_107 (fun I9 R7 hL h => ?_)
        refine PW.aload_n g rfl rfl d_md_one_110 ?_
        refine PW.getR (q := 129) g fi_md_31 rfl (hL 121 12 13 rfl (by decide)) d_md_one_111 ?_
        refine PW.iload_n g rfl rfl d_md_one_114 ?_
        refine PW.iald g rfl h.1 d_md_one_115 ?_
        have h := h.2
        refine PW.iconst g (1) (by decide) d_md_one_116 ?_
        refine PW.iadd g d_md_one_117 ?_
        exact PX.iret g hF rfl d_md_one_118 hL h
    · have h := h.2 c2
      refine PW.aload_n g rfl rfl d_md_one_30 ?_
      refine PW.aload_n g rfl rfl d_md_one_31 ?_
      refine PW.getR (q := 166) g fi_md_147 rfl (hL 121 12 74 rfl (by decide)) d_md_one_32 ?_
      refine PW.bipush g (26) (by decide) d_md_one_35 ?_
      refine PW.aload_n g rfl rfl d_md_one_37 ?_
      refine PW.getI g fi_md_374 rfl d_md_one_38 ?_
      refine PW.imul g d_md_one_41 ?_
      refine PW.aload_n g rfl rfl d_md_one_42 ?_
      refine PW.getR (q := 129) g fi_md_31 rfl (hL 121 12 13 rfl (by decide)) d_md_one_43 ?_
      refine PW.iload_n g rfl rfl d_md_one_46 ?_
      refine PW.iald g rfl h.1 d_md_one_47 ?_
      have h := h.2
      refine PW.iadd g d_md_one_48 ?_
      refine PW.iald g rfl h.1 d_md_one_49 ?_
      have h := h.2
      refine PX.cVv [.int (I 166 (((26 : Int32) * (I 121 68)) + (I 129 a1.toNatClampNeg)).toNatClampNeg)] [] g rfl ck_md (c_md_give d  hL h) cl_md_386 (by omega) (by decide) rfl rfl (Nat.le_of_ble_eq_true rfl) d_md_one_50 (fun I10 R8 hL h => ?_)
      refine PW.aload_n g rfl rfl d_md_one_53 ?_
      refine PW.aload_n g rfl rfl d_md_one_54 ?_
      refine PW.getR (q := 130) g fi_md_34 rfl (hL 121 12 14 rfl (by decide)) d_md_one_55 ?_
      refine PW.iload_n g rfl rfl d_md_one_58 ?_
      refine PW.iald g rfl h.1 d_md_one_59 ?_
      have h := h.2
      refine PW.aload_n g rfl rfl d_md_one_60 ?_
      refine PW.getR (q := 158) g fi_md_122 rfl (hL 121 12 57 rfl (by decide)) d_md_one_61 ?_
      refine PW.aload_n g rfl rfl d_md_one_64 ?_
      refine PW.getI g fi_md_365 rfl d_md_one_65 ?_
      refine PW.iconst g (1) (by decide) d_md_one_68 ?_
      refine PW.isub g d_md_one_69 ?_
      refine PW.iald g rfl h.1 d_md_one_70 ?_
      have h := h.2
      refine PX.cVv [.int (I10 130 a1.toNatClampNeg), .int (I10 158 ((I10 121 58) - (1 : Int32)).toNatClampNeg)] [] g rfl ck_md (c_md_draw d  hL h) cl_md_389 (by omega) (by decide) rfl rfl (Nat.le_of_ble_eq_true rfl) d_md_one_71 (fun I11 R9 hL h => ?_)
      refine PW.goto g 313 (by decide) d_md_one_74 ?_
      refine PW.iload_n g rfl rfl d_md_one_313 ?_
      refine PW.iconst g (1) (by decide) d_md_one_314 ?_
      refine PW.iadd g d_md_one_315 ?_
      exact PX.iret g hF rfl d_md_one_316 hL h
  · have h := h.2 c1
    refine PW.aload_n g rfl rfl d_md_one_12 ?_
    refine PW.aload_n g rfl rfl d_md_one_13 ?_
    refine PW.getR (q := 129) g fi_md_31 rfl (hL 121 12 13 rfl (by decide)) d_md_one_14 ?_
    refine PW.iload_n g rfl rfl d_md_one_17 ?_
    refine PW.iald g rfl h.1 d_md_one_18 ?_
    have h := h.2
    refine PX.cVv [.int (I 129 a1.toNatClampNeg)] [] g rfl ck_md (c_md_give d  hL h) cl_md_386 (by omega) (by decide) rfl rfl (Nat.le_of_ble_eq_true rfl) d_md_one_19 (fun I12 R10 hL h => ?_)
    refine PW.goto g 313 (by decide) d_md_one_22 ?_
    refine PW.iload_n g rfl rfl d_md_one_313 ?_
    refine PW.iconst g (1) (by decide) d_md_one_314 ?_
    refine PW.iadd g d_md_one_315 ?_
    exact PX.iret g hF rfl d_md_one_316 hL h
def l_md_perform_12 (f2 : Int32) (K : pI → pR → Prop) (Q : Int32 → pI → pR → Prop) : Nat → Int32 → pI → pR → Prop
  | 0, _, _, _ => False
  | n + 1, x3, I, R => ((f2 ≤ x3 → K I R) ∧ (¬ f2 ≤ x3 → (w_md_one x3 I R (fun v1 I3 R1 => ((0 ≤ v1 → l_md_perform_12 f2 K Q n v1 I3 R1) ∧ (¬ 0 ≤ v1 → Q (0 : Int32) I3 R1))))))
set_option maxHeartbeats 4000000 in
set_option maxRecDepth 100000 in
theorem L_md_perform_12 (d : Nat) {f2 : Int32} {K : pI → pR → Prop} {Q : Int32 → pI → pR → Prop} {E : pE} {B : pB} (g : pw_G m_md_perform (d + 5) 0 0 E B) (hF : pX (qz Q) E B) (hK : ∀ (I : pI) (R : pR), pw_Lay R → K  I R → PX E B m_md_perform.2.2.1 37 [none, none, none, none, none] [] I R) : ∀ (n : Nat) (x3 : Int32) (I : pI) (R : pR), pw_Lay R → l_md_perform_12 f2 K Q n x3 I R → PX E B m_md_perform.2.2.1 12 [some (.ref 121), none, some (.int f2), some (.int x3), none] [] I R := by
  intro n
  induction n with
  | zero => intro x3 I R hL h; exact False.elim h
  | succ n ih =>
    intro x3 I R hL h
    refine PW.iload_n g rfl rfl d_md_perform_12 ?_
    refine PW.iload_n g rfl rfl d_md_perform_13 ?_
    refine PW.icmp_ge g 37 (by decide) d_md_perform_14 (fun c1 => ?_) (fun c1 => ?_)
    · have h := h.1 c1
      refine PX.sub [none, none, none, none, none] trivial ?_
      exact hK _ _ hL h
    · have h := h.2 c1
      refine PW.aload_n g rfl rfl d_md_perform_17 ?_
      refine PW.iload_n g rfl rfl d_md_perform_18 ?_
      refine PX.cVi [.int x3] [] g rfl ck_md (c_md_one d  hL h) cl_md_402 (by omega) (by decide) rfl rfl (Nat.le_of_ble_eq_true rfl) d_md_perform_19 (fun v1 I3 R1 hL h => ?_)
      refine PW.istore g (L' := [some (.ref 121), none, some (.int f2), some (.int x3), some (.int v1)]) (by decide) rfl rfl d_md_perform_22 ?_
      refine PW.iload g rfl d_md_perform_24 ?_
      refine PW.if_ge g 31 (by decide) d_md_perform_26 (fun c2 => ?_) (fun c2 => ?_)
      · have h := h.1 c2
        refine PW.iload g rfl d_md_perform_31 ?_
        refine PW.istore_n g rfl (L' := [some (.ref 121), none, some (.int f2), some (.int v1), some (.int v1)]) (by decide) rfl rfl d_md_perform_33 ?_
        refine PW.goto g 12 (by decide) d_md_perform_34 ?_
        refine PX.sub [some (.ref 121), none, some (.int f2), some (.int v1), none] ⟨rfl, ⟨rfl, ⟨rfl, trivial⟩⟩⟩ ?_
        exact ih _ _ _ hL h
      · have h := h.2 c2
        refine PW.iconst g (0) (by decide) d_md_perform_29 ?_
        exact PX.zret g hF rfl (Or.inl rfl) d_md_perform_30 hL h
def w_md_perform (a1 : Int32) (a2 : Int32) (I : pI) (R : pR) (Q : Int32 → pI → pR → Prop) : Prop := (∀ I1, I1 = pw_wI I 121 58 (0 : Int32) → (∀ I2, I2 = pw_wI I1 121 65 (0 : Int32) → (∃ n1, l_md_perform_12 a2 (fun I4 R2 => Q (1 : Int32) I4 R2) Q n1 a1 I2 R)))
set_option maxHeartbeats 4000000 in
set_option maxRecDepth 100000 in
theorem c_md_perform (d : Nat) {a1 : Int32} {a2 : Int32} {I : pI} {R : pR} {Q : Int32 → pI → pR → Prop} (hL : pw_Lay R) (h : w_md_perform a1 a2 I R Q) : Cm (d + 5) m_md_perform [.ref 121, .int a1, .int a2] I R (qz Q) := by
  refine Cm.of [some (.ref 121), some (.int a1), some (.int a2), none, none] (by decide) rfl (Nat.le_of_ble_eq_true rfl) (by simp) (fun E B g hF => ?_)
  unfold w_md_perform at h
  refine PW.iload_n g rfl rfl d_md_perform_0 ?_
  refine PW.istore_n g rfl (L' := [some (.ref 121), some (.int a1), some (.int a2), some (.int a1), none]) (by decide) rfl rfl d_md_perform_1 ?_
  refine PW.aload_n g rfl rfl d_md_perform_2 ?_
  refine PW.iconst g (0) (by decide) d_md_perform_3 ?_
  refine PW.putI g fi_md_365 rfl rfl rfl d_md_perform_4 ?_
  refine PX.gI (fun I1 eI1 => ?_)
  have h := h _ eI1
  refine PW.aload_n g rfl rfl d_md_perform_7 ?_
  refine PW.iconst g (0) (by decide) d_md_perform_8 ?_
  refine PW.putI g fi_md_362 rfl rfl rfl d_md_perform_9 ?_
  refine PX.gI (fun I2 eI2 => ?_)
  have h := h _ eI2
  refine PX.sub [some (.ref 121), none, some (.int a2), some (.int a1), none] ⟨rfl, ⟨rfl, ⟨rfl, trivial⟩⟩⟩ ?_
  obtain ⟨n1, h⟩ := h
  refine L_md_perform_12 d g hF (fun I4 R2 hL h => ?_) n1 a1 I2 R hL h
  refine PW.iconst g (1) (by decide) d_md_perform_37 ?_
  exact PX.zret g hF rfl (Or.inr rfl) d_md_perform_38 hL h
def w_md_fails (a1 : Int32) (a2 : Int32) (I : pI) (R : pR) (Q : pI → pR → Prop) : Prop := (vp_in (I 121 68) 6 ∧ ((¬ (I 163 (I 121 68).toNatClampNeg) = 0 → (vp_in (I 121 68) 6 ∧ ∀ I1, I1 = pw_wI I 165 (I 121 68).toNatClampNeg (vp_nar .boolean (1 : Int32)) → Q I1 R)) ∧ ((I 163 (I 121 68).toNatClampNeg) = 0 → (vp_in (I 121 68) 6 ∧ ∀ I2, I2 = pw_wI I 163 (I 121 68).toNatClampNeg a1 → (vp_in (I2 121 68) 6 ∧ ∀ I3, I3 = pw_wI I2 164 (I2 121 68).toNatClampNeg a2 → Q I3 R)))))
set_option maxHeartbeats 4000000 in
set_option maxRecDepth 100000 in
theorem c_md_fails (d : Nat) {a1 : Int32} {a2 : Int32} {I : pI} {R : pR} {Q : pI → pR → Prop} (hL : pw_Lay R) (h : w_md_fails a1 a2 I R Q) : Cm (d + 1) m_md_fails [.ref 121, .int a1, .int a2] I R (qv Q) := by
  refine Cm.of [some (.ref 121), some (.int a1), some (.int a2)] (by decide) rfl (Nat.le_of_ble_eq_true rfl) (by simp) (fun E B g hF => ?_)
  unfold w_md_fails at h
  refine PW.aload_n g rfl rfl d_md_fails_0 ?_
  refine PW.getR (q := 163) g fi_md_137 rfl (hL 121 12 71 rfl (by decide)) d_md_fails_1 ?_
  refine PW.aload_n g rfl rfl d_md_fails_4 ?_
  refine PW.getI g fi_md_374 rfl d_md_fails_5 ?_
  refine PW.iald g rfl h.1 d_md_fails_8 ?_
  have h := h.2
  refine PW.if_ne g 35 (by decide) d_md_fails_9 (fun c1 => ?_) (fun c1 => ?_)
  · have h := h.1 c1
    refine PW.aload_n g rfl rfl d_md_fails_35 ?_
    refine PW.getR (q := 165) g fi_md_143 rfl (hL 121 12 73 rfl (by decide)) d_md_fails_36 ?_
    refine PW.aload_n g rfl rfl d_md_fails_39 ?_
    refine PW.getI g fi_md_374 rfl d_md_fails_40 ?_
    refine PW.iconst g (1) (by decide) d_md_fails_43 ?_
    refine PW.zast g rfl h.1 d_md_fails_44 ?_
    refine PX.gI (fun I1 eI1 => ?_)
    have h := h.2 _ eI1
    exact PX.vret g hF rfl d_md_fails_45 hL h
  · have h := h.2 c1
    refine PW.aload_n g rfl rfl d_md_fails_12 ?_
    refine PW.getR (q := 163) g fi_md_137 rfl (hL 121 12 71 rfl (by decide)) d_md_fails_13 ?_
    refine PW.aload_n g rfl rfl d_md_fails_16 ?_
    refine PW.getI g fi_md_374 rfl d_md_fails_17 ?_
    refine PW.iload_n g rfl rfl d_md_fails_20 ?_
    refine PW.iast g rfl h.1 d_md_fails_21 ?_
    refine PX.gI (fun I2 eI2 => ?_)
    have h := h.2 _ eI2
    refine PW.aload_n g rfl rfl d_md_fails_22 ?_
    refine PW.getR (q := 164) g fi_md_140 rfl (hL 121 12 72 rfl (by decide)) d_md_fails_23 ?_
    refine PW.aload_n g rfl rfl d_md_fails_26 ?_
    refine PW.getI g fi_md_374 rfl d_md_fails_27 ?_
    refine PW.iload_n g rfl rfl d_md_fails_30 ?_
    refine PW.iast g rfl h.1 d_md_fails_31 ?_
    refine PX.gI (fun I3 eI3 => ?_)
    have h := h.2 _ eI3
    refine PW.goto g 45 (by decide) d_md_fails_32 ?_
    exact PX.vret g hF rfl d_md_fails_45 hL h
def w_md_does (a1 : Int32) (I : pI) (R : pR) (Q : Int32 → pI → pR → Prop) : Prop := (vp_in a1 200 ∧ (vp_in a1 200 ∧ (w_md_perform (I 134 a1.toNatClampNeg) (I 135 a1.toNatClampNeg) I R (fun v1 I1 R1 => ((¬ v1 = 0 → (vp_in a1 200 ∧ (((I1 133 a1.toNatClampNeg) < 0 → Q (1 : Int32) I1 R1) ∧ (¬ (I1 133 a1.toNatClampNeg) < 0 → (vp_in a1 200 ∧ (vp_in (0 : Int32) 64 ∧ (vp_in (((26 : Int32) * (I1 121 68)) + (I1 133 a1.toNatClampNeg)) 156 ∧ ∀ I2, I2 = pw_wI I1 166 (((26 : Int32) * (I1 121 68)) + (I1 133 a1.toNatClampNeg)).toNatClampNeg (I1 158 (0 : Int32).toNatClampNeg) → Q (1 : Int32) I2 R1))))))) ∧ (v1 = 0 → Q (0 : Int32) I1 R1))))))
set_option maxHeartbeats 4000000 in
set_option maxRecDepth 100000 in
theorem c_md_does (d : Nat) {a1 : Int32} {I : pI} {R : pR} {Q : Int32 → pI → pR → Prop} (hL : pw_Lay R) (h : w_md_does a1 I R Q) : Cm (d + 6) m_md_does [.ref 121, .int a1] I R (qz Q) := by
  refine Cm.of [some (.ref 121), some (.int a1)] (by decide) rfl (Nat.le_of_ble_eq_true rfl) (by simp) (fun E B g hF => ?_)
  unfold w_md_does at h
  refine PW.aload_n g rfl rfl d_md_does_0 ?_
  refine PW.aload_n g rfl rfl d_md_does_1 ?_
  refine PW.getR (q := 134) g fi_md_46 rfl (hL 121 12 19 rfl (by decide)) d_md_does_2 ?_
  refine PW.iload_n g rfl rfl d_md_does_5 ?_
  refine PW.iald g rfl h.1 d_md_does_6 ?_
  have h := h.2
  refine PW.aload_n g rfl rfl d_md_does_7 ?_
  refine PW.getR (q := 135) g fi_md_49 rfl (hL 121 12 20 rfl (by decide)) d_md_does_8 ?_
  refine PW.iload_n g rfl rfl d_md_does_11 ?_
  refine PW.iald g rfl h.1 d_md_does_12 ?_
  have h := h.2
  refine PX.cVz [.int (I 134 a1.toNatClampNeg), .int (I 135 a1.toNatClampNeg)] [] g rfl ck_md (c_md_perform d  hL h) cl_md_415 (by omega) (by decide) rfl rfl (Nat.le_of_ble_eq_true rfl) d_md_does_13 (fun v1 I1 R1 hL hzv1 h => ?_)
  refine PW.if_ne g 21 (by decide) d_md_does_16 (fun c1 => ?_) (fun c1 => ?_)
  · have h := h.1 c1
    refine PW.aload_n g rfl rfl d_md_does_21 ?_
    refine PW.getR (q := 133) g fi_md_43 rfl (hL 121 12 18 rfl (by decide)) d_md_does_22 ?_
    refine PW.iload_n g rfl rfl d_md_does_25 ?_
    refine PW.iald g rfl h.1 d_md_does_26 ?_
    have h := h.2
    refine PW.if_lt g 55 (by decide) d_md_does_27 (fun c2 => ?_) (fun c2 => ?_)
    · have h := h.1 c2
      refine PW.iconst g (1) (by decide) d_md_does_55 ?_
      exact PX.zret g hF rfl (Or.inr rfl) d_md_does_56 hL h
    · have h := h.2 c2
      refine PW.aload_n g rfl rfl d_md_does_30 ?_
      refine PW.getR (q := 166) g fi_md_147 rfl (hL 121 12 74 rfl (by decide)) d_md_does_31 ?_
      refine PW.bipush g (26) (by decide) d_md_does_34 ?_
      refine PW.aload_n g rfl rfl d_md_does_36 ?_
      refine PW.getI g fi_md_374 rfl d_md_does_37 ?_
      refine PW.imul g d_md_does_40 ?_
      refine PW.aload_n g rfl rfl d_md_does_41 ?_
      refine PW.getR (q := 133) g fi_md_43 rfl (hL 121 12 18 rfl (by decide)) d_md_does_42 ?_
      refine PW.iload_n g rfl rfl d_md_does_45 ?_
      refine PW.iald g rfl h.1 d_md_does_46 ?_
      have h := h.2
      refine PW.iadd g d_md_does_47 ?_
      refine PW.aload_n g rfl rfl d_md_does_48 ?_
      refine PW.getR (q := 158) g fi_md_122 rfl (hL 121 12 57 rfl (by decide)) d_md_does_49 ?_
      refine PW.iconst g (0) (by decide) d_md_does_52 ?_
      refine PW.iald g rfl h.1 d_md_does_53 ?_
      have h := h.2
      refine PW.iast g rfl h.1 d_md_does_54 ?_
      refine PX.gI (fun I2 eI2 => ?_)
      have h := h.2 _ eI2
      refine PW.iconst g (1) (by decide) d_md_does_55 ?_
      exact PX.zret g hF rfl (Or.inr rfl) d_md_does_56 hL h
  · have h := h.2 c1
    refine PW.iconst g (0) (by decide) d_md_does_19 ?_
    exact PX.zret g hF rfl (Or.inl rfl) d_md_does_20 hL h
def j_md_steps_62 (K11 : Int32 → Int32 → pI → pR → Prop) (Q : pI → pR → Prop) (f1 : Int32) (f2 : Int32) (x4 : Int32) (I : pI) (R : pR) : Prop := (w_md_does x4 I R (fun v1 I1 R1 => ((¬ v1 = 0 → K11 v1 (x4 + 1) I1 R1) ∧ (v1 = 0 → (w_md_fails (I1 121 59) (I1 121 60) I1 R1 (fun I2 R2 => K11 v1 (x4 + 1) I2 R2))))))
set_option maxHeartbeats 4000000 in
set_option maxRecDepth 100000 in
theorem J_md_steps_62 (d : Nat) {K11 : Int32 → Int32 → pI → pR → Prop} {Q : pI → pR → Prop} {f1 : Int32} {f2 : Int32} {x4 : Int32} {E : pE} {B : pB} (g : pw_G m_md_steps (d + 7) 0 0 E B) (hF : pX (qv Q) E B) (hK11 : ∀ (y3 : Int32) (y4 : Int32) (I : pI) (R : pR), pw_Lay R → K11 y3 y4 I R → PX E B m_md_steps.2.2.1 11 [some (.ref 121), some (.int f1), some (.int f2), some (.int y3), some (.int y4)] [] I R) {I : pI} {R : pR} (hL : pw_Lay R) (h : j_md_steps_62  K11 Q f1 f2 x4 I R) : PX E B m_md_steps.2.2.1 62 [some (.ref 121), some (.int f1), some (.int f2), none, some (.int x4)] [] I R := by
  unfold j_md_steps_62 at h
  refine PW.aload_n g rfl rfl d_md_steps_62 ?_
  refine PW.iload g rfl d_md_steps_63 ?_
  refine PX.cVz [.int x4] [] g rfl ck_md (c_md_does d  hL h) cl_md_418 (by omega) (by decide) rfl rfl (Nat.le_of_ble_eq_true rfl) d_md_steps_65 (fun v1 I1 R1 hL hzv1 h => ?_)
  refine PW.istore_n g rfl (L' := [some (.ref 121), some (.int f1), some (.int f2), some (.int v1), some (.int x4)]) (by decide) rfl rfl d_md_steps_68 ?_
  refine PW.iload_n g rfl rfl d_md_steps_69 ?_
  refine PW.if_ne g 85 (by decide) d_md_steps_70 (fun c5 => ?_) (fun c5 => ?_)
  · have h := h.1 c5
    refine PW.iinc g rfl (show x4 + Int32.ofInt (1) = (x4 + 1) from congrArg (HAdd.hAdd x4) (by decide)) (by decide) rfl (L' := [some (.ref 121), some (.int f1), some (.int f2), some (.int v1), some (.int (x4 + 1))]) rfl d_md_steps_85 ?_
    refine PW.goto g 11 (by decide) d_md_steps_88 ?_
    refine PX.sub [some (.ref 121), some (.int f1), some (.int f2), some (.int v1), some (.int (x4 + 1))] ⟨rfl, ⟨rfl, ⟨rfl, ⟨rfl, ⟨rfl, trivial⟩⟩⟩⟩⟩ ?_
    exact hK11 _ _ _ _ hL h
  · have h := h.2 c5
    refine PW.aload_n g rfl rfl d_md_steps_73 ?_
    refine PW.aload_n g rfl rfl d_md_steps_74 ?_
    refine PW.getI g fi_md_368 rfl d_md_steps_75 ?_
    refine PW.aload_n g rfl rfl d_md_steps_78 ?_
    refine PW.getI g fi_md_371 rfl d_md_steps_79 ?_
    refine PX.cVv [.int (I1 121 59), .int (I1 121 60)] [] g rfl ck_md (c_md_fails d  hL h) cl_md_421 (by omega) (by decide) rfl rfl (Nat.le_of_ble_eq_true rfl) d_md_steps_82 (fun I2 R2 hL h => ?_)
    refine PW.iinc g rfl (show x4 + Int32.ofInt (1) = (x4 + 1) from congrArg (HAdd.hAdd x4) (by decide)) (by decide) rfl (L' := [some (.ref 121), some (.int f1), some (.int f2), some (.int v1), some (.int (x4 + 1))]) rfl d_md_steps_85 ?_
    refine PW.goto g 11 (by decide) d_md_steps_88 ?_
    refine PX.sub [some (.ref 121), some (.int f1), some (.int f2), some (.int v1), some (.int (x4 + 1))] ⟨rfl, ⟨rfl, ⟨rfl, ⟨rfl, ⟨rfl, trivial⟩⟩⟩⟩⟩ ?_
    exact hK11 _ _ _ _ hL h
def l_md_steps_11 (f1 : Int32) (f2 : Int32) (K : pI → pR → Prop) (Q : pI → pR → Prop) : Nat → Int32 → Int32 → pI → pR → Prop
  | 0, _, _, _, _ => False
  | n + 1, x3, x4, I, R => (vp_in (I 121 10) 2 ∧ (((I 147 (I 121 10).toNatClampNeg) ≤ x4 → K I R) ∧ (¬ (I 147 (I 121 10).toNatClampNeg) ≤ x4 → ((x3 = 0 → K I R) ∧ (¬ x3 = 0 → (vp_in x4 200 ∧ ((¬ (I 131 x4.toNatClampNeg) = f1 → l_md_steps_11 f1 f2 K Q n x3 (x4 + 1) I R) ∧ ((I 131 x4.toNatClampNeg) = f1 → (vp_in x4 200 ∧ (((I 132 x4.toNatClampNeg) = f2 → (j_md_steps_62 (fun y1 y2 I3 R3 => l_md_steps_11 f1 f2 K Q n y1 y2 I3 R3) Q f1 f2 x4 I R)) ∧ (¬ (I 132 x4.toNatClampNeg) = f2 → ((f1 = (1 : Int32) → (j_md_steps_62 (fun y3 y4 I4 R4 => l_md_steps_11 f1 f2 K Q n y3 y4 I4 R4) Q f1 f2 x4 I R)) ∧ (¬ f1 = (1 : Int32) → ((¬ f1 = (8 : Int32) → l_md_steps_11 f1 f2 K Q n x3 (x4 + 1) I R) ∧ (f1 = (8 : Int32) → (j_md_steps_62 (fun y5 y6 I5 R5 => l_md_steps_11 f1 f2 K Q n y5 y6 I5 R5) Q f1 f2 x4 I R))))))))))))))))
set_option maxHeartbeats 4000000 in
set_option maxRecDepth 100000 in
theorem L_md_steps_11 (d : Nat) {f1 : Int32} {f2 : Int32} {K : pI → pR → Prop} {Q : pI → pR → Prop} {E : pE} {B : pB} (g : pw_G m_md_steps (d + 7) 0 0 E B) (hF : pX (qv Q) E B) (hK : ∀ (I : pI) (R : pR), pw_Lay R → K  I R → PX E B m_md_steps.2.2.1 91 [none, none, none, none, none] [] I R) : ∀ (n : Nat) (x3 : Int32) (x4 : Int32) (I : pI) (R : pR), pw_Lay R → l_md_steps_11 f1 f2 K Q n x3 x4 I R → PX E B m_md_steps.2.2.1 11 [some (.ref 121), some (.int f1), some (.int f2), some (.int x3), some (.int x4)] [] I R := by
  intro n
  induction n with
  | zero => intro x3 x4 I R hL h; exact False.elim h
  | succ n ih =>
    intro x3 x4 I R hL h
    refine PW.iload g rfl d_md_steps_11 ?_
    refine PW.aload_n g rfl rfl d_md_steps_13 ?_
    refine PW.getR (q := 147) g fi_md_85 rfl (hL 121 12 36 rfl (by decide)) d_md_steps_14 ?_
    refine PW.aload_n g rfl rfl d_md_steps_17 ?_
    refine PW.getI g fi_md_347 rfl d_md_steps_18 ?_
    refine PW.iald g rfl h.1 d_md_steps_21 ?_
    have h := h.2
    refine PW.icmp_ge g 91 (by decide) d_md_steps_22 (fun c1 => ?_) (fun c1 => ?_)
    · have h := h.1 c1
      refine PX.sub [none, none, none, none, none] trivial ?_
      exact hK _ _ hL h
    · have h := h.2 c1
      refine PW.iload_n g rfl rfl d_md_steps_25 ?_
      refine PW.if_eq g 91 (by decide) d_md_steps_26 (fun c2 => ?_) (fun c2 => ?_)
      · have h := h.1 c2
        refine PX.sub [none, none, none, none, none] trivial ?_
        exact hK _ _ hL h
      · have h := h.2 c2
        refine PW.aload_n g rfl rfl d_md_steps_29 ?_
        refine PW.getR (q := 131) g fi_md_37 rfl (hL 121 12 16 rfl (by decide)) d_md_steps_30 ?_
        refine PW.iload g rfl d_md_steps_33 ?_
        refine PW.iald g rfl h.1 d_md_steps_35 ?_
        have h := h.2
        refine PW.iload_n g rfl rfl d_md_steps_36 ?_
        refine PW.icmp_ne g 85 (by decide) d_md_steps_37 (fun c3 => ?_) (fun c3 => ?_)
        · have h := h.1 c3
          refine PW.iinc g rfl (show x4 + Int32.ofInt (1) = (x4 + 1) from congrArg (HAdd.hAdd x4) (by decide)) (by decide) rfl (L' := [some (.ref 121), some (.int f1), some (.int f2), some (.int x3), some (.int (x4 + 1))]) rfl d_md_steps_85 ?_
          refine PW.goto g 11 (by decide) d_md_steps_88 ?_
          refine PX.sub [some (.ref 121), some (.int f1), some (.int f2), some (.int x3), some (.int (x4 + 1))] ⟨rfl, ⟨rfl, ⟨rfl, ⟨rfl, ⟨rfl, trivial⟩⟩⟩⟩⟩ ?_
          exact ih _ _ _ _ hL h
        · have h := h.2 c3
          refine PW.aload_n g rfl rfl d_md_steps_40 ?_
          refine PW.getR (q := 132) g fi_md_40 rfl (hL 121 12 17 rfl (by decide)) d_md_steps_41 ?_
          refine PW.iload g rfl d_md_steps_44 ?_
          refine PW.iald g rfl h.1 d_md_steps_46 ?_
          have h := h.2
          refine PW.iload_n g rfl rfl d_md_steps_47 ?_
          refine PW.icmp_eq g 62 (by decide) d_md_steps_48 (fun c4 => ?_) (fun c4 => ?_)
          · have h := h.1 c4
            refine PX.sub [some (.ref 121), some (.int f1), some (.int f2), none, some (.int x4)] ⟨rfl, ⟨rfl, ⟨rfl, ⟨rfl, trivial⟩⟩⟩⟩ ?_
            refine J_md_steps_62 d g hF (fun y1 y2 I3 R3 hL h => ?_) hL h
            refine PX.sub [some (.ref 121), some (.int f1), some (.int f2), some (.int y1), some (.int y2)] ⟨rfl, ⟨rfl, ⟨rfl, ⟨rfl, ⟨rfl, trivial⟩⟩⟩⟩⟩ ?_
            exact ih _ _ _ _ hL h
          · have h := h.2 c4
            refine PW.iload_n g rfl rfl d_md_steps_51 ?_
            refine PW.iconst g (1) (by decide) d_md_steps_52 ?_
            refine PW.icmp_eq g 62 (by decide) d_md_steps_53 (fun c6 => ?_) (fun c6 => ?_)
            · have h := h.1 c6
              refine PX.sub [some (.ref 121), some (.int f1), some (.int f2), none, some (.int x4)] ⟨rfl, ⟨rfl, ⟨rfl, ⟨rfl, trivial⟩⟩⟩⟩ ?_
              refine J_md_steps_62 d g hF (fun y3 y4 I4 R4 hL h => ?_) hL h
              refine PX.sub [some (.ref 121), some (.int f1), some (.int f2), some (.int y3), some (.int y4)] ⟨rfl, ⟨rfl, ⟨rfl, ⟨rfl, ⟨rfl, trivial⟩⟩⟩⟩⟩ ?_
              exact ih _ _ _ _ hL h
            · have h := h.2 c6
              refine PW.iload_n g rfl rfl d_md_steps_56 ?_
              refine PW.bipush g (8) (by decide) d_md_steps_57 ?_
              refine PW.icmp_ne g 85 (by decide) d_md_steps_59 (fun c7 => ?_) (fun c7 => ?_)
              · have h := h.1 c7
                refine PW.iinc g rfl (show x4 + Int32.ofInt (1) = (x4 + 1) from congrArg (HAdd.hAdd x4) (by decide)) (by decide) rfl (L' := [some (.ref 121), some (.int f1), some (.int f2), some (.int x3), some (.int (x4 + 1))]) rfl d_md_steps_85 ?_
                refine PW.goto g 11 (by decide) d_md_steps_88 ?_
                refine PX.sub [some (.ref 121), some (.int f1), some (.int f2), some (.int x3), some (.int (x4 + 1))] ⟨rfl, ⟨rfl, ⟨rfl, ⟨rfl, ⟨rfl, trivial⟩⟩⟩⟩⟩ ?_
                exact ih _ _ _ _ hL h
              · have h := h.2 c7
                refine PX.sub [some (.ref 121), some (.int f1), some (.int f2), none, some (.int x4)] ⟨rfl, ⟨rfl, ⟨rfl, ⟨rfl, trivial⟩⟩⟩⟩ ?_
                refine J_md_steps_62 d g hF (fun y5 y6 I5 R5 hL h => ?_) hL h
                refine PX.sub [some (.ref 121), some (.int f1), some (.int f2), some (.int y5), some (.int y6)] ⟨rfl, ⟨rfl, ⟨rfl, ⟨rfl, ⟨rfl, trivial⟩⟩⟩⟩⟩ ?_
                exact ih _ _ _ _ hL h
def w_md_steps (a1 : Int32) (a2 : Int32) (I : pI) (R : pR) (Q : pI → pR → Prop) : Prop := (∃ n1, l_md_steps_11 a1 a2 (fun I6 R6 => Q I6 R6) Q n1 (1 : Int32) ((100 : Int32) * (I 121 10)) I R)
set_option maxHeartbeats 4000000 in
set_option maxRecDepth 100000 in
theorem c_md_steps (d : Nat) {a1 : Int32} {a2 : Int32} {I : pI} {R : pR} {Q : pI → pR → Prop} (hL : pw_Lay R) (h : w_md_steps a1 a2 I R Q) : Cm (d + 7) m_md_steps [.ref 121, .int a1, .int a2] I R (qv Q) := by
  refine Cm.of [some (.ref 121), some (.int a1), some (.int a2), none, none] (by decide) rfl (Nat.le_of_ble_eq_true rfl) (by simp) (fun E B g hF => ?_)
  unfold w_md_steps at h
  refine PW.iconst g (1) (by decide) d_md_steps_0 ?_
  refine PW.istore_n g rfl (L' := [some (.ref 121), some (.int a1), some (.int a2), some (.int (1 : Int32)), none]) (by decide) rfl rfl d_md_steps_1 ?_
  refine PW.bipush g (100) (by decide) d_md_steps_2 ?_
  refine PW.aload_n g rfl rfl d_md_steps_4 ?_
  refine PW.getI g fi_md_347 rfl d_md_steps_5 ?_
  refine PW.imul g d_md_steps_8 ?_
  refine PW.istore g (L' := [some (.ref 121), some (.int a1), some (.int a2), some (.int (1 : Int32)), some (.int ((100 : Int32) * (I 121 10)))]) (by decide) rfl rfl d_md_steps_9 ?_
  refine PX.sub [some (.ref 121), some (.int a1), some (.int a2), some (.int (1 : Int32)), some (.int ((100 : Int32) * (I 121 10)))] ⟨rfl, ⟨rfl, ⟨rfl, ⟨rfl, ⟨rfl, trivial⟩⟩⟩⟩⟩ ?_
  obtain ⟨n1, h⟩ := h
  refine L_md_steps_11 d g hF (fun I6 R6 hL h => ?_) n1 (1 : Int32) ((100 : Int32) * (I 121 10)) I R hL h
  exact PX.vret g hF rfl d_md_steps_91 hL h
def l_md_keep_58 (f1 : Int32) (f2 : Int32) (K : Int32 → pI → pR → Prop) (Q : pI → pR → Prop) : Nat → Int32 → Int32 → pI → pR → Prop
  | 0, _, _, _, _ => False
  | n + 1, x3, x4, I, R => (((I 121 65) ≤ x4 → K x3 I R) ∧ (¬ (I 121 65) ≤ x4 → (vp_in x4 200 ∧ (vp_in f2 200 ∧ (((I 160 f2.toNatClampNeg) ≤ (I 160 x4.toNatClampNeg) → l_md_keep_58 f1 f2 K Q n x3 (x4 + 1) I R) ∧ (¬ (I 160 f2.toNatClampNeg) ≤ (I 160 x4.toNatClampNeg) → l_md_keep_58 f1 f2 K Q n (x3 + (1 : Int32)) (x4 + 1) I R))))))
set_option maxHeartbeats 4000000 in
set_option maxRecDepth 100000 in
theorem L_md_keep_58 (d : Nat) {f1 : Int32} {f2 : Int32} {K : Int32 → pI → pR → Prop} {Q : pI → pR → Prop} {E : pE} {B : pB} (g : pw_G m_md_keep (d + 1) 0 0 E B) (hF : pX (qv Q) E B) (hK : ∀ (y3 : Int32) (I : pI) (R : pR), pw_Lay R → K y3 I R → PX E B m_md_keep.2.2.1 97 [some (.ref 121), some (.int f1), some (.int f2), some (.int y3), none] [] I R) : ∀ (n : Nat) (x3 : Int32) (x4 : Int32) (I : pI) (R : pR), pw_Lay R → l_md_keep_58 f1 f2 K Q n x3 x4 I R → PX E B m_md_keep.2.2.1 58 [some (.ref 121), some (.int f1), some (.int f2), some (.int x3), some (.int x4)] [] I R := by
  intro n
  induction n with
  | zero => intro x3 x4 I R hL h; exact False.elim h
  | succ n ih =>
    intro x3 x4 I R hL h
    refine PW.iload g rfl d_md_keep_58 ?_
    refine PW.aload_n g rfl rfl d_md_keep_60 ?_
    refine PW.getI g fi_md_362 rfl d_md_keep_61 ?_
    refine PW.icmp_ge g 97 (by decide) d_md_keep_64 (fun c2 => ?_) (fun c2 => ?_)
    · have h := h.1 c2
      refine PX.sub [some (.ref 121), some (.int f1), some (.int f2), some (.int x3), none] ⟨rfl, ⟨rfl, ⟨rfl, ⟨rfl, trivial⟩⟩⟩⟩ ?_
      exact hK _ _ _ hL h
    · have h := h.2 c2
      refine PW.aload_n g rfl rfl d_md_keep_67 ?_
      refine PW.getR (q := 160) g fi_md_128 rfl (hL 121 12 66 rfl (by decide)) d_md_keep_68 ?_
      refine PW.iload g rfl d_md_keep_71 ?_
      refine PW.iald g rfl h.1 d_md_keep_73 ?_
      have h := h.2
      refine PW.aload_n g rfl rfl d_md_keep_74 ?_
      refine PW.getR (q := 160) g fi_md_128 rfl (hL 121 12 66 rfl (by decide)) d_md_keep_75 ?_
      refine PW.iload_n g rfl rfl d_md_keep_78 ?_
      refine PW.iald g rfl h.1 d_md_keep_79 ?_
      have h := h.2
      refine PW.icmp_ge g 89 (by decide) d_md_keep_80 (fun c3 => ?_) (fun c3 => ?_)
      · have h := h.1 c3
        refine PW.iload_n g rfl rfl d_md_keep_89 ?_
        refine PW.istore_n g rfl (L' := [some (.ref 121), some (.int f1), some (.int f2), some (.int x3), some (.int x4)]) (by decide) rfl rfl d_md_keep_90 ?_
        refine PW.iinc g rfl (show x4 + Int32.ofInt (1) = (x4 + 1) from congrArg (HAdd.hAdd x4) (by decide)) (by decide) rfl (L' := [some (.ref 121), some (.int f1), some (.int f2), some (.int x3), some (.int (x4 + 1))]) rfl d_md_keep_91 ?_
        refine PW.goto g 58 (by decide) d_md_keep_94 ?_
        refine PX.sub [some (.ref 121), some (.int f1), some (.int f2), some (.int x3), some (.int (x4 + 1))] ⟨rfl, ⟨rfl, ⟨rfl, ⟨rfl, ⟨rfl, trivial⟩⟩⟩⟩⟩ ?_
        exact ih _ _ _ _ hL h
      · have h := h.2 c3
        refine PW.iload_n g rfl rfl d_md_keep_83 ?_
        refine PW.iconst g (1) (by decide) d_md_keep_84 ?_
        refine PW.iadd g d_md_keep_85 ?_
        refine PW.goto g 90 (by decide) d_md_keep_86 ?_
        refine PW.istore_n g rfl (L' := [some (.ref 121), some (.int f1), some (.int f2), some (.int (x3 + (1 : Int32))), some (.int x4)]) (by decide) rfl rfl d_md_keep_90 ?_
        refine PW.iinc g rfl (show x4 + Int32.ofInt (1) = (x4 + 1) from congrArg (HAdd.hAdd x4) (by decide)) (by decide) rfl (L' := [some (.ref 121), some (.int f1), some (.int f2), some (.int (x3 + (1 : Int32))), some (.int (x4 + 1))]) rfl d_md_keep_91 ?_
        refine PW.goto g 58 (by decide) d_md_keep_94 ?_
        refine PX.sub [some (.ref 121), some (.int f1), some (.int f2), some (.int (x3 + (1 : Int32))), some (.int (x4 + 1))] ⟨rfl, ⟨rfl, ⟨rfl, ⟨rfl, ⟨rfl, trivial⟩⟩⟩⟩⟩ ?_
        exact ih _ _ _ _ hL h
def l_md_keep_45 (f1 : Int32) (K : pI → pR → Prop) (Q : pI → pR → Prop) : Nat → Int32 → pI → pR → Prop
  | 0, _, _, _ => False
  | n + 1, x2, I, R => (((I 121 65) ≤ x2 → K I R) ∧ (¬ (I 121 65) ≤ x2 → (∃ n1, l_md_keep_58 f1 x2 (fun y1 I4 R1 => (vp_in x2 200 ∧ (vp_in f1 200 ∧ (vp_in (((120 : Int32) * (I4 121 68)) + y1) 720 ∧ ∀ I5, I5 = pw_wI I4 169 (((120 : Int32) * (I4 121 68)) + y1).toNatClampNeg ((I4 160 x2.toNatClampNeg) - (I4 136 f1.toNatClampNeg)) → (vp_in x2 200 ∧ (vp_in (((120 : Int32) * (I5 121 68)) + y1) 720 ∧ ∀ I6, I6 = pw_wI I5 170 (((120 : Int32) * (I5 121 68)) + y1).toNatClampNeg (I5 161 x2.toNatClampNeg) → l_md_keep_45 f1 K Q n (x2 + 1) I6 R1)))))) Q n1 (0 : Int32) (0 : Int32) I R)))
set_option maxHeartbeats 4000000 in
set_option maxRecDepth 100000 in
theorem L_md_keep_45 (d : Nat) {f1 : Int32} {K : pI → pR → Prop} {Q : pI → pR → Prop} {E : pE} {B : pB} (g : pw_G m_md_keep (d + 1) 0 0 E B) (hF : pX (qv Q) E B) (hK : ∀ (I : pI) (R : pR), pw_Lay R → K  I R → PX E B m_md_keep.2.2.1 150 [none, none, none, none, none] [] I R) : ∀ (n : Nat) (x2 : Int32) (I : pI) (R : pR), pw_Lay R → l_md_keep_45 f1 K Q n x2 I R → PX E B m_md_keep.2.2.1 45 [some (.ref 121), some (.int f1), some (.int x2), none, none] [] I R := by
  intro n
  induction n with
  | zero => intro x2 I R hL h; exact False.elim h
  | succ n ih =>
    intro x2 I R hL h
    refine PW.iload_n g rfl rfl d_md_keep_45 ?_
    refine PW.aload_n g rfl rfl d_md_keep_46 ?_
    refine PW.getI g fi_md_362 rfl d_md_keep_47 ?_
    refine PW.icmp_ge g 150 (by decide) d_md_keep_50 (fun c1 => ?_) (fun c1 => ?_)
    · have h := h.1 c1
      refine PX.sub [none, none, none, none, none] trivial ?_
      exact hK _ _ hL h
    · have h := h.2 c1
      refine PW.iconst g (0) (by decide) d_md_keep_53 ?_
      refine PW.istore_n g rfl (L' := [some (.ref 121), some (.int f1), some (.int x2), some (.int (0 : Int32)), none]) (by decide) rfl rfl d_md_keep_54 ?_
      refine PW.iconst g (0) (by decide) d_md_keep_55 ?_
      refine PW.istore g (L' := [some (.ref 121), some (.int f1), some (.int x2), some (.int (0 : Int32)), some (.int (0 : Int32))]) (by decide) rfl rfl d_md_keep_56 ?_
      refine PX.sub [some (.ref 121), some (.int f1), some (.int x2), some (.int (0 : Int32)), some (.int (0 : Int32))] ⟨rfl, ⟨rfl, ⟨rfl, ⟨rfl, ⟨rfl, trivial⟩⟩⟩⟩⟩ ?_
      obtain ⟨n1, h⟩ := h
      refine L_md_keep_58 d g hF (fun y1 I4 R1 hL h => ?_) n1 (0 : Int32) (0 : Int32) I R hL h
      refine PW.aload_n g rfl rfl d_md_keep_97 ?_
      refine PW.getR (q := 169) g fi_md_156 rfl (hL 121 12 77 rfl (by decide)) d_md_keep_98 ?_
      refine PW.bipush g (120) (by decide) d_md_keep_101 ?_
      refine PW.aload_n g rfl rfl d_md_keep_103 ?_
      refine PW.getI g fi_md_374 rfl d_md_keep_104 ?_
      refine PW.imul g d_md_keep_107 ?_
      refine PW.iload_n g rfl rfl d_md_keep_108 ?_
      refine PW.iadd g d_md_keep_109 ?_
      refine PW.aload_n g rfl rfl d_md_keep_110 ?_
      refine PW.getR (q := 160) g fi_md_128 rfl (hL 121 12 66 rfl (by decide)) d_md_keep_111 ?_
      refine PW.iload_n g rfl rfl d_md_keep_114 ?_
      refine PW.iald g rfl h.1 d_md_keep_115 ?_
      have h := h.2
      refine PW.aload_n g rfl rfl d_md_keep_116 ?_
      refine PW.getR (q := 136) g fi_md_52 rfl (hL 121 12 21 rfl (by decide)) d_md_keep_117 ?_
      refine PW.iload_n g rfl rfl d_md_keep_120 ?_
      refine PW.iald g rfl h.1 d_md_keep_121 ?_
      have h := h.2
      refine PW.isub g d_md_keep_122 ?_
      refine PW.iast g rfl h.1 d_md_keep_123 ?_
      refine PX.gI (fun I5 eI5 => ?_)
      have h := h.2 _ eI5
      refine PW.aload_n g rfl rfl d_md_keep_124 ?_
      refine PW.getR (q := 170) g fi_md_159 rfl (hL 121 12 78 rfl (by decide)) d_md_keep_125 ?_
      refine PW.bipush g (120) (by decide) d_md_keep_128 ?_
      refine PW.aload_n g rfl rfl d_md_keep_130 ?_
      refine PW.getI g fi_md_374 rfl d_md_keep_131 ?_
      refine PW.imul g d_md_keep_134 ?_
      refine PW.iload_n g rfl rfl d_md_keep_135 ?_
      refine PW.iadd g d_md_keep_136 ?_
      refine PW.aload_n g rfl rfl d_md_keep_137 ?_
      refine PW.getR (q := 161) g fi_md_131 rfl (hL 121 12 67 rfl (by decide)) d_md_keep_138 ?_
      refine PW.iload_n g rfl rfl d_md_keep_141 ?_
      refine PW.iald g rfl h.1 d_md_keep_142 ?_
      have h := h.2
      refine PW.iast g rfl h.1 d_md_keep_143 ?_
      refine PX.gI (fun I6 eI6 => ?_)
      have h := h.2 _ eI6
      refine PW.iinc g rfl (show x2 + Int32.ofInt (1) = (x2 + 1) from congrArg (HAdd.hAdd x2) (by decide)) (by decide) rfl (L' := [some (.ref 121), some (.int f1), some (.int (x2 + 1)), some (.int y1), none]) rfl d_md_keep_144 ?_
      refine PW.goto g 45 (by decide) d_md_keep_147 ?_
      refine PX.sub [some (.ref 121), some (.int f1), some (.int (x2 + 1)), none, none] ⟨rfl, ⟨rfl, ⟨rfl, trivial⟩⟩⟩ ?_
      exact ih _ _ _ hL h
def w_md_keep (a1 : Int32) (I : pI) (R : pR) (Q : pI → pR → Prop) : Prop := (vp_in (I 121 68) 6 ∧ ∀ I1, I1 = pw_wI I 168 (I 121 68).toNatClampNeg (I 121 65) → (vp_in a1 200 ∧ (vp_in (I1 121 68) 6 ∧ ∀ I2, I2 = pw_wI I1 171 (I1 121 68).toNatClampNeg (I1 136 a1.toNatClampNeg) → (vp_in a1 200 ∧ (vp_in (I2 121 68) 6 ∧ ∀ I3, I3 = pw_wI I2 172 (I2 121 68).toNatClampNeg (I2 137 a1.toNatClampNeg) → (∃ n2, l_md_keep_45 a1 (fun I7 R2 => Q I7 R2) Q n2 (0 : Int32) I3 R))))))
set_option maxHeartbeats 4000000 in
set_option maxRecDepth 100000 in
theorem c_md_keep (d : Nat) {a1 : Int32} {I : pI} {R : pR} {Q : pI → pR → Prop} (hL : pw_Lay R) (h : w_md_keep a1 I R Q) : Cm (d + 1) m_md_keep [.ref 121, .int a1] I R (qv Q) := by
  refine Cm.of [some (.ref 121), some (.int a1), none, none, none] (by decide) rfl (Nat.le_of_ble_eq_true rfl) (by simp) (fun E B g hF => ?_)
  unfold w_md_keep at h
  refine PW.aload_n g rfl rfl d_md_keep_0 ?_
  refine PW.getR (q := 168) g fi_md_153 rfl (hL 121 12 76 rfl (by decide)) d_md_keep_1 ?_
  refine PW.aload_n g rfl rfl d_md_keep_4 ?_
  refine PW.getI g fi_md_374 rfl d_md_keep_5 ?_
  refine PW.aload_n g rfl rfl d_md_keep_8 ?_
  refine PW.getI g fi_md_362 rfl d_md_keep_9 ?_
  refine PW.iast g rfl h.1 d_md_keep_12 ?_
  refine PX.gI (fun I1 eI1 => ?_)
  have h := h.2 _ eI1
  refine PW.aload_n g rfl rfl d_md_keep_13 ?_
  refine PW.getR (q := 171) g fi_md_162 rfl (hL 121 12 79 rfl (by decide)) d_md_keep_14 ?_
  refine PW.aload_n g rfl rfl d_md_keep_17 ?_
  refine PW.getI g fi_md_374 rfl d_md_keep_18 ?_
  refine PW.aload_n g rfl rfl d_md_keep_21 ?_
  refine PW.getR (q := 136) g fi_md_52 rfl (hL 121 12 21 rfl (by decide)) d_md_keep_22 ?_
  refine PW.iload_n g rfl rfl d_md_keep_25 ?_
  refine PW.iald g rfl h.1 d_md_keep_26 ?_
  have h := h.2
  refine PW.iast g rfl h.1 d_md_keep_27 ?_
  refine PX.gI (fun I2 eI2 => ?_)
  have h := h.2 _ eI2
  refine PW.aload_n g rfl rfl d_md_keep_28 ?_
  refine PW.getR (q := 172) g fi_md_165 rfl (hL 121 12 80 rfl (by decide)) d_md_keep_29 ?_
  refine PW.aload_n g rfl rfl d_md_keep_32 ?_
  refine PW.getI g fi_md_374 rfl d_md_keep_33 ?_
  refine PW.aload_n g rfl rfl d_md_keep_36 ?_
  refine PW.getR (q := 137) g fi_md_55 rfl (hL 121 12 22 rfl (by decide)) d_md_keep_37 ?_
  refine PW.iload_n g rfl rfl d_md_keep_40 ?_
  refine PW.iald g rfl h.1 d_md_keep_41 ?_
  have h := h.2
  refine PW.iast g rfl h.1 d_md_keep_42 ?_
  refine PX.gI (fun I3 eI3 => ?_)
  have h := h.2 _ eI3
  refine PW.iconst g (0) (by decide) d_md_keep_43 ?_
  refine PW.istore_n g rfl (L' := [some (.ref 121), some (.int a1), some (.int (0 : Int32)), none, none]) (by decide) rfl rfl d_md_keep_44 ?_
  refine PX.sub [some (.ref 121), some (.int a1), some (.int (0 : Int32)), none, none] ⟨rfl, ⟨rfl, ⟨rfl, trivial⟩⟩⟩ ?_
  obtain ⟨n2, h⟩ := h
  refine L_md_keep_45 d g hF (fun I7 R2 hL h => ?_) n2 (0 : Int32) I3 R hL h
  exact PX.vret g hF rfl d_md_keep_150 hL h
def w_md_truly (a1 : Int32) (I : pI) (R : pR) (Q : pI → pR → Prop) : Prop := (vp_in a1 200 ∧ (vp_in a1 200 ∧ (w_md_perform (I 134 a1.toNatClampNeg) (I 135 a1.toNatClampNeg) I R (fun v1 I1 R1 => ((¬ v1 = 0 → (vp_in (0 : Int32) 64 ∧ ((¬ (I1 158 (0 : Int32).toNatClampNeg) = 0 → Q I1 R1) ∧ ((I1 158 (0 : Int32).toNatClampNeg) = 0 → (vp_in a1 200 ∧ (w_md_fails (1 : Int32) (I1 136 a1.toNatClampNeg) I1 R1 (fun I2 R2 => (w_md_keep a1 I2 R2 (fun I3 R3 => Q I3 R3))))))))) ∧ (v1 = 0 → (w_md_fails (I1 121 59) (I1 121 60) I1 R1 (fun I4 R4 => Q I4 R4))))))))
set_option maxHeartbeats 4000000 in
set_option maxRecDepth 100000 in
theorem c_md_truly (d : Nat) {a1 : Int32} {I : pI} {R : pR} {Q : pI → pR → Prop} (hL : pw_Lay R) (h : w_md_truly a1 I R Q) : Cm (d + 6) m_md_truly [.ref 121, .int a1] I R (qv Q) := by
  refine Cm.of [some (.ref 121), some (.int a1)] (by decide) rfl (Nat.le_of_ble_eq_true rfl) (by simp) (fun E B g hF => ?_)
  unfold w_md_truly at h
  refine PW.aload_n g rfl rfl d_md_truly_0 ?_
  refine PW.aload_n g rfl rfl d_md_truly_1 ?_
  refine PW.getR (q := 134) g fi_md_46 rfl (hL 121 12 19 rfl (by decide)) d_md_truly_2 ?_
  refine PW.iload_n g rfl rfl d_md_truly_5 ?_
  refine PW.iald g rfl h.1 d_md_truly_6 ?_
  have h := h.2
  refine PW.aload_n g rfl rfl d_md_truly_7 ?_
  refine PW.getR (q := 135) g fi_md_49 rfl (hL 121 12 20 rfl (by decide)) d_md_truly_8 ?_
  refine PW.iload_n g rfl rfl d_md_truly_11 ?_
  refine PW.iald g rfl h.1 d_md_truly_12 ?_
  have h := h.2
  refine PX.cVz [.int (I 134 a1.toNatClampNeg), .int (I 135 a1.toNatClampNeg)] [] g rfl ck_md (c_md_perform d  hL h) cl_md_415 (by omega) (by decide) rfl rfl (Nat.le_of_ble_eq_true rfl) d_md_truly_13 (fun v1 I1 R1 hL hzv1 h => ?_)
  refine PW.if_ne g 34 (by decide) d_md_truly_16 (fun c1 => ?_) (fun c1 => ?_)
  · have h := h.1 c1
    refine PW.aload_n g rfl rfl d_md_truly_34 ?_
    refine PW.getR (q := 158) g fi_md_122 rfl (hL 121 12 57 rfl (by decide)) d_md_truly_35 ?_
    refine PW.iconst g (0) (by decide) d_md_truly_38 ?_
    refine PW.iald g rfl h.1 d_md_truly_39 ?_
    have h := h.2
    refine PW.if_ne g 59 (by decide) d_md_truly_40 (fun c2 => ?_) (fun c2 => ?_)
    · have h := h.1 c2
      exact PX.vret g hF rfl d_md_truly_59 hL h
    · have h := h.2 c2
      refine PW.aload_n g rfl rfl d_md_truly_43 ?_
      refine PW.iconst g (1) (by decide) d_md_truly_44 ?_
      refine PW.aload_n g rfl rfl d_md_truly_45 ?_
      refine PW.getR (q := 136) g fi_md_52 rfl (hL 121 12 21 rfl (by decide)) d_md_truly_46 ?_
      refine PW.iload_n g rfl rfl d_md_truly_49 ?_
      refine PW.iald g rfl h.1 d_md_truly_50 ?_
      have h := h.2
      refine PX.cVv [.int (1 : Int32), .int (I1 136 a1.toNatClampNeg)] [] g rfl ck_md (c_md_fails d  hL h) cl_md_421 (by omega) (by decide) rfl rfl (Nat.le_of_ble_eq_true rfl) d_md_truly_51 (fun I2 R2 hL h => ?_)
      refine PW.aload_n g rfl rfl d_md_truly_54 ?_
      refine PW.iload_n g rfl rfl d_md_truly_55 ?_
      refine PX.cVv [.int a1] [] g rfl ck_md (c_md_keep d  hL h) cl_md_424 (by omega) (by decide) rfl rfl (Nat.le_of_ble_eq_true rfl) d_md_truly_56 (fun I3 R3 hL h => ?_)
      exact PX.vret g hF rfl d_md_truly_59 hL h
  · have h := h.2 c1
    refine PW.aload_n g rfl rfl d_md_truly_19 ?_
    refine PW.aload_n g rfl rfl d_md_truly_20 ?_
    refine PW.getI g fi_md_368 rfl d_md_truly_21 ?_
    refine PW.aload_n g rfl rfl d_md_truly_24 ?_
    refine PW.getI g fi_md_371 rfl d_md_truly_25 ?_
    refine PX.cVv [.int (I1 121 59), .int (I1 121 60)] [] g rfl ck_md (c_md_fails d  hL h) cl_md_421 (by omega) (by decide) rfl rfl (Nat.le_of_ble_eq_true rfl) d_md_truly_28 (fun I4 R4 hL h => ?_)
    refine PW.goto g 59 (by decide) d_md_truly_31 ?_
    exact PX.vret g hF rfl d_md_truly_59 hL h
def l_md_befores_28 (f1 : Int32) (f2 : Int32) (K : pI → pR → Prop) (Q : Int32 → pI → pR → Prop) : Nat → Int32 → pI → pR → Prop
  | 0, _, _, _ => False
  | n + 1, x3, I, R => (vp_in f2 200 ∧ (((I 135 f2.toNatClampNeg) ≤ x3 → K I R) ∧ (¬ (I 135 f2.toNatClampNeg) ≤ x3 → (vp_in f2 200 ∧ ((¬ (I 131 f2.toNatClampNeg) = (4 : Int32) → K I R) ∧ ((I 131 f2.toNatClampNeg) = (4 : Int32) → (vp_in f2 200 ∧ ((¬ (I 132 f2.toNatClampNeg) = f1 → K I R) ∧ ((I 132 f2.toNatClampNeg) = f1 → (vp_in x3 800 ∧ ((¬ (I 128 x3.toNatClampNeg) = (202 : Int32) → l_md_befores_28 f1 f2 K Q n (x3 + 1) I R) ∧ ((I 128 x3.toNatClampNeg) = (202 : Int32) → (vp_in x3 800 ∧ (w_md_perform (x3 + (1 : Int32)) (I 129 x3.toNatClampNeg) I R (fun v1 I1 R1 => ((¬ v1 = 0 → (vp_in (0 : Int32) 64 ∧ (vp_in x3 800 ∧ ∀ I2, I2 = pw_wI I1 159 x3.toNatClampNeg (I1 158 (0 : Int32).toNatClampNeg) → l_md_befores_28 f1 f2 K Q n (x3 + 1) I2 R1))) ∧ (v1 = 0 → Q (0 : Int32) I1 R1)))))))))))))))))
set_option maxHeartbeats 4000000 in
set_option maxRecDepth 100000 in
theorem L_md_befores_28 (d : Nat) {f1 : Int32} {f2 : Int32} {K : pI → pR → Prop} {Q : Int32 → pI → pR → Prop} {E : pE} {B : pB} (g : pw_G m_md_befores (d + 6) 0 0 E B) (hF : pX (qz Q) E B) (hK : ∀ (I : pI) (R : pR), pw_Lay R → K  I R → PX E B m_md_befores.2.2.1 106 [some (.ref 121), some (.int f1), some (.int f2), none] [] I R) : ∀ (n : Nat) (x3 : Int32) (I : pI) (R : pR), pw_Lay R → l_md_befores_28 f1 f2 K Q n x3 I R → PX E B m_md_befores.2.2.1 28 [some (.ref 121), some (.int f1), some (.int f2), some (.int x3)] [] I R := by
  intro n
  induction n with
  | zero => intro x3 I R hL h; exact False.elim h
  | succ n ih =>
    intro x3 I R hL h
    refine PW.iload_n g rfl rfl d_md_befores_28 ?_
    refine PW.aload_n g rfl rfl d_md_befores_29 ?_
    refine PW.getR (q := 135) g fi_md_49 rfl (hL 121 12 20 rfl (by decide)) d_md_befores_30 ?_
    refine PW.iload_n g rfl rfl d_md_befores_33 ?_
    refine PW.iald g rfl h.1 d_md_befores_34 ?_
    have h := h.2
    refine PW.icmp_ge g 106 (by decide) d_md_befores_35 (fun c2 => ?_) (fun c2 => ?_)
    · have h := h.1 c2
      refine PX.sub [some (.ref 121), some (.int f1), some (.int f2), none] ⟨rfl, ⟨rfl, ⟨rfl, trivial⟩⟩⟩ ?_
      exact hK _ _ hL h
    · have h := h.2 c2
      refine PW.aload_n g rfl rfl d_md_befores_38 ?_
      refine PW.getR (q := 131) g fi_md_37 rfl (hL 121 12 16 rfl (by decide)) d_md_befores_39 ?_
      refine PW.iload_n g rfl rfl d_md_befores_42 ?_
      refine PW.iald g rfl h.1 d_md_befores_43 ?_
      have h := h.2
      refine PW.iconst g (4) (by decide) d_md_befores_44 ?_
      refine PW.icmp_ne g 106 (by decide) d_md_befores_45 (fun c3 => ?_) (fun c3 => ?_)
      · have h := h.1 c3
        refine PX.sub [some (.ref 121), some (.int f1), some (.int f2), none] ⟨rfl, ⟨rfl, ⟨rfl, trivial⟩⟩⟩ ?_
        exact hK _ _ hL h
      · have h := h.2 c3
        refine PW.aload_n g rfl rfl d_md_befores_48 ?_
        refine PW.getR (q := 132) g fi_md_40 rfl (hL 121 12 17 rfl (by decide)) d_md_befores_49 ?_
        refine PW.iload_n g rfl rfl d_md_befores_52 ?_
        refine PW.iald g rfl h.1 d_md_befores_53 ?_
        have h := h.2
        refine PW.iload_n g rfl rfl d_md_befores_54 ?_
        refine PW.icmp_ne g 106 (by decide) d_md_befores_55 (fun c4 => ?_) (fun c4 => ?_)
        · have h := h.1 c4
          refine PX.sub [some (.ref 121), some (.int f1), some (.int f2), none] ⟨rfl, ⟨rfl, ⟨rfl, trivial⟩⟩⟩ ?_
          exact hK _ _ hL h
        · have h := h.2 c4
          refine PW.aload_n g rfl rfl d_md_befores_58 ?_
          refine PW.getR (q := 128) g fi_md_28 rfl (hL 121 12 12 rfl (by decide)) d_md_befores_59 ?_
          refine PW.iload_n g rfl rfl d_md_befores_62 ?_
          refine PW.iald g rfl h.1 d_md_befores_63 ?_
          have h := h.2
          refine PW.sipush g (202) (by decide) d_md_befores_64 ?_
          refine PW.icmp_ne g 100 (by decide) d_md_befores_67 (fun c5 => ?_) (fun c5 => ?_)
          · have h := h.1 c5
            refine PW.iinc g rfl (show x3 + Int32.ofInt (1) = (x3 + 1) from congrArg (HAdd.hAdd x3) (by decide)) (by decide) rfl (L' := [some (.ref 121), some (.int f1), some (.int f2), some (.int (x3 + 1))]) rfl d_md_befores_100 ?_
            refine PW.goto g 28 (by decide) d_md_befores_103 ?_
            refine PX.sub [some (.ref 121), some (.int f1), some (.int f2), some (.int (x3 + 1))] ⟨rfl, ⟨rfl, ⟨rfl, ⟨rfl, trivial⟩⟩⟩⟩ ?_
            exact ih _ _ _ hL h
          · have h := h.2 c5
            refine PW.aload_n g rfl rfl d_md_befores_70 ?_
            refine PW.iload_n g rfl rfl d_md_befores_71 ?_
            refine PW.iconst g (1) (by decide) d_md_befores_72 ?_
            refine PW.iadd g d_md_befores_73 ?_
            refine PW.aload_n g rfl rfl d_md_befores_74 ?_
            refine PW.getR (q := 129) g fi_md_31 rfl (hL 121 12 13 rfl (by decide)) d_md_befores_75 ?_
            refine PW.iload_n g rfl rfl d_md_befores_78 ?_
            refine PW.iald g rfl h.1 d_md_befores_79 ?_
            have h := h.2
            refine PX.cVz [.int (x3 + (1 : Int32)), .int (I 129 x3.toNatClampNeg)] [] g rfl ck_md (c_md_perform d  hL h) cl_md_415 (by omega) (by decide) rfl rfl (Nat.le_of_ble_eq_true rfl) d_md_befores_80 (fun v1 I1 R1 hL hzv1 h => ?_)
            refine PW.if_ne g 88 (by decide) d_md_befores_83 (fun c6 => ?_) (fun c6 => ?_)
            · have h := h.1 c6
              refine PW.aload_n g rfl rfl d_md_befores_88 ?_
              refine PW.getR (q := 159) g fi_md_125 rfl (hL 121 12 64 rfl (by decide)) d_md_befores_89 ?_
              refine PW.iload_n g rfl rfl d_md_befores_92 ?_
              refine PW.aload_n g rfl rfl d_md_befores_93 ?_
              refine PW.getR (q := 158) g fi_md_122 rfl (hL 121 12 57 rfl (by decide)) d_md_befores_94 ?_
              refine PW.iconst g (0) (by decide) d_md_befores_97 ?_
              refine PW.iald g rfl h.1 d_md_befores_98 ?_
              have h := h.2
              refine PW.iast g rfl h.1 d_md_befores_99 ?_
              refine PX.gI (fun I2 eI2 => ?_)
              have h := h.2 _ eI2
              refine PW.iinc g rfl (show x3 + Int32.ofInt (1) = (x3 + 1) from congrArg (HAdd.hAdd x3) (by decide)) (by decide) rfl (L' := [some (.ref 121), some (.int f1), some (.int f2), some (.int (x3 + 1))]) rfl d_md_befores_100 ?_
              refine PW.goto g 28 (by decide) d_md_befores_103 ?_
              refine PX.sub [some (.ref 121), some (.int f1), some (.int f2), some (.int (x3 + 1))] ⟨rfl, ⟨rfl, ⟨rfl, ⟨rfl, trivial⟩⟩⟩⟩ ?_
              exact ih _ _ _ hL h
            · have h := h.2 c6
              refine PW.iconst g (0) (by decide) d_md_befores_86 ?_
              exact PX.zret g hF rfl (Or.inl rfl) d_md_befores_87 hL h
def l_md_befores_8 (f1 : Int32) (K : pI → pR → Prop) (Q : Int32 → pI → pR → Prop) : Nat → Int32 → pI → pR → Prop
  | 0, _, _, _ => False
  | n + 1, x2, I, R => (vp_in (I 121 10) 2 ∧ (((I 147 (I 121 10).toNatClampNeg) ≤ x2 → K I R) ∧ (¬ (I 147 (I 121 10).toNatClampNeg) ≤ x2 → (vp_in x2 200 ∧ (∃ n1, l_md_befores_28 f1 x2 (fun I3 R2 => l_md_befores_8 f1 K Q n (x2 + 1) I3 R2) Q n1 (I 134 x2.toNatClampNeg) I R)))))
set_option maxHeartbeats 4000000 in
set_option maxRecDepth 100000 in
theorem L_md_befores_8 (d : Nat) {f1 : Int32} {K : pI → pR → Prop} {Q : Int32 → pI → pR → Prop} {E : pE} {B : pB} (g : pw_G m_md_befores (d + 6) 0 0 E B) (hF : pX (qz Q) E B) (hK : ∀ (I : pI) (R : pR), pw_Lay R → K  I R → PX E B m_md_befores.2.2.1 112 [none, none, none, none] [] I R) : ∀ (n : Nat) (x2 : Int32) (I : pI) (R : pR), pw_Lay R → l_md_befores_8 f1 K Q n x2 I R → PX E B m_md_befores.2.2.1 8 [some (.ref 121), some (.int f1), some (.int x2), none] [] I R := by
  intro n
  induction n with
  | zero => intro x2 I R hL h; exact False.elim h
  | succ n ih =>
    intro x2 I R hL h
    refine PW.iload_n g rfl rfl d_md_befores_8 ?_
    refine PW.aload_n g rfl rfl d_md_befores_9 ?_
    refine PW.getR (q := 147) g fi_md_85 rfl (hL 121 12 36 rfl (by decide)) d_md_befores_10 ?_
    refine PW.aload_n g rfl rfl d_md_befores_13 ?_
    refine PW.getI g fi_md_347 rfl d_md_befores_14 ?_
    refine PW.iald g rfl h.1 d_md_befores_17 ?_
    have h := h.2
    refine PW.icmp_ge g 112 (by decide) d_md_befores_18 (fun c1 => ?_) (fun c1 => ?_)
    · have h := h.1 c1
      refine PX.sub [none, none, none, none] trivial ?_
      exact hK _ _ hL h
    · have h := h.2 c1
      refine PW.aload_n g rfl rfl d_md_befores_21 ?_
      refine PW.getR (q := 134) g fi_md_46 rfl (hL 121 12 19 rfl (by decide)) d_md_befores_22 ?_
      refine PW.iload_n g rfl rfl d_md_befores_25 ?_
      refine PW.iald g rfl h.1 d_md_befores_26 ?_
      have h := h.2
      refine PW.istore_n g rfl (L' := [some (.ref 121), some (.int f1), some (.int x2), some (.int (I 134 x2.toNatClampNeg))]) (by decide) rfl rfl d_md_befores_27 ?_
      refine PX.sub [some (.ref 121), some (.int f1), some (.int x2), some (.int (I 134 x2.toNatClampNeg))] ⟨rfl, ⟨rfl, ⟨rfl, ⟨rfl, trivial⟩⟩⟩⟩ ?_
      obtain ⟨n1, h⟩ := h
      refine L_md_befores_28 d g hF (fun I3 R2 hL h => ?_) n1 (I 134 x2.toNatClampNeg) I R hL h
      refine PW.iinc g rfl (show x2 + Int32.ofInt (1) = (x2 + 1) from congrArg (HAdd.hAdd x2) (by decide)) (by decide) rfl (L' := [some (.ref 121), some (.int f1), some (.int (x2 + 1)), none]) rfl d_md_befores_106 ?_
      refine PW.goto g 8 (by decide) d_md_befores_109 ?_
      refine PX.sub [some (.ref 121), some (.int f1), some (.int (x2 + 1)), none] ⟨rfl, ⟨rfl, ⟨rfl, trivial⟩⟩⟩ ?_
      exact ih _ _ _ hL h
def w_md_befores (a1 : Int32) (I : pI) (R : pR) (Q : Int32 → pI → pR → Prop) : Prop := (∃ n2, l_md_befores_8 a1 (fun I4 R3 => Q (1 : Int32) I4 R3) Q n2 ((100 : Int32) * (I 121 10)) I R)
set_option maxHeartbeats 4000000 in
set_option maxRecDepth 100000 in
theorem c_md_befores (d : Nat) {a1 : Int32} {I : pI} {R : pR} {Q : Int32 → pI → pR → Prop} (hL : pw_Lay R) (h : w_md_befores a1 I R Q) : Cm (d + 6) m_md_befores [.ref 121, .int a1] I R (qz Q) := by
  refine Cm.of [some (.ref 121), some (.int a1), none, none] (by decide) rfl (Nat.le_of_ble_eq_true rfl) (by simp) (fun E B g hF => ?_)
  unfold w_md_befores at h
  refine PW.bipush g (100) (by decide) d_md_befores_0 ?_
  refine PW.aload_n g rfl rfl d_md_befores_2 ?_
  refine PW.getI g fi_md_347 rfl d_md_befores_3 ?_
  refine PW.imul g d_md_befores_6 ?_
  refine PW.istore_n g rfl (L' := [some (.ref 121), some (.int a1), some (.int ((100 : Int32) * (I 121 10))), none]) (by decide) rfl rfl d_md_befores_7 ?_
  refine PX.sub [some (.ref 121), some (.int a1), some (.int ((100 : Int32) * (I 121 10))), none] ⟨rfl, ⟨rfl, ⟨rfl, trivial⟩⟩⟩ ?_
  obtain ⟨n2, h⟩ := h
  refine L_md_befores_8 d g hF (fun I4 R3 hL h => ?_) n2 ((100 : Int32) * (I 121 10)) I R hL h
  refine PW.iconst g (1) (by decide) d_md_befores_112 ?_
  exact PX.zret g hF rfl (Or.inr rfl) d_md_befores_113 hL h
def l_md_firstItem_15 (f1 : Int32) (f2 : Int32) (K : Int32 → pI → pR → Prop) (Q : Int32 → pI → pR → Prop) : Nat → Int32 → Int32 → pI → pR → Prop
  | 0, _, _, _, _ => False
  | n + 1, x3, x4, I, R => ((x4 < ((100 : Int32) * (I 121 10)) → K x3 I R) ∧ (¬ x4 < ((100 : Int32) * (I 121 10)) → (vp_in x4 200 ∧ ((¬ (I 131 x4.toNatClampNeg) = f1 → l_md_firstItem_15 f1 f2 K Q n x3 (x4 + (-1)) I R) ∧ ((I 131 x4.toNatClampNeg) = f1 → (vp_in x4 200 ∧ ((¬ (I 132 x4.toNatClampNeg) = f2 → l_md_firstItem_15 f1 f2 K Q n x3 (x4 + (-1)) I R) ∧ ((I 132 x4.toNatClampNeg) = f2 → l_md_firstItem_15 f1 f2 K Q n x4 (x4 + (-1)) I R))))))))
set_option maxHeartbeats 4000000 in
set_option maxRecDepth 100000 in
theorem L_md_firstItem_15 (d : Nat) {f1 : Int32} {f2 : Int32} {K : Int32 → pI → pR → Prop} {Q : Int32 → pI → pR → Prop} {E : pE} {B : pB} (g : pw_G m_md_firstItem (d + 1) 0 0 E B) (hF : pX (qi Q) E B) (hK : ∀ (y3 : Int32) (I : pI) (R : pR), pw_Lay R → K y3 I R → PX E B m_md_firstItem.2.2.1 62 [none, none, none, some (.int y3), none] [] I R) : ∀ (n : Nat) (x3 : Int32) (x4 : Int32) (I : pI) (R : pR), pw_Lay R → l_md_firstItem_15 f1 f2 K Q n x3 x4 I R → PX E B m_md_firstItem.2.2.1 15 [some (.ref 121), some (.int f1), some (.int f2), some (.int x3), some (.int x4)] [] I R := by
  intro n
  induction n with
  | zero => intro x3 x4 I R hL h; exact False.elim h
  | succ n ih =>
    intro x3 x4 I R hL h
    refine PW.iload g rfl d_md_firstItem_15 ?_
    refine PW.bipush g (100) (by decide) d_md_firstItem_17 ?_
    refine PW.aload_n g rfl rfl d_md_firstItem_19 ?_
    refine PW.getI g fi_md_347 rfl d_md_firstItem_20 ?_
    refine PW.imul g d_md_firstItem_23 ?_
    refine PW.icmp_lt g 62 (by decide) d_md_firstItem_24 (fun c1 => ?_) (fun c1 => ?_)
    · have h := h.1 c1
      refine PX.sub [none, none, none, some (.int x3), none] ⟨rfl, trivial⟩ ?_
      exact hK _ _ _ hL h
    · have h := h.2 c1
      refine PW.aload_n g rfl rfl d_md_firstItem_27 ?_
      refine PW.getR (q := 131) g fi_md_37 rfl (hL 121 12 16 rfl (by decide)) d_md_firstItem_28 ?_
      refine PW.iload g rfl d_md_firstItem_31 ?_
      refine PW.iald g rfl h.1 d_md_firstItem_33 ?_
      have h := h.2
      refine PW.iload_n g rfl rfl d_md_firstItem_34 ?_
      refine PW.icmp_ne g 54 (by decide) d_md_firstItem_35 (fun c2 => ?_) (fun c2 => ?_)
      · have h := h.1 c2
        refine PW.iload_n g rfl rfl d_md_firstItem_54 ?_
        refine PW.istore_n g rfl (L' := [some (.ref 121), some (.int f1), some (.int f2), some (.int x3), some (.int x4)]) (by decide) rfl rfl d_md_firstItem_55 ?_
        refine PW.iinc g rfl (show x4 + Int32.ofInt (-1) = (x4 + (-1)) from congrArg (HAdd.hAdd x4) (by decide)) (by decide) rfl (L' := [some (.ref 121), some (.int f1), some (.int f2), some (.int x3), some (.int (x4 + (-1)))]) rfl d_md_firstItem_56 ?_
        refine PW.goto g 15 (by decide) d_md_firstItem_59 ?_
        refine PX.sub [some (.ref 121), some (.int f1), some (.int f2), some (.int x3), some (.int (x4 + (-1)))] ⟨rfl, ⟨rfl, ⟨rfl, ⟨rfl, ⟨rfl, trivial⟩⟩⟩⟩⟩ ?_
        exact ih _ _ _ _ hL h
      · have h := h.2 c2
        refine PW.aload_n g rfl rfl d_md_firstItem_38 ?_
        refine PW.getR (q := 132) g fi_md_40 rfl (hL 121 12 17 rfl (by decide)) d_md_firstItem_39 ?_
        refine PW.iload g rfl d_md_firstItem_42 ?_
        refine PW.iald g rfl h.1 d_md_firstItem_44 ?_
        have h := h.2
        refine PW.iload_n g rfl rfl d_md_firstItem_45 ?_
        refine PW.icmp_ne g 54 (by decide) d_md_firstItem_46 (fun c3 => ?_) (fun c3 => ?_)
        · have h := h.1 c3
          refine PW.iload_n g rfl rfl d_md_firstItem_54 ?_
          refine PW.istore_n g rfl (L' := [some (.ref 121), some (.int f1), some (.int f2), some (.int x3), some (.int x4)]) (by decide) rfl rfl d_md_firstItem_55 ?_
          refine PW.iinc g rfl (show x4 + Int32.ofInt (-1) = (x4 + (-1)) from congrArg (HAdd.hAdd x4) (by decide)) (by decide) rfl (L' := [some (.ref 121), some (.int f1), some (.int f2), some (.int x3), some (.int (x4 + (-1)))]) rfl d_md_firstItem_56 ?_
          refine PW.goto g 15 (by decide) d_md_firstItem_59 ?_
          refine PX.sub [some (.ref 121), some (.int f1), some (.int f2), some (.int x3), some (.int (x4 + (-1)))] ⟨rfl, ⟨rfl, ⟨rfl, ⟨rfl, ⟨rfl, trivial⟩⟩⟩⟩⟩ ?_
          exact ih _ _ _ _ hL h
        · have h := h.2 c3
          refine PW.iload g rfl d_md_firstItem_49 ?_
          refine PW.goto g 55 (by decide) d_md_firstItem_51 ?_
          refine PW.istore_n g rfl (L' := [some (.ref 121), some (.int f1), some (.int f2), some (.int x4), some (.int x4)]) (by decide) rfl rfl d_md_firstItem_55 ?_
          refine PW.iinc g rfl (show x4 + Int32.ofInt (-1) = (x4 + (-1)) from congrArg (HAdd.hAdd x4) (by decide)) (by decide) rfl (L' := [some (.ref 121), some (.int f1), some (.int f2), some (.int x4), some (.int (x4 + (-1)))]) rfl d_md_firstItem_56 ?_
          refine PW.goto g 15 (by decide) d_md_firstItem_59 ?_
          refine PX.sub [some (.ref 121), some (.int f1), some (.int f2), some (.int x4), some (.int (x4 + (-1)))] ⟨rfl, ⟨rfl, ⟨rfl, ⟨rfl, ⟨rfl, trivial⟩⟩⟩⟩⟩ ?_
          exact ih _ _ _ _ hL h
def w_md_firstItem (a1 : Int32) (a2 : Int32) (I : pI) (R : pR) (Q : Int32 → pI → pR → Prop) : Prop := (vp_in (I 121 10) 2 ∧ (∃ n1, l_md_firstItem_15 a1 a2 (fun y1 I1 R1 => Q y1 I1 R1) Q n1 (-1 : Int32) ((I 147 (I 121 10).toNatClampNeg) - (1 : Int32)) I R))
set_option maxHeartbeats 4000000 in
set_option maxRecDepth 100000 in
theorem c_md_firstItem (d : Nat) {a1 : Int32} {a2 : Int32} {I : pI} {R : pR} {Q : Int32 → pI → pR → Prop} (hL : pw_Lay R) (h : w_md_firstItem a1 a2 I R Q) : Cm (d + 1) m_md_firstItem [.ref 121, .int a1, .int a2] I R (qi Q) := by
  refine Cm.of [some (.ref 121), some (.int a1), some (.int a2), none, none] (by decide) rfl (Nat.le_of_ble_eq_true rfl) (by simp) (fun E B g hF => ?_)
  unfold w_md_firstItem at h
  refine PW.iconst g (-1) (by decide) d_md_firstItem_0 ?_
  refine PW.istore_n g rfl (L' := [some (.ref 121), some (.int a1), some (.int a2), some (.int (-1 : Int32)), none]) (by decide) rfl rfl d_md_firstItem_1 ?_
  refine PW.aload_n g rfl rfl d_md_firstItem_2 ?_
  refine PW.getR (q := 147) g fi_md_85 rfl (hL 121 12 36 rfl (by decide)) d_md_firstItem_3 ?_
  refine PW.aload_n g rfl rfl d_md_firstItem_6 ?_
  refine PW.getI g fi_md_347 rfl d_md_firstItem_7 ?_
  refine PW.iald g rfl h.1 d_md_firstItem_10 ?_
  have h := h.2
  refine PW.iconst g (1) (by decide) d_md_firstItem_11 ?_
  refine PW.isub g d_md_firstItem_12 ?_
  refine PW.istore g (L' := [some (.ref 121), some (.int a1), some (.int a2), some (.int (-1 : Int32)), some (.int ((I 147 (I 121 10).toNatClampNeg) - (1 : Int32)))]) (by decide) rfl rfl d_md_firstItem_13 ?_
  refine PX.sub [some (.ref 121), some (.int a1), some (.int a2), some (.int (-1 : Int32)), some (.int ((I 147 (I 121 10).toNatClampNeg) - (1 : Int32)))] ⟨rfl, ⟨rfl, ⟨rfl, ⟨rfl, ⟨rfl, trivial⟩⟩⟩⟩⟩ ?_
  obtain ⟨n1, h⟩ := h
  refine L_md_firstItem_15 d g hF (fun y1 I1 R1 hL h => ?_) n1 (-1 : Int32) ((I 147 (I 121 10).toNatClampNeg) - (1 : Int32)) I R hL h
  refine PW.iload_n g rfl rfl d_md_firstItem_62 ?_
  exact PX.iret g hF rfl d_md_firstItem_63 hL h
def l_md_acted_36 (f1 : Int32) (f2 : Int32) (K : pI → pR → Prop) (Q : Int32 → pI → pR → Prop) : Nat → Int32 → pI → pR → Prop
  | 0, _, _, _ => False
  | n + 1, x3, I, R => (((I 121 63) ≤ x3 → K I R) ∧ (¬ (I 121 63) ≤ x3 → (vp_in x3 200 ∧ ∀ I4, I4 = pw_wI I 145 x3.toNatClampNeg (0 : Int32) → (vp_in x3 200 ∧ ((¬ (I4 131 x3.toNatClampNeg) = (3 : Int32) → l_md_acted_36 f1 f2 K Q n (x3 + 1) I4 R) ∧ ((I4 131 x3.toNatClampNeg) = (3 : Int32) → (vp_in x3 200 ∧ ((¬ (I4 132 x3.toNatClampNeg) = f1 → l_md_acted_36 f1 f2 K Q n (x3 + 1) I4 R) ∧ ((I4 132 x3.toNatClampNeg) = f1 → (∀ I5, I5 = pw_wI I4 121 62 x3 → l_md_acted_36 f1 f2 K Q n (x3 + 1) I5 R))))))))))
set_option maxHeartbeats 4000000 in
set_option maxRecDepth 100000 in
theorem L_md_acted_36 (d : Nat) {f1 : Int32} {f2 : Int32} {K : pI → pR → Prop} {Q : Int32 → pI → pR → Prop} {E : pE} {B : pB} (g : pw_G m_md_acted (d + 7) 0 0 E B) (hF : pX (qi Q) E B) (hK : ∀ (I : pI) (R : pR), pw_Lay R → K  I R → PX E B m_md_acted.2.2.1 82 [some (.ref 121), some (.int f1), some (.int f2), none] [] I R) : ∀ (n : Nat) (x3 : Int32) (I : pI) (R : pR), pw_Lay R → l_md_acted_36 f1 f2 K Q n x3 I R → PX E B m_md_acted.2.2.1 36 [some (.ref 121), some (.int f1), some (.int f2), some (.int x3)] [] I R := by
  intro n
  induction n with
  | zero => intro x3 I R hL h; exact False.elim h
  | succ n ih =>
    intro x3 I R hL h
    refine PW.iload_n g rfl rfl d_md_acted_36 ?_
    refine PW.aload_n g rfl rfl d_md_acted_37 ?_
    refine PW.getI g fi_md_380 rfl d_md_acted_38 ?_
    refine PW.icmp_ge g 82 (by decide) d_md_acted_41 (fun c1 => ?_) (fun c1 => ?_)
    · have h := h.1 c1
      refine PX.sub [some (.ref 121), some (.int f1), some (.int f2), none] ⟨rfl, ⟨rfl, ⟨rfl, trivial⟩⟩⟩ ?_
      exact hK _ _ hL h
    · have h := h.2 c1
      refine PW.aload_n g rfl rfl d_md_acted_44 ?_
      refine PW.getR (q := 145) g fi_md_79 rfl (hL 121 12 30 rfl (by decide)) d_md_acted_45 ?_
      refine PW.iload_n g rfl rfl d_md_acted_48 ?_
      refine PW.iconst g (0) (by decide) d_md_acted_49 ?_
      refine PW.iast g rfl h.1 d_md_acted_50 ?_
      refine PX.gI (fun I4 eI4 => ?_)
      have h := h.2 _ eI4
      refine PW.aload_n g rfl rfl d_md_acted_51 ?_
      refine PW.getR (q := 131) g fi_md_37 rfl (hL 121 12 16 rfl (by decide)) d_md_acted_52 ?_
      refine PW.iload_n g rfl rfl d_md_acted_55 ?_
      refine PW.iald g rfl h.1 d_md_acted_56 ?_
      have h := h.2
      refine PW.iconst g (3) (by decide) d_md_acted_57 ?_
      refine PW.icmp_ne g 76 (by decide) d_md_acted_58 (fun c2 => ?_) (fun c2 => ?_)
      · have h := h.1 c2
        refine PW.iinc g rfl (show x3 + Int32.ofInt (1) = (x3 + 1) from congrArg (HAdd.hAdd x3) (by decide)) (by decide) rfl (L' := [some (.ref 121), some (.int f1), some (.int f2), some (.int (x3 + 1))]) rfl d_md_acted_76 ?_
        refine PW.goto g 36 (by decide) d_md_acted_79 ?_
        refine PX.sub [some (.ref 121), some (.int f1), some (.int f2), some (.int (x3 + 1))] ⟨rfl, ⟨rfl, ⟨rfl, ⟨rfl, trivial⟩⟩⟩⟩ ?_
        exact ih _ _ _ hL h
      · have h := h.2 c2
        refine PW.aload_n g rfl rfl d_md_acted_61 ?_
        refine PW.getR (q := 132) g fi_md_40 rfl (hL 121 12 17 rfl (by decide)) d_md_acted_62 ?_
        refine PW.iload_n g rfl rfl d_md_acted_65 ?_
        refine PW.iald g rfl h.1 d_md_acted_66 ?_
        have h := h.2
        refine PW.iload_n g rfl rfl d_md_acted_67 ?_
        refine PW.icmp_ne g 76 (by decide) d_md_acted_68 (fun c3 => ?_) (fun c3 => ?_)
        · have h := h.1 c3
          refine PW.iinc g rfl (show x3 + Int32.ofInt (1) = (x3 + 1) from congrArg (HAdd.hAdd x3) (by decide)) (by decide) rfl (L' := [some (.ref 121), some (.int f1), some (.int f2), some (.int (x3 + 1))]) rfl d_md_acted_76 ?_
          refine PW.goto g 36 (by decide) d_md_acted_79 ?_
          refine PX.sub [some (.ref 121), some (.int f1), some (.int f2), some (.int (x3 + 1))] ⟨rfl, ⟨rfl, ⟨rfl, ⟨rfl, trivial⟩⟩⟩⟩ ?_
          exact ih _ _ _ hL h
        · have h := h.2 c3
          refine PW.aload_n g rfl rfl d_md_acted_71 ?_
          refine PW.iload_n g rfl rfl d_md_acted_72 ?_
          refine PW.putI g fi_md_377 rfl rfl rfl d_md_acted_73 ?_
          refine PX.gI (fun I5 eI5 => ?_)
          have h := h _ eI5
          refine PW.iinc g rfl (show x3 + Int32.ofInt (1) = (x3 + 1) from congrArg (HAdd.hAdd x3) (by decide)) (by decide) rfl (L' := [some (.ref 121), some (.int f1), some (.int f2), some (.int (x3 + 1))]) rfl d_md_acted_76 ?_
          refine PW.goto g 36 (by decide) d_md_acted_79 ?_
          refine PX.sub [some (.ref 121), some (.int f1), some (.int f2), some (.int (x3 + 1))] ⟨rfl, ⟨rfl, ⟨rfl, ⟨rfl, trivial⟩⟩⟩⟩ ?_
          exact ih _ _ _ hL h
def l_md_acted_90 (f1 : Int32) (f2 : Int32) (K : pI → pR → Prop) (Q : Int32 → pI → pR → Prop) : Nat → pI → pR → Prop
  | 0, _, _ => False
  | n + 1, I, R => (vp_in (I 121 10) 2 ∧ (((I 147 (I 121 10).toNatClampNeg) ≤ (I 121 63) → K I R) ∧ (¬ (I 147 (I 121 10).toNatClampNeg) ≤ (I 121 63) → (vp_in (I 121 63) 200 ∧ ((¬ (I 132 (I 121 63).toNatClampNeg) = f1 → K I R) ∧ ((I 132 (I 121 63).toNatClampNeg) = f1 → (vp_in (I 121 63) 200 ∧ (((I 131 (I 121 63).toNatClampNeg) = (8 : Int32) → K I R) ∧ (¬ (I 131 (I 121 63).toNatClampNeg) = (8 : Int32) → (vp_in (I 121 63) 200 ∧ (((I 131 (I 121 63).toNatClampNeg) = (9 : Int32) → K I R) ∧ (¬ (I 131 (I 121 63).toNatClampNeg) = (9 : Int32) → (∀ I8, I8 = pw_wI I 121 63 ((I 121 63) + (1 : Int32)) → l_md_acted_90 f1 f2 K Q n I8 R)))))))))))))
set_option maxHeartbeats 4000000 in
set_option maxRecDepth 100000 in
theorem L_md_acted_90 (d : Nat) {f1 : Int32} {f2 : Int32} {K : pI → pR → Prop} {Q : Int32 → pI → pR → Prop} {E : pE} {B : pB} (g : pw_G m_md_acted (d + 7) 0 0 E B) (hF : pX (qi Q) E B) (hK : ∀ (I : pI) (R : pR), pw_Lay R → K  I R → PX E B m_md_acted.2.2.1 160 [some (.ref 121), some (.int f1), some (.int f2), none] [] I R) : ∀ (n : Nat) (I : pI) (R : pR), pw_Lay R → l_md_acted_90 f1 f2 K Q n I R → PX E B m_md_acted.2.2.1 90 [some (.ref 121), some (.int f1), some (.int f2), none] [] I R := by
  intro n
  induction n with
  | zero => intro I R hL h; exact False.elim h
  | succ n ih =>
    intro I R hL h
    refine PW.aload_n g rfl rfl d_md_acted_90 ?_
    refine PW.getI g fi_md_380 rfl d_md_acted_91 ?_
    refine PW.aload_n g rfl rfl d_md_acted_94 ?_
    refine PW.getR (q := 147) g fi_md_85 rfl (hL 121 12 36 rfl (by decide)) d_md_acted_95 ?_
    refine PW.aload_n g rfl rfl d_md_acted_98 ?_
    refine PW.getI g fi_md_347 rfl d_md_acted_99 ?_
    refine PW.iald g rfl h.1 d_md_acted_102 ?_
    have h := h.2
    refine PW.icmp_ge g 160 (by decide) d_md_acted_103 (fun c4 => ?_) (fun c4 => ?_)
    · have h := h.1 c4
      refine PX.sub [some (.ref 121), some (.int f1), some (.int f2), none] ⟨rfl, ⟨rfl, ⟨rfl, trivial⟩⟩⟩ ?_
      exact hK _ _ hL h
    · have h := h.2 c4
      refine PW.aload_n g rfl rfl d_md_acted_106 ?_
      refine PW.getR (q := 132) g fi_md_40 rfl (hL 121 12 17 rfl (by decide)) d_md_acted_107 ?_
      refine PW.aload_n g rfl rfl d_md_acted_110 ?_
      refine PW.getI g fi_md_380 rfl d_md_acted_111 ?_
      refine PW.iald g rfl h.1 d_md_acted_114 ?_
      have h := h.2
      refine PW.iload_n g rfl rfl d_md_acted_115 ?_
      refine PW.icmp_ne g 160 (by decide) d_md_acted_116 (fun c5 => ?_) (fun c5 => ?_)
      · have h := h.1 c5
        refine PX.sub [some (.ref 121), some (.int f1), some (.int f2), none] ⟨rfl, ⟨rfl, ⟨rfl, trivial⟩⟩⟩ ?_
        exact hK _ _ hL h
      · have h := h.2 c5
        refine PW.aload_n g rfl rfl d_md_acted_119 ?_
        refine PW.getR (q := 131) g fi_md_37 rfl (hL 121 12 16 rfl (by decide)) d_md_acted_120 ?_
        refine PW.aload_n g rfl rfl d_md_acted_123 ?_
        refine PW.getI g fi_md_380 rfl d_md_acted_124 ?_
        refine PW.iald g rfl h.1 d_md_acted_127 ?_
        have h := h.2
        refine PW.bipush g (8) (by decide) d_md_acted_128 ?_
        refine PW.icmp_eq g 160 (by decide) d_md_acted_130 (fun c6 => ?_) (fun c6 => ?_)
        · have h := h.1 c6
          refine PX.sub [some (.ref 121), some (.int f1), some (.int f2), none] ⟨rfl, ⟨rfl, ⟨rfl, trivial⟩⟩⟩ ?_
          exact hK _ _ hL h
        · have h := h.2 c6
          refine PW.aload_n g rfl rfl d_md_acted_133 ?_
          refine PW.getR (q := 131) g fi_md_37 rfl (hL 121 12 16 rfl (by decide)) d_md_acted_134 ?_
          refine PW.aload_n g rfl rfl d_md_acted_137 ?_
          refine PW.getI g fi_md_380 rfl d_md_acted_138 ?_
          refine PW.iald g rfl h.1 d_md_acted_141 ?_
          have h := h.2
          refine PW.bipush g (9) (by decide) d_md_acted_142 ?_
          refine PW.icmp_eq g 160 (by decide) d_md_acted_144 (fun c7 => ?_) (fun c7 => ?_)
          · have h := h.1 c7
            refine PX.sub [some (.ref 121), some (.int f1), some (.int f2), none] ⟨rfl, ⟨rfl, ⟨rfl, trivial⟩⟩⟩ ?_
            exact hK _ _ hL h
          · have h := h.2 c7
            refine PW.aload_n g rfl rfl d_md_acted_147 ?_
            refine PW.dup g rfl d_md_acted_148 ?_
            refine PW.getI g fi_md_380 rfl d_md_acted_149 ?_
            refine PW.iconst g (1) (by decide) d_md_acted_152 ?_
            refine PW.iadd g d_md_acted_153 ?_
            refine PW.putI g fi_md_380 rfl rfl rfl d_md_acted_154 ?_
            refine PX.gI (fun I8 eI8 => ?_)
            have h := h _ eI8
            refine PW.goto g 90 (by decide) d_md_acted_157 ?_
            refine PX.sub [some (.ref 121), some (.int f1), some (.int f2), none] ⟨rfl, ⟨rfl, ⟨rfl, trivial⟩⟩⟩ ?_
            exact ih _ _ hL h
def l_md_acted_168 (f1 : Int32) (K : Int32 → pI → pR → Prop) (Q : Int32 → pI → pR → Prop) : Nat → Int32 → Int32 → pI → pR → Prop
  | 0, _, _, _, _ => False
  | n + 1, x2, x3, I, R => (vp_in (I 121 10) 2 ∧ (((I 147 (I 121 10).toNatClampNeg) ≤ x3 → K x2 I R) ∧ (¬ (I 147 (I 121 10).toNatClampNeg) ≤ x3 → ((¬ x2 = 0 → K x2 I R) ∧ (x2 = 0 → (vp_in x3 200 ∧ ((¬ (I 131 x3.toNatClampNeg) = (3 : Int32) → l_md_acted_168 f1 K Q n x2 (x3 + 1) I R) ∧ ((I 131 x3.toNatClampNeg) = (3 : Int32) → (vp_in x3 200 ∧ ((¬ (I 132 x3.toNatClampNeg) = f1 → l_md_acted_168 f1 K Q n x2 (x3 + 1) I R) ∧ ((I 132 x3.toNatClampNeg) = f1 → (w_md_does x3 I R (fun v1 I10 R3 => ((¬ v1 = 0 → l_md_acted_168 f1 K Q n x2 (x3 + 1) I10 R3) ∧ (v1 = 0 → l_md_acted_168 f1 K Q n (I10 121 59) (x3 + 1) I10 R3)))))))))))))))
set_option maxHeartbeats 4000000 in
set_option maxRecDepth 100000 in
theorem L_md_acted_168 (d : Nat) {f1 : Int32} {K : Int32 → pI → pR → Prop} {Q : Int32 → pI → pR → Prop} {E : pE} {B : pB} (g : pw_G m_md_acted (d + 7) 0 0 E B) (hF : pX (qi Q) E B) (hK : ∀ (y2 : Int32) (I : pI) (R : pR), pw_Lay R → K y2 I R → PX E B m_md_acted.2.2.1 224 [some (.ref 121), none, some (.int y2), none] [] I R) : ∀ (n : Nat) (x2 : Int32) (x3 : Int32) (I : pI) (R : pR), pw_Lay R → l_md_acted_168 f1 K Q n x2 x3 I R → PX E B m_md_acted.2.2.1 168 [some (.ref 121), some (.int f1), some (.int x2), some (.int x3)] [] I R := by
  intro n
  induction n with
  | zero => intro x2 x3 I R hL h; exact False.elim h
  | succ n ih =>
    intro x2 x3 I R hL h
    refine PW.iload_n g rfl rfl d_md_acted_168 ?_
    refine PW.aload_n g rfl rfl d_md_acted_169 ?_
    refine PW.getR (q := 147) g fi_md_85 rfl (hL 121 12 36 rfl (by decide)) d_md_acted_170 ?_
    refine PW.aload_n g rfl rfl d_md_acted_173 ?_
    refine PW.getI g fi_md_347 rfl d_md_acted_174 ?_
    refine PW.iald g rfl h.1 d_md_acted_177 ?_
    have h := h.2
    refine PW.icmp_ge g 224 (by decide) d_md_acted_178 (fun c8 => ?_) (fun c8 => ?_)
    · have h := h.1 c8
      refine PX.sub [some (.ref 121), none, some (.int x2), none] ⟨rfl, ⟨rfl, trivial⟩⟩ ?_
      exact hK _ _ _ hL h
    · have h := h.2 c8
      refine PW.iload_n g rfl rfl d_md_acted_181 ?_
      refine PW.if_ne g 224 (by decide) d_md_acted_182 (fun c9 => ?_) (fun c9 => ?_)
      · have h := h.1 c9
        refine PX.sub [some (.ref 121), none, some (.int x2), none] ⟨rfl, ⟨rfl, trivial⟩⟩ ?_
        exact hK _ _ _ hL h
      · have h := h.2 c9
        refine PW.aload_n g rfl rfl d_md_acted_185 ?_
        refine PW.getR (q := 131) g fi_md_37 rfl (hL 121 12 16 rfl (by decide)) d_md_acted_186 ?_
        refine PW.iload_n g rfl rfl d_md_acted_189 ?_
        refine PW.iald g rfl h.1 d_md_acted_190 ?_
        have h := h.2
        refine PW.iconst g (3) (by decide) d_md_acted_191 ?_
        refine PW.icmp_ne g 218 (by decide) d_md_acted_192 (fun c10 => ?_) (fun c10 => ?_)
        · have h := h.1 c10
          refine PW.iinc g rfl (show x3 + Int32.ofInt (1) = (x3 + 1) from congrArg (HAdd.hAdd x3) (by decide)) (by decide) rfl (L' := [some (.ref 121), some (.int f1), some (.int x2), some (.int (x3 + 1))]) rfl d_md_acted_218 ?_
          refine PW.goto g 168 (by decide) d_md_acted_221 ?_
          refine PX.sub [some (.ref 121), some (.int f1), some (.int x2), some (.int (x3 + 1))] ⟨rfl, ⟨rfl, ⟨rfl, ⟨rfl, trivial⟩⟩⟩⟩ ?_
          exact ih _ _ _ _ hL h
        · have h := h.2 c10
          refine PW.aload_n g rfl rfl d_md_acted_195 ?_
          refine PW.getR (q := 132) g fi_md_40 rfl (hL 121 12 17 rfl (by decide)) d_md_acted_196 ?_
          refine PW.iload_n g rfl rfl d_md_acted_199 ?_
          refine PW.iald g rfl h.1 d_md_acted_200 ?_
          have h := h.2
          refine PW.iload_n g rfl rfl d_md_acted_201 ?_
          refine PW.icmp_ne g 218 (by decide) d_md_acted_202 (fun c11 => ?_) (fun c11 => ?_)
          · have h := h.1 c11
            refine PW.iinc g rfl (show x3 + Int32.ofInt (1) = (x3 + 1) from congrArg (HAdd.hAdd x3) (by decide)) (by decide) rfl (L' := [some (.ref 121), some (.int f1), some (.int x2), some (.int (x3 + 1))]) rfl d_md_acted_218 ?_
            refine PW.goto g 168 (by decide) d_md_acted_221 ?_
            refine PX.sub [some (.ref 121), some (.int f1), some (.int x2), some (.int (x3 + 1))] ⟨rfl, ⟨rfl, ⟨rfl, ⟨rfl, trivial⟩⟩⟩⟩ ?_
            exact ih _ _ _ _ hL h
          · have h := h.2 c11
            refine PW.aload_n g rfl rfl d_md_acted_205 ?_
            refine PW.iload_n g rfl rfl d_md_acted_206 ?_
            refine PX.cVz [.int x3] [] g rfl ck_md (c_md_does d  hL h) cl_md_418 (by omega) (by decide) rfl rfl (Nat.le_of_ble_eq_true rfl) d_md_acted_207 (fun v1 I10 R3 hL hzv1 h => ?_)
            refine PW.if_ne g 218 (by decide) d_md_acted_210 (fun c12 => ?_) (fun c12 => ?_)
            · have h := h.1 c12
              refine PW.iinc g rfl (show x3 + Int32.ofInt (1) = (x3 + 1) from congrArg (HAdd.hAdd x3) (by decide)) (by decide) rfl (L' := [some (.ref 121), some (.int f1), some (.int x2), some (.int (x3 + 1))]) rfl d_md_acted_218 ?_
              refine PW.goto g 168 (by decide) d_md_acted_221 ?_
              refine PX.sub [some (.ref 121), some (.int f1), some (.int x2), some (.int (x3 + 1))] ⟨rfl, ⟨rfl, ⟨rfl, ⟨rfl, trivial⟩⟩⟩⟩ ?_
              exact ih _ _ _ _ hL h
            · have h := h.2 c12
              refine PW.aload_n g rfl rfl d_md_acted_213 ?_
              refine PW.getI g fi_md_368 rfl d_md_acted_214 ?_
              refine PW.istore_n g rfl (L' := [some (.ref 121), some (.int f1), some (.int (I10 121 59)), some (.int x3)]) (by decide) rfl rfl d_md_acted_217 ?_
              refine PW.iinc g rfl (show x3 + Int32.ofInt (1) = (x3 + 1) from congrArg (HAdd.hAdd x3) (by decide)) (by decide) rfl (L' := [some (.ref 121), some (.int f1), some (.int (I10 121 59)), some (.int (x3 + 1))]) rfl d_md_acted_218 ?_
              refine PW.goto g 168 (by decide) d_md_acted_221 ?_
              refine PX.sub [some (.ref 121), some (.int f1), some (.int (I10 121 59)), some (.int (x3 + 1))] ⟨rfl, ⟨rfl, ⟨rfl, ⟨rfl, trivial⟩⟩⟩⟩ ?_
              exact ih _ _ _ _ hL h
def w_md_acted (a1 : Int32) (I : pI) (R : pR) (Q : Int32 → pI → pR → Prop) : Prop := (∀ I1, I1 = pw_wI I 121 61 (1 : Int32) → (∀ I2, I2 = pw_wI I1 121 62 ((100 : Int32) * (I1 121 10)) → (vp_in (I2 121 10) 2 ∧ (∀ I3, I3 = pw_wI I2 121 63 (I2 147 (I2 121 10).toNatClampNeg) → (∃ n3, l_md_acted_36 a1 (0 : Int32) (fun I6 R1 => (∀ I7, I7 = pw_wI I6 121 63 (I6 121 62) → (∃ n2, l_md_acted_90 a1 (0 : Int32) (fun I9 R2 => (∃ n1, l_md_acted_168 a1 (fun y1 I11 R4 => (∀ I12, I12 = pw_wI I11 121 61 (0 : Int32) → Q y1 I12 R4)) Q n1 (0 : Int32) ((100 : Int32) * (I9 121 10)) I9 R2)) Q n2 I7 R1))) Q n3 (I3 121 62) I3 R)))))
set_option maxHeartbeats 4000000 in
set_option maxRecDepth 100000 in
theorem c_md_acted (d : Nat) {a1 : Int32} {I : pI} {R : pR} {Q : Int32 → pI → pR → Prop} (hL : pw_Lay R) (h : w_md_acted a1 I R Q) : Cm (d + 7) m_md_acted [.ref 121, .int a1] I R (qi Q) := by
  refine Cm.of [some (.ref 121), some (.int a1), none, none] (by decide) rfl (Nat.le_of_ble_eq_true rfl) (by simp) (fun E B g hF => ?_)
  unfold w_md_acted at h
  refine PW.iconst g (0) (by decide) d_md_acted_0 ?_
  refine PW.istore_n g rfl (L' := [some (.ref 121), some (.int a1), some (.int (0 : Int32)), none]) (by decide) rfl rfl d_md_acted_1 ?_
  refine PW.aload_n g rfl rfl d_md_acted_2 ?_
  refine PW.iconst g (1) (by decide) d_md_acted_3 ?_
  refine PW.putI g fi_md_383 rfl (pw_nb (Or.inr rfl)) (pw_fb (Or.inr rfl)) d_md_acted_4 ?_
  refine PX.gI (fun I1 eI1 => ?_)
  have h := h _ eI1
  refine PW.aload_n g rfl rfl d_md_acted_7 ?_
  refine PW.bipush g (100) (by decide) d_md_acted_8 ?_
  refine PW.aload_n g rfl rfl d_md_acted_10 ?_
  refine PW.getI g fi_md_347 rfl d_md_acted_11 ?_
  refine PW.imul g d_md_acted_14 ?_
  refine PW.putI g fi_md_377 rfl rfl rfl d_md_acted_15 ?_
  refine PX.gI (fun I2 eI2 => ?_)
  have h := h _ eI2
  refine PW.aload_n g rfl rfl d_md_acted_18 ?_
  refine PW.aload_n g rfl rfl d_md_acted_19 ?_
  refine PW.getR (q := 147) g fi_md_85 rfl (hL 121 12 36 rfl (by decide)) d_md_acted_20 ?_
  refine PW.aload_n g rfl rfl d_md_acted_23 ?_
  refine PW.getI g fi_md_347 rfl d_md_acted_24 ?_
  refine PW.iald g rfl h.1 d_md_acted_27 ?_
  have h := h.2
  refine PW.putI g fi_md_380 rfl rfl rfl d_md_acted_28 ?_
  refine PX.gI (fun I3 eI3 => ?_)
  have h := h _ eI3
  refine PW.aload_n g rfl rfl d_md_acted_31 ?_
  refine PW.getI g fi_md_377 rfl d_md_acted_32 ?_
  refine PW.istore_n g rfl (L' := [some (.ref 121), some (.int a1), some (.int (0 : Int32)), some (.int (I3 121 62))]) (by decide) rfl rfl d_md_acted_35 ?_
  refine PX.sub [some (.ref 121), some (.int a1), some (.int (0 : Int32)), some (.int (I3 121 62))] ⟨rfl, ⟨rfl, ⟨rfl, ⟨rfl, trivial⟩⟩⟩⟩ ?_
  obtain ⟨n3, h⟩ := h
  refine L_md_acted_36 d g hF (fun I6 R1 hL h => ?_) n3 (I3 121 62) I3 R hL h
  refine PW.aload_n g rfl rfl d_md_acted_82 ?_
  refine PW.aload_n g rfl rfl d_md_acted_83 ?_
  refine PW.getI g fi_md_377 rfl d_md_acted_84 ?_
  refine PW.putI g fi_md_380 rfl rfl rfl d_md_acted_87 ?_
  refine PX.gI (fun I7 eI7 => ?_)
  have h := h _ eI7
  refine PX.sub [some (.ref 121), some (.int a1), some (.int (0 : Int32)), none] ⟨rfl, ⟨rfl, ⟨rfl, trivial⟩⟩⟩ ?_
  obtain ⟨n2, h⟩ := h
  refine L_md_acted_90 d g hF (fun I9 R2 hL h => ?_) n2 I7 R1 hL h
  refine PW.bipush g (100) (by decide) d_md_acted_160 ?_
  refine PW.aload_n g rfl rfl d_md_acted_162 ?_
  refine PW.getI g fi_md_347 rfl d_md_acted_163 ?_
  refine PW.imul g d_md_acted_166 ?_
  refine PW.istore_n g rfl (L' := [some (.ref 121), some (.int a1), some (.int (0 : Int32)), some (.int ((100 : Int32) * (I9 121 10)))]) (by decide) rfl rfl d_md_acted_167 ?_
  refine PX.sub [some (.ref 121), some (.int a1), some (.int (0 : Int32)), some (.int ((100 : Int32) * (I9 121 10)))] ⟨rfl, ⟨rfl, ⟨rfl, ⟨rfl, trivial⟩⟩⟩⟩ ?_
  obtain ⟨n1, h⟩ := h
  refine L_md_acted_168 d g hF (fun y1 I11 R4 hL h => ?_) n1 (0 : Int32) ((100 : Int32) * (I9 121 10)) I9 R2 hL h
  refine PW.aload_n g rfl rfl d_md_acted_224 ?_
  refine PW.iconst g (0) (by decide) d_md_acted_225 ?_
  refine PW.putI g fi_md_383 rfl (pw_nb (Or.inl rfl)) (pw_fb (Or.inl rfl)) d_md_acted_226 ?_
  refine PX.gI (fun I12 eI12 => ?_)
  have h := h _ eI12
  refine PW.iload_n g rfl rfl d_md_acted_229 ?_
  exact PX.iret g hF rfl d_md_acted_230 hL h
