def j_md_close_104 (Q : pI → pR → Prop) (I : pI) (R : pR) : Prop := (∀ I3, I3 = pw_wI I 121 44 ((I 121 44) - (1 : Int32)) → (∀ I4, I4 = pw_wI I3 121 43 ((I3 121 43) - (1 : Int32)) → (∀ I5, I5 = pw_wI I4 121 7 ((I4 121 7) + (1 : Int32)) → (w_md_signs  I5 R (fun I6 R2 => Q I6 R2)))))
set_option maxHeartbeats 4000000 in
set_option maxRecDepth 100000 in
theorem J_md_close_104 (d : Nat) {Q : pI → pR → Prop} {E : pE} {B : pB} (g : pw_G m_md_close (d + 3) 0 0 E B) (hF : pX (qv Q) E B) {I : pI} {R : pR} (hL : pw_Lay R) (h : j_md_close_104  Q  I R) : PX E B m_md_close.2.2.1 104 [some (.ref 121), none] [] I R := by
  unfold j_md_close_104 at h
  refine PW.aload_n g rfl rfl d_md_close_104 ?_
  refine PW.dup g rfl d_md_close_105 ?_
  refine PW.getI g fi_md_251 rfl d_md_close_106 ?_
  refine PW.iconst g (1) (by decide) d_md_close_109 ?_
  refine PW.isub g d_md_close_110 ?_
  refine PW.putI g fi_md_251 rfl rfl rfl d_md_close_111 ?_
  refine PX.gI (fun I3 eI3 => ?_)
  have h := h _ eI3
  refine PW.aload_n g rfl rfl d_md_close_114 ?_
  refine PW.dup g rfl d_md_close_115 ?_
  refine PW.getI g fi_md_230 rfl d_md_close_116 ?_
  refine PW.iconst g (1) (by decide) d_md_close_119 ?_
  refine PW.isub g d_md_close_120 ?_
  refine PW.putI g fi_md_230 rfl rfl rfl d_md_close_121 ?_
  refine PX.gI (fun I4 eI4 => ?_)
  have h := h _ eI4
  refine PW.aload_n g rfl rfl d_md_close_124 ?_
  refine PW.dup g rfl d_md_close_125 ?_
  refine PW.getI g fi_md_207 rfl d_md_close_126 ?_
  refine PW.iconst g (1) (by decide) d_md_close_129 ?_
  refine PW.iadd g d_md_close_130 ?_
  refine PW.putI g fi_md_207 rfl rfl rfl d_md_close_131 ?_
  refine PX.gI (fun I5 eI5 => ?_)
  have h := h _ eI5
  refine PW.aload_n g rfl rfl d_md_close_134 ?_
  refine PX.cVv [] [] g rfl ck_md (c_md_signs d  hL h) cl_md_239 (by omega) (by decide) rfl rfl (Nat.le_of_ble_eq_true rfl) d_md_close_135 (fun I6 R2 hL h => ?_)
  exact PX.vret g hF rfl d_md_close_138 hL h
def j_md_close_57 (Q : pI → pR → Prop) (x1 : Int32) (I : pI) (R : pR) : Prop := ((¬ x1 = (202 : Int32) → (j_md_close_104 Q I R)) ∧ (x1 = (202 : Int32) → (vp_in (I 121 39) 64 ∧ (vp_in (I 152 (I 121 39).toNatClampNeg) 800 ∧ ∀ I7, I7 = pw_wI I 129 (I 152 (I 121 39).toNatClampNeg).toNatClampNeg (I 121 15) → (vp_in (I7 121 39) 64 ∧ (w_md_emit (206 : Int32) (0 : Int32) (I7 151 (I7 121 39).toNatClampNeg) I7 R (fun I8 R3 => (∀ I9, I9 = pw_wI I8 121 45 (0 : Int32) → (j_md_close_104 Q I9 R3)))))))))
set_option maxHeartbeats 4000000 in
set_option maxRecDepth 100000 in
theorem J_md_close_57 (d : Nat) {Q : pI → pR → Prop} {x1 : Int32} {E : pE} {B : pB} (g : pw_G m_md_close (d + 3) 0 0 E B) (hF : pX (qv Q) E B) {I : pI} {R : pR} (hL : pw_Lay R) (h : j_md_close_57  Q x1 I R) : PX E B m_md_close.2.2.1 57 [some (.ref 121), some (.int x1)] [] I R := by
  unfold j_md_close_57 at h
  refine PW.iload_n g rfl rfl d_md_close_57 ?_
  refine PW.sipush g (202) (by decide) d_md_close_58 ?_
  refine PW.icmp_ne g 104 (by decide) d_md_close_61 (fun c2 => ?_) (fun c2 => ?_)
  · have h := h.1 c2
    refine PX.sub [some (.ref 121), none] ⟨rfl, trivial⟩ ?_
    exact J_md_close_104 d g hF hL h
  · have h := h.2 c2
    refine PW.aload_n g rfl rfl d_md_close_64 ?_
    refine PW.getR (q := 129) g fi_md_31 rfl (hL 121 12 13 rfl (by decide)) d_md_close_65 ?_
    refine PW.aload_n g rfl rfl d_md_close_68 ?_
    refine PW.getR (q := 152) g fi_md_100 rfl (hL 121 12 42 rfl (by decide)) d_md_close_69 ?_
    refine PW.aload_n g rfl rfl d_md_close_72 ?_
    refine PW.getI g fi_md_220 rfl d_md_close_73 ?_
    refine PW.iald g rfl h.1 d_md_close_76 ?_
    have h := h.2
    refine PW.aload_n g rfl rfl d_md_close_77 ?_
    refine PW.getI g fi_md_217 rfl d_md_close_78 ?_
    refine PW.iast g rfl h.1 d_md_close_81 ?_
    refine PX.gI (fun I7 eI7 => ?_)
    have h := h.2 _ eI7
    refine PW.aload_n g rfl rfl d_md_close_82 ?_
    refine PW.sipush g (206) (by decide) d_md_close_83 ?_
    refine PW.iconst g (0) (by decide) d_md_close_86 ?_
    refine PW.aload_n g rfl rfl d_md_close_87 ?_
    refine PW.getR (q := 151) g fi_md_97 rfl (hL 121 12 41 rfl (by decide)) d_md_close_88 ?_
    refine PW.aload_n g rfl rfl d_md_close_91 ?_
    refine PW.getI g fi_md_220 rfl d_md_close_92 ?_
    refine PW.iald g rfl h.1 d_md_close_95 ?_
    have h := h.2
    refine PX.cVv [.int (206 : Int32), .int (0 : Int32), .int (I7 151 (I7 121 39).toNatClampNeg)] [] g rfl ck_md (c_md_emit d  hL h) cl_md_226 (by omega) (by decide) rfl rfl (Nat.le_of_ble_eq_true rfl) d_md_close_96 (fun I8 R3 hL h => ?_)
    refine PW.aload_n g rfl rfl d_md_close_99 ?_
    refine PW.iconst g (0) (by decide) d_md_close_100 ?_
    refine PW.putI g fi_md_248 rfl rfl rfl d_md_close_101 ?_
    refine PX.gI (fun I9 eI9 => ?_)
    have h := h _ eI9
    refine PX.sub [some (.ref 121), none] ⟨rfl, trivial⟩ ?_
    exact J_md_close_104 d g hF hL h
def w_md_close (I : pI) (R : pR) (Q : pI → pR → Prop) : Prop := (w_md_reduce (1 : Int32) I R (fun I1 R1 => (∀ I2, I2 = pw_wI I1 121 39 ((I1 121 39) - (1 : Int32)) → (vp_in (I2 121 39) 64 ∧ ((¬ (I2 150 (I2 121 39).toNatClampNeg) = (201 : Int32) → (j_md_close_57 Q (I2 150 (I2 121 39).toNatClampNeg) I2 R1)) ∧ ((I2 150 (I2 121 39).toNatClampNeg) = (201 : Int32) → (vp_in (I2 121 39) 64 ∧ (vp_in (I2 121 39) 64 ∧ (w_md_emit (201 : Int32) (I2 152 (I2 121 39).toNatClampNeg) (I2 151 (I2 121 39).toNatClampNeg) I2 R1 (fun I10 R4 => (j_md_close_57 Q (I2 150 (I2 121 39).toNatClampNeg) I10 R4)))))))))))
set_option maxHeartbeats 4000000 in
set_option maxRecDepth 100000 in
theorem c_md_close (d : Nat) {I : pI} {R : pR} {Q : pI → pR → Prop} (hL : pw_Lay R) (h : w_md_close  I R Q) : Cm (d + 3) m_md_close [.ref 121] I R (qv Q) := by
  refine Cm.of [some (.ref 121), none] (by decide) rfl (Nat.le_of_ble_eq_true rfl) (by simp) (fun E B g hF => ?_)
  unfold w_md_close at h
  refine PW.aload_n g rfl rfl d_md_close_0 ?_
  refine PW.iconst g (1) (by decide) d_md_close_1 ?_
  refine PX.cVv [.int (1 : Int32)] [] g rfl ck_md (c_md_reduce d  hL h) cl_md_258 (by omega) (by decide) rfl rfl (Nat.le_of_ble_eq_true rfl) d_md_close_2 (fun I1 R1 hL h => ?_)
  refine PW.aload_n g rfl rfl d_md_close_5 ?_
  refine PW.dup g rfl d_md_close_6 ?_
  refine PW.getI g fi_md_220 rfl d_md_close_7 ?_
  refine PW.iconst g (1) (by decide) d_md_close_10 ?_
  refine PW.isub g d_md_close_11 ?_
  refine PW.putI g fi_md_220 rfl rfl rfl d_md_close_12 ?_
  refine PX.gI (fun I2 eI2 => ?_)
  have h := h _ eI2
  refine PW.aload_n g rfl rfl d_md_close_15 ?_
  refine PW.getR (q := 150) g fi_md_94 rfl (hL 121 12 40 rfl (by decide)) d_md_close_16 ?_
  refine PW.aload_n g rfl rfl d_md_close_19 ?_
  refine PW.getI g fi_md_220 rfl d_md_close_20 ?_
  refine PW.iald g rfl h.1 d_md_close_23 ?_
  have h := h.2
  refine PW.istore_n g rfl (L' := [some (.ref 121), some (.int (I2 150 (I2 121 39).toNatClampNeg))]) (by decide) rfl rfl d_md_close_24 ?_
  refine PW.iload_n g rfl rfl d_md_close_25 ?_
  refine PW.sipush g (201) (by decide) d_md_close_26 ?_
  refine PW.icmp_ne g 57 (by decide) d_md_close_29 (fun c1 => ?_) (fun c1 => ?_)
  · have h := h.1 c1
    refine PX.sub [some (.ref 121), some (.int (I2 150 (I2 121 39).toNatClampNeg))] ⟨rfl, ⟨rfl, trivial⟩⟩ ?_
    exact J_md_close_57 d g hF hL h
  · have h := h.2 c1
    refine PW.aload_n g rfl rfl d_md_close_32 ?_
    refine PW.sipush g (201) (by decide) d_md_close_33 ?_
    refine PW.aload_n g rfl rfl d_md_close_36 ?_
    refine PW.getR (q := 152) g fi_md_100 rfl (hL 121 12 42 rfl (by decide)) d_md_close_37 ?_
    refine PW.aload_n g rfl rfl d_md_close_40 ?_
    refine PW.getI g fi_md_220 rfl d_md_close_41 ?_
    refine PW.iald g rfl h.1 d_md_close_44 ?_
    have h := h.2
    refine PW.aload_n g rfl rfl d_md_close_45 ?_
    refine PW.getR (q := 151) g fi_md_97 rfl (hL 121 12 41 rfl (by decide)) d_md_close_46 ?_
    refine PW.aload_n g rfl rfl d_md_close_49 ?_
    refine PW.getI g fi_md_220 rfl d_md_close_50 ?_
    refine PW.iald g rfl h.1 d_md_close_53 ?_
    have h := h.2
    refine PX.cVv [.int (201 : Int32), .int (I2 152 (I2 121 39).toNatClampNeg), .int (I2 151 (I2 121 39).toNatClampNeg)] [] g rfl ck_md (c_md_emit d  hL h) cl_md_226 (by omega) (by decide) rfl rfl (Nat.le_of_ble_eq_true rfl) d_md_close_54 (fun I10 R4 hL h => ?_)
    refine PX.sub [some (.ref 121), some (.int (I2 150 (I2 121 39).toNatClampNeg))] ⟨rfl, ⟨rfl, trivial⟩⟩ ?_
    exact J_md_close_57 d g hF hL h
def j_md_expression_199 (K27 : Int32 → pI → pR → Prop) (Q : Int32 → pI → pR → Prop) (f1 : Int32) (f2 : Int32) (x3 : Int32) (I : pI) (R : pR) : Prop := (((I 121 44) ≤ 0 → (((I 121 44) ≤ 0 → K27 (0 : Int32) I R) ∧ (¬ (I 121 44) ≤ 0 → (w_md_fail  I R (fun v2 I7 R2 => Q v2 I7 R2))))) ∧ (¬ (I 121 44) ≤ 0 → (vp_in (I 121 7) 128 ∧ ((¬ (I 123 (I 121 7).toNatClampNeg) = (41 : Int32) → (((I 121 44) ≤ 0 → K27 (0 : Int32) I R) ∧ (¬ (I 121 44) ≤ 0 → (w_md_fail  I R (fun v3 I8 R3 => Q v3 I8 R3))))) ∧ ((I 123 (I 121 7).toNatClampNeg) = (41 : Int32) → (w_md_close  I R (fun I9 R4 => K27 x3 I9 R4)))))))
set_option maxHeartbeats 4000000 in
set_option maxRecDepth 100000 in
theorem J_md_expression_199 (d : Nat) {K27 : Int32 → pI → pR → Prop} {Q : Int32 → pI → pR → Prop} {f1 : Int32} {f2 : Int32} {x3 : Int32} {E : pE} {B : pB} (g : pw_G m_md_expression (d + 4) 0 0 E B) (hF : pX (qz Q) E B) (hK27 : ∀ (y3 : Int32) (I : pI) (R : pR), pw_Lay R → K27 y3 I R → PX E B m_md_expression.2.2.1 27 [some (.ref 121), some (.int f1), some (.int f2), some (.int y3), none] [] I R) {I : pI} {R : pR} (hL : pw_Lay R) (h : j_md_expression_199  K27 Q f1 f2 x3 I R) : PX E B m_md_expression.2.2.1 199 [some (.ref 121), some (.int f1), some (.int f2), some (.int x3), none] [] I R := by
  unfold j_md_expression_199 at h
  refine PW.aload_n g rfl rfl d_md_expression_199 ?_
  refine PW.getI g fi_md_251 rfl d_md_expression_200 ?_
  refine PW.if_le g 227 (by decide) d_md_expression_203 (fun c4 => ?_) (fun c4 => ?_)
  · have h := h.1 c4
    refine PW.aload_n g rfl rfl d_md_expression_227 ?_
    refine PW.getI g fi_md_251 rfl d_md_expression_228 ?_
    refine PW.if_le g 239 (by decide) d_md_expression_231 (fun c5 => ?_) (fun c5 => ?_)
    · have h := h.1 c5
      refine PW.iconst g (0) (by decide) d_md_expression_239 ?_
      refine PW.istore_n g rfl (L' := [some (.ref 121), some (.int f1), some (.int f2), some (.int (0 : Int32)), none]) (by decide) rfl rfl d_md_expression_240 ?_
      refine PW.goto g 27 (by decide) d_md_expression_241 ?_
      refine PX.sub [some (.ref 121), some (.int f1), some (.int f2), some (.int (0 : Int32)), none] ⟨rfl, ⟨rfl, ⟨rfl, ⟨rfl, trivial⟩⟩⟩⟩ ?_
      exact hK27 _ _ _ hL h
    · have h := h.2 c5
      refine PW.aload_n g rfl rfl d_md_expression_234 ?_
      refine PX.cVz [] [] g rfl ck_md (c_md_fail d  hL h) cl_md_213 (by omega) (by decide) rfl rfl (Nat.le_of_ble_eq_true rfl) d_md_expression_235 (fun v2 I7 R2 hL hzv2 h => ?_)
      exact PX.zret g hF rfl hzv2 d_md_expression_238 hL h
  · have h := h.2 c4
    refine PW.aload_n g rfl rfl d_md_expression_206 ?_
    refine PW.getR (q := 123) g fi_md_13 rfl (hL 121 12 3 rfl (by decide)) d_md_expression_207 ?_
    refine PW.aload_n g rfl rfl d_md_expression_210 ?_
    refine PW.getI g fi_md_207 rfl d_md_expression_211 ?_
    refine PW.iald g rfl h.1 d_md_expression_214 ?_
    have h := h.2
    refine PW.bipush g (41) (by decide) d_md_expression_215 ?_
    refine PW.icmp_ne g 227 (by decide) d_md_expression_217 (fun c6 => ?_) (fun c6 => ?_)
    · have h := h.1 c6
      refine PW.aload_n g rfl rfl d_md_expression_227 ?_
      refine PW.getI g fi_md_251 rfl d_md_expression_228 ?_
      refine PW.if_le g 239 (by decide) d_md_expression_231 (fun c7 => ?_) (fun c7 => ?_)
      · have h := h.1 c7
        refine PW.iconst g (0) (by decide) d_md_expression_239 ?_
        refine PW.istore_n g rfl (L' := [some (.ref 121), some (.int f1), some (.int f2), some (.int (0 : Int32)), none]) (by decide) rfl rfl d_md_expression_240 ?_
        refine PW.goto g 27 (by decide) d_md_expression_241 ?_
        refine PX.sub [some (.ref 121), some (.int f1), some (.int f2), some (.int (0 : Int32)), none] ⟨rfl, ⟨rfl, ⟨rfl, ⟨rfl, trivial⟩⟩⟩⟩ ?_
        exact hK27 _ _ _ hL h
      · have h := h.2 c7
        refine PW.aload_n g rfl rfl d_md_expression_234 ?_
        refine PX.cVz [] [] g rfl ck_md (c_md_fail d  hL h) cl_md_213 (by omega) (by decide) rfl rfl (Nat.le_of_ble_eq_true rfl) d_md_expression_235 (fun v3 I8 R3 hL hzv3 h => ?_)
        exact PX.zret g hF rfl hzv3 d_md_expression_238 hL h
    · have h := h.2 c6
      refine PW.aload_n g rfl rfl d_md_expression_220 ?_
      refine PX.cVv [] [] g rfl ck_md (c_md_close d  hL h) cl_md_266 (by omega) (by decide) rfl rfl (Nat.le_of_ble_eq_true rfl) d_md_expression_221 (fun I9 R4 hL h => ?_)
      refine PW.goto g 241 (by decide) d_md_expression_224 ?_
      refine PW.goto g 27 (by decide) d_md_expression_241 ?_
      refine PX.sub [some (.ref 121), some (.int f1), some (.int f2), some (.int x3), none] ⟨rfl, ⟨rfl, ⟨rfl, ⟨rfl, trivial⟩⟩⟩⟩ ?_
      exact hK27 _ _ _ hL h
def j_md_expression_181 (K27 : Int32 → pI → pR → Prop) (Q : Int32 → pI → pR → Prop) (f1 : Int32) (f2 : Int32) (x3 : Int32) (I : pI) (R : pR) : Prop := (∀ I13, I13 = pw_wI I 121 46 (1 : Int32) → (∀ I14, I14 = pw_wI I13 121 7 ((I13 121 7) + (1 : Int32)) → K27 x3 I14 R))
set_option maxHeartbeats 4000000 in
set_option maxRecDepth 100000 in
theorem J_md_expression_181 (d : Nat) {K27 : Int32 → pI → pR → Prop} {Q : Int32 → pI → pR → Prop} {f1 : Int32} {f2 : Int32} {x3 : Int32} {E : pE} {B : pB} (g : pw_G m_md_expression (d + 4) 0 0 E B) (hF : pX (qz Q) E B) (hK27 : ∀ (y3 : Int32) (I : pI) (R : pR), pw_Lay R → K27 y3 I R → PX E B m_md_expression.2.2.1 27 [some (.ref 121), some (.int f1), some (.int f2), some (.int y3), none] [] I R) {I : pI} {R : pR} (hL : pw_Lay R) (h : j_md_expression_181  K27 Q f1 f2 x3 I R) : PX E B m_md_expression.2.2.1 181 [some (.ref 121), some (.int f1), some (.int f2), some (.int x3), none] [] I R := by
  unfold j_md_expression_181 at h
  refine PW.aload_n g rfl rfl d_md_expression_181 ?_
  refine PW.iconst g (1) (by decide) d_md_expression_182 ?_
  refine PW.putI g fi_md_254 rfl (pw_nb (Or.inr rfl)) (pw_fb (Or.inr rfl)) d_md_expression_183 ?_
  refine PX.gI (fun I13 eI13 => ?_)
  have h := h _ eI13
  refine PW.aload_n g rfl rfl d_md_expression_186 ?_
  refine PW.dup g rfl d_md_expression_187 ?_
  refine PW.getI g fi_md_207 rfl d_md_expression_188 ?_
  refine PW.iconst g (1) (by decide) d_md_expression_191 ?_
  refine PW.iadd g d_md_expression_192 ?_
  refine PW.putI g fi_md_207 rfl rfl rfl d_md_expression_193 ?_
  refine PX.gI (fun I14 eI14 => ?_)
  have h := h _ eI14
  refine PW.goto g 241 (by decide) d_md_expression_196 ?_
  refine PW.goto g 27 (by decide) d_md_expression_241 ?_
  refine PX.sub [some (.ref 121), some (.int f1), some (.int f2), some (.int x3), none] ⟨rfl, ⟨rfl, ⟨rfl, ⟨rfl, trivial⟩⟩⟩⟩ ?_
  exact hK27 _ _ _ hL h
def j_md_expression_132 (K27 : Int32 → pI → pR → Prop) (Q : Int32 → pI → pR → Prop) (f1 : Int32) (f2 : Int32) (x3 : Int32) (x4 : Int32) (I : pI) (R : pR) : Prop := (vp_in (I 121 7) 128 ∧ (vp_in (I 121 7) 128 ∧ (w_md_push (I 123 (I 121 7).toNatClampNeg) (I 125 (I 121 7).toNatClampNeg) (I 121 15) I R (fun I12 R7 => (((3 : Int32) ≤ x4 → (j_md_expression_181 (fun y2 I15 R8 => K27 y2 I15 R8) Q f1 f2 x3 I12 R7)) ∧ (¬ (3 : Int32) ≤ x4 → (vp_in (I12 121 7) 128 ∧ (w_md_emit (205 : Int32) (0 : Int32) (I12 125 (I12 121 7).toNatClampNeg) I12 R7 (fun I16 R9 => (j_md_expression_181 (fun y3 I17 R10 => K27 y3 I17 R10) Q f1 f2 x3 I16 R9))))))))))
set_option maxHeartbeats 4000000 in
set_option maxRecDepth 100000 in
theorem J_md_expression_132 (d : Nat) {K27 : Int32 → pI → pR → Prop} {Q : Int32 → pI → pR → Prop} {f1 : Int32} {f2 : Int32} {x3 : Int32} {x4 : Int32} {E : pE} {B : pB} (g : pw_G m_md_expression (d + 4) 0 0 E B) (hF : pX (qz Q) E B) (hK27 : ∀ (y3 : Int32) (I : pI) (R : pR), pw_Lay R → K27 y3 I R → PX E B m_md_expression.2.2.1 27 [some (.ref 121), some (.int f1), some (.int f2), some (.int y3), none] [] I R) {I : pI} {R : pR} (hL : pw_Lay R) (h : j_md_expression_132  K27 Q f1 f2 x3 x4 I R) : PX E B m_md_expression.2.2.1 132 [some (.ref 121), some (.int f1), some (.int f2), some (.int x3), some (.int x4)] [] I R := by
  unfold j_md_expression_132 at h
  refine PW.aload_n g rfl rfl d_md_expression_132 ?_
  refine PW.aload_n g rfl rfl d_md_expression_133 ?_
  refine PW.getR (q := 123) g fi_md_13 rfl (hL 121 12 3 rfl (by decide)) d_md_expression_134 ?_
  refine PW.aload_n g rfl rfl d_md_expression_137 ?_
  refine PW.getI g fi_md_207 rfl d_md_expression_138 ?_
  refine PW.iald g rfl h.1 d_md_expression_141 ?_
  have h := h.2
  refine PW.aload_n g rfl rfl d_md_expression_142 ?_
  refine PW.getR (q := 125) g fi_md_19 rfl (hL 121 12 5 rfl (by decide)) d_md_expression_143 ?_
  refine PW.aload_n g rfl rfl d_md_expression_146 ?_
  refine PW.getI g fi_md_207 rfl d_md_expression_147 ?_
  refine PW.iald g rfl h.1 d_md_expression_150 ?_
  have h := h.2
  refine PW.aload_n g rfl rfl d_md_expression_151 ?_
  refine PW.getI g fi_md_217 rfl d_md_expression_152 ?_
  refine PX.cVv [.int (I 123 (I 121 7).toNatClampNeg), .int (I 125 (I 121 7).toNatClampNeg), .int (I 121 15)] [] g rfl ck_md (c_md_push d  hL h) cl_md_245 (by omega) (by decide) rfl rfl (Nat.le_of_ble_eq_true rfl) d_md_expression_155 (fun I12 R7 hL h => ?_)
  refine PW.iload g rfl d_md_expression_158 ?_
  refine PW.iconst g (3) (by decide) d_md_expression_160 ?_
  refine PW.icmp_ge g 181 (by decide) d_md_expression_161 (fun c11 => ?_) (fun c11 => ?_)
  · have h := h.1 c11
    refine PX.sub [some (.ref 121), some (.int f1), some (.int f2), some (.int x3), none] ⟨rfl, ⟨rfl, ⟨rfl, ⟨rfl, trivial⟩⟩⟩⟩ ?_
    refine J_md_expression_181 d g hF (fun y2 I15 R8 hL h => ?_) hL h
    refine PX.sub [some (.ref 121), some (.int f1), some (.int f2), some (.int y2), none] ⟨rfl, ⟨rfl, ⟨rfl, ⟨rfl, trivial⟩⟩⟩⟩ ?_
    exact hK27 _ _ _ hL h
  · have h := h.2 c11
    refine PW.aload_n g rfl rfl d_md_expression_164 ?_
    refine PW.sipush g (205) (by decide) d_md_expression_165 ?_
    refine PW.iconst g (0) (by decide) d_md_expression_168 ?_
    refine PW.aload_n g rfl rfl d_md_expression_169 ?_
    refine PW.getR (q := 125) g fi_md_19 rfl (hL 121 12 5 rfl (by decide)) d_md_expression_170 ?_
    refine PW.aload_n g rfl rfl d_md_expression_173 ?_
    refine PW.getI g fi_md_207 rfl d_md_expression_174 ?_
    refine PW.iald g rfl h.1 d_md_expression_177 ?_
    have h := h.2
    refine PX.cVv [.int (205 : Int32), .int (0 : Int32), .int (I12 125 (I12 121 7).toNatClampNeg)] [] g rfl ck_md (c_md_emit d  hL h) cl_md_226 (by omega) (by decide) rfl rfl (Nat.le_of_ble_eq_true rfl) d_md_expression_178 (fun I16 R9 hL h => ?_)
    refine PX.sub [some (.ref 121), some (.int f1), some (.int f2), some (.int x3), none] ⟨rfl, ⟨rfl, ⟨rfl, ⟨rfl, trivial⟩⟩⟩⟩ ?_
    refine J_md_expression_181 d g hF (fun y3 I17 R10 hL h => ?_) hL h
    refine PX.sub [some (.ref 121), some (.int f1), some (.int f2), some (.int y3), none] ⟨rfl, ⟨rfl, ⟨rfl, ⟨rfl, trivial⟩⟩⟩⟩ ?_
    exact hK27 _ _ _ hL h
def j_md_expression_93 (K27 : Int32 → pI → pR → Prop) (Q : Int32 → pI → pR → Prop) (f1 : Int32) (f2 : Int32) (x3 : Int32) (x4 : Int32) (s1 : Int32) (I : pI) (R : pR) : Prop := (w_md_reduce s1 I R (fun I11 R6 => ((¬ x4 = (3 : Int32) → (j_md_expression_132 (fun y4 I18 R11 => K27 y4 I18 R11) Q f1 f2 x3 x4 I11 R6)) ∧ (x4 = (3 : Int32) → (((I11 121 39) ≤ 0 → (j_md_expression_132 (fun y5 I19 R12 => K27 y5 I19 R12) Q f1 f2 x3 x4 I11 R6)) ∧ (¬ (I11 121 39) ≤ 0 → (vp_in ((I11 121 39) - (1 : Int32)) 64 ∧ (w_md_rank (I11 150 ((I11 121 39) - (1 : Int32)).toNatClampNeg) I11 R6 (fun v8 I20 R13 => ((¬ v8 = (3 : Int32) → (j_md_expression_132 (fun y6 I21 R14 => K27 y6 I21 R14) Q f1 f2 x3 x4 I20 R13)) ∧ (v8 = (3 : Int32) → (w_md_fail  I20 R13 (fun v9 I22 R15 => Q v9 I22 R15)))))))))))))
set_option maxHeartbeats 4000000 in
set_option maxRecDepth 100000 in
theorem J_md_expression_93 (d : Nat) {K27 : Int32 → pI → pR → Prop} {Q : Int32 → pI → pR → Prop} {f1 : Int32} {f2 : Int32} {x3 : Int32} {x4 : Int32} {s1 : Int32} {E : pE} {B : pB} (g : pw_G m_md_expression (d + 4) 0 0 E B) (hF : pX (qz Q) E B) (hK27 : ∀ (y3 : Int32) (I : pI) (R : pR), pw_Lay R → K27 y3 I R → PX E B m_md_expression.2.2.1 27 [some (.ref 121), some (.int f1), some (.int f2), some (.int y3), none] [] I R) {I : pI} {R : pR} (hL : pw_Lay R) (h : j_md_expression_93  K27 Q f1 f2 x3 x4 s1 I R) : PX E B m_md_expression.2.2.1 93 [some (.ref 121), some (.int f1), some (.int f2), some (.int x3), some (.int x4)] [.int s1, .ref 121] I R := by
  unfold j_md_expression_93 at h
  refine PX.cVv [.int s1] [] g rfl ck_md (c_md_reduce d  hL h) cl_md_258 (by omega) (by decide) rfl rfl (Nat.le_of_ble_eq_true rfl) d_md_expression_93 (fun I11 R6 hL h => ?_)
  refine PW.iload g rfl d_md_expression_96 ?_
  refine PW.iconst g (3) (by decide) d_md_expression_98 ?_
  refine PW.icmp_ne g 132 (by decide) d_md_expression_99 (fun c10 => ?_) (fun c10 => ?_)
  · have h := h.1 c10
    refine PX.sub [some (.ref 121), some (.int f1), some (.int f2), some (.int x3), some (.int x4)] ⟨rfl, ⟨rfl, ⟨rfl, ⟨rfl, ⟨rfl, trivial⟩⟩⟩⟩⟩ ?_
    refine J_md_expression_132 d g hF (fun y4 I18 R11 hL h => ?_) hL h
    refine PX.sub [some (.ref 121), some (.int f1), some (.int f2), some (.int y4), none] ⟨rfl, ⟨rfl, ⟨rfl, ⟨rfl, trivial⟩⟩⟩⟩ ?_
    exact hK27 _ _ _ hL h
  · have h := h.2 c10
    refine PW.aload_n g rfl rfl d_md_expression_102 ?_
    refine PW.getI g fi_md_220 rfl d_md_expression_103 ?_
    refine PW.if_le g 132 (by decide) d_md_expression_106 (fun c12 => ?_) (fun c12 => ?_)
    · have h := h.1 c12
      refine PX.sub [some (.ref 121), some (.int f1), some (.int f2), some (.int x3), some (.int x4)] ⟨rfl, ⟨rfl, ⟨rfl, ⟨rfl, ⟨rfl, trivial⟩⟩⟩⟩⟩ ?_
      refine J_md_expression_132 d g hF (fun y5 I19 R12 hL h => ?_) hL h
      refine PX.sub [some (.ref 121), some (.int f1), some (.int f2), some (.int y5), none] ⟨rfl, ⟨rfl, ⟨rfl, ⟨rfl, trivial⟩⟩⟩⟩ ?_
      exact hK27 _ _ _ hL h
    · have h := h.2 c12
      refine PW.aload_n g rfl rfl d_md_expression_109 ?_
      refine PW.getR (q := 150) g fi_md_94 rfl (hL 121 12 40 rfl (by decide)) d_md_expression_110 ?_
      refine PW.aload_n g rfl rfl d_md_expression_113 ?_
      refine PW.getI g fi_md_220 rfl d_md_expression_114 ?_
      refine PW.iconst g (1) (by decide) d_md_expression_117 ?_
      refine PW.isub g d_md_expression_118 ?_
      refine PW.iald g rfl h.1 d_md_expression_119 ?_
      have h := h.2
      refine PX.cSi [.int (I11 150 ((I11 121 39) - (1 : Int32)).toNatClampNeg)] [] g (c_md_rank d  hL h) cl_md_223 (by omega) (by decide) rfl rfl (Nat.le_of_ble_eq_true rfl) d_md_expression_120 (fun v8 I20 R13 hL h => ?_)
      refine PW.iconst g (3) (by decide) d_md_expression_123 ?_
      refine PW.icmp_ne g 132 (by decide) d_md_expression_124 (fun c13 => ?_) (fun c13 => ?_)
      · have h := h.1 c13
        refine PX.sub [some (.ref 121), some (.int f1), some (.int f2), some (.int x3), some (.int x4)] ⟨rfl, ⟨rfl, ⟨rfl, ⟨rfl, ⟨rfl, trivial⟩⟩⟩⟩⟩ ?_
        refine J_md_expression_132 d g hF (fun y6 I21 R14 hL h => ?_) hL h
        refine PX.sub [some (.ref 121), some (.int f1), some (.int f2), some (.int y6), none] ⟨rfl, ⟨rfl, ⟨rfl, ⟨rfl, trivial⟩⟩⟩⟩ ?_
        exact hK27 _ _ _ hL h
      · have h := h.2 c13
        refine PW.aload_n g rfl rfl d_md_expression_127 ?_
        refine PX.cVz [] [] g rfl ck_md (c_md_fail d  hL h) cl_md_213 (by omega) (by decide) rfl rfl (Nat.le_of_ble_eq_true rfl) d_md_expression_128 (fun v9 I22 R15 hL hzv9 h => ?_)
        exact PX.zret g hF rfl hzv9 d_md_expression_131 hL h
def j_md_expression_80 (K27 : Int32 → pI → pR → Prop) (Q : Int32 → pI → pR → Prop) (f1 : Int32) (f2 : Int32) (x3 : Int32) (x4 : Int32) (I : pI) (R : pR) : Prop := ((¬ x4 = (3 : Int32) → (j_md_expression_93 (fun y7 I23 R16 => K27 y7 I23 R16) Q f1 f2 x3 x4 x4 I R)) ∧ (x4 = (3 : Int32) → (j_md_expression_93 (fun y8 I24 R17 => K27 y8 I24 R17) Q f1 f2 x3 x4 (4 : Int32) I R)))
set_option maxHeartbeats 4000000 in
set_option maxRecDepth 100000 in
theorem J_md_expression_80 (d : Nat) {K27 : Int32 → pI → pR → Prop} {Q : Int32 → pI → pR → Prop} {f1 : Int32} {f2 : Int32} {x3 : Int32} {x4 : Int32} {E : pE} {B : pB} (g : pw_G m_md_expression (d + 4) 0 0 E B) (hF : pX (qz Q) E B) (hK27 : ∀ (y3 : Int32) (I : pI) (R : pR), pw_Lay R → K27 y3 I R → PX E B m_md_expression.2.2.1 27 [some (.ref 121), some (.int f1), some (.int f2), some (.int y3), none] [] I R) {I : pI} {R : pR} (hL : pw_Lay R) (h : j_md_expression_80  K27 Q f1 f2 x3 x4 I R) : PX E B m_md_expression.2.2.1 80 [some (.ref 121), some (.int f1), some (.int f2), some (.int x3), some (.int x4)] [] I R := by
  unfold j_md_expression_80 at h
  refine PW.aload_n g rfl rfl d_md_expression_80 ?_
  refine PW.iload g rfl d_md_expression_81 ?_
  refine PW.iconst g (3) (by decide) d_md_expression_83 ?_
  refine PW.icmp_ne g 91 (by decide) d_md_expression_84 (fun c9 => ?_) (fun c9 => ?_)
  · have h := h.1 c9
    refine PW.iload g rfl d_md_expression_91 ?_
    refine PX.sub [some (.ref 121), some (.int f1), some (.int f2), some (.int x3), some (.int x4)] ⟨rfl, ⟨rfl, ⟨rfl, ⟨rfl, ⟨rfl, trivial⟩⟩⟩⟩⟩ ?_
    refine J_md_expression_93 d g hF (fun y7 I23 R16 hL h => ?_) hL h
    refine PX.sub [some (.ref 121), some (.int f1), some (.int f2), some (.int y7), none] ⟨rfl, ⟨rfl, ⟨rfl, ⟨rfl, trivial⟩⟩⟩⟩ ?_
    exact hK27 _ _ _ hL h
  · have h := h.2 c9
    refine PW.iconst g (4) (by decide) d_md_expression_87 ?_
    refine PW.goto g 93 (by decide) d_md_expression_88 ?_
    refine PX.sub [some (.ref 121), some (.int f1), some (.int f2), some (.int x3), some (.int x4)] ⟨rfl, ⟨rfl, ⟨rfl, ⟨rfl, ⟨rfl, trivial⟩⟩⟩⟩⟩ ?_
    refine J_md_expression_93 d g hF (fun y8 I24 R17 hL h => ?_) hL h
    refine PX.sub [some (.ref 121), some (.int f1), some (.int f2), some (.int y8), none] ⟨rfl, ⟨rfl, ⟨rfl, ⟨rfl, trivial⟩⟩⟩⟩ ?_
    exact hK27 _ _ _ hL h
def l_md_expression_27 (f1 : Int32) (f2 : Int32) (K : pI → pR → Prop) (Q : Int32 → pI → pR → Prop) : Nat → Int32 → pI → pR → Prop
  | 0, _, _, _ => False
  | n + 1, x3, I, R => ((x3 = 0 → K I R) ∧ (¬ x3 = 0 → (vp_in (I 121 7) 128 ∧ (w_md_rank (I 123 (I 121 7).toNatClampNeg) I R (fun v1 I6 R1 => (((I6 121 46) = 0 → ((v1 ≤ 0 → (j_md_expression_199 (fun y1 I10 R5 => l_md_expression_27 f1 f2 K Q n y1 I10 R5) Q f1 f2 x3 I6 R1)) ∧ (¬ v1 ≤ 0 → ((0 < (I6 121 44) → (j_md_expression_80 (fun y9 I25 R18 => l_md_expression_27 f1 f2 K Q n y9 I25 R18) Q f1 f2 x3 v1 I6 R1)) ∧ (¬ 0 < (I6 121 44) → ((v1 < f1 → (j_md_expression_199 (fun y10 I26 R19 => l_md_expression_27 f1 f2 K Q n y10 I26 R19) Q f1 f2 x3 I6 R1)) ∧ (¬ v1 < f1 → (j_md_expression_80 (fun y11 I27 R20 => l_md_expression_27 f1 f2 K Q n y11 I27 R20) Q f1 f2 x3 v1 I6 R1)))))))) ∧ (¬ (I6 121 46) = 0 → (w_md_operand f2 I6 R1 (fun v10 I28 R21 => ((¬ v10 = 0 → l_md_expression_27 f1 f2 K Q n x3 I28 R21) ∧ (v10 = 0 → Q (0 : Int32) I28 R21)))))))))))
set_option maxHeartbeats 4000000 in
set_option maxRecDepth 100000 in
theorem L_md_expression_27 (d : Nat) {f1 : Int32} {f2 : Int32} {K : pI → pR → Prop} {Q : Int32 → pI → pR → Prop} {E : pE} {B : pB} (g : pw_G m_md_expression (d + 4) 0 0 E B) (hF : pX (qz Q) E B) (hK : ∀ (I : pI) (R : pR), pw_Lay R → K  I R → PX E B m_md_expression.2.2.1 244 [some (.ref 121), none, none, none, none] [] I R) : ∀ (n : Nat) (x3 : Int32) (I : pI) (R : pR), pw_Lay R → l_md_expression_27 f1 f2 K Q n x3 I R → PX E B m_md_expression.2.2.1 27 [some (.ref 121), some (.int f1), some (.int f2), some (.int x3), none] [] I R := by
  intro n
  induction n with
  | zero => intro x3 I R hL h; exact False.elim h
  | succ n ih =>
    intro x3 I R hL h
    refine PW.iload_n g rfl rfl d_md_expression_27 ?_
    refine PW.if_eq g 244 (by decide) d_md_expression_28 (fun c1 => ?_) (fun c1 => ?_)
    · have h := h.1 c1
      refine PX.sub [some (.ref 121), none, none, none, none] ⟨rfl, trivial⟩ ?_
      exact hK _ _ hL h
    · have h := h.2 c1
      refine PW.aload_n g rfl rfl d_md_expression_31 ?_
      refine PW.getR (q := 123) g fi_md_13 rfl (hL 121 12 3 rfl (by decide)) d_md_expression_32 ?_
      refine PW.aload_n g rfl rfl d_md_expression_35 ?_
      refine PW.getI g fi_md_207 rfl d_md_expression_36 ?_
      refine PW.iald g rfl h.1 d_md_expression_39 ?_
      have h := h.2
      refine PX.cSi [.int (I 123 (I 121 7).toNatClampNeg)] [] g (c_md_rank d  hL h) cl_md_223 (by omega) (by decide) rfl rfl (Nat.le_of_ble_eq_true rfl) d_md_expression_40 (fun v1 I6 R1 hL h => ?_)
      refine PW.istore g (L' := [some (.ref 121), some (.int f1), some (.int f2), some (.int x3), some (.int v1)]) (by decide) rfl rfl d_md_expression_43 ?_
      refine PW.aload_n g rfl rfl d_md_expression_45 ?_
      refine PW.getI g fi_md_254 rfl d_md_expression_46 ?_
      refine PW.if_eq g 62 (by decide) d_md_expression_49 (fun c2 => ?_) (fun c2 => ?_)
      · have h := h.1 c2
        refine PW.iload g rfl d_md_expression_62 ?_
        refine PW.if_le g 199 (by decide) d_md_expression_64 (fun c3 => ?_) (fun c3 => ?_)
        · have h := h.1 c3
          refine PX.sub [some (.ref 121), some (.int f1), some (.int f2), some (.int x3), none] ⟨rfl, ⟨rfl, ⟨rfl, ⟨rfl, trivial⟩⟩⟩⟩ ?_
          refine J_md_expression_199 d g hF (fun y1 I10 R5 hL h => ?_) hL h
          refine PX.sub [some (.ref 121), some (.int f1), some (.int f2), some (.int y1), none] ⟨rfl, ⟨rfl, ⟨rfl, ⟨rfl, trivial⟩⟩⟩⟩ ?_
          exact ih _ _ _ hL h
        · have h := h.2 c3
          refine PW.aload_n g rfl rfl d_md_expression_67 ?_
          refine PW.getI g fi_md_251 rfl d_md_expression_68 ?_
          refine PW.if_gt g 80 (by decide) d_md_expression_71 (fun c8 => ?_) (fun c8 => ?_)
          · have h := h.1 c8
            refine PX.sub [some (.ref 121), some (.int f1), some (.int f2), some (.int x3), some (.int v1)] ⟨rfl, ⟨rfl, ⟨rfl, ⟨rfl, ⟨rfl, trivial⟩⟩⟩⟩⟩ ?_
            refine J_md_expression_80 d g hF (fun y9 I25 R18 hL h => ?_) hL h
            refine PX.sub [some (.ref 121), some (.int f1), some (.int f2), some (.int y9), none] ⟨rfl, ⟨rfl, ⟨rfl, ⟨rfl, trivial⟩⟩⟩⟩ ?_
            exact ih _ _ _ hL h
          · have h := h.2 c8
            refine PW.iload g rfl d_md_expression_74 ?_
            refine PW.iload_n g rfl rfl d_md_expression_76 ?_
            refine PW.icmp_lt g 199 (by decide) d_md_expression_77 (fun c14 => ?_) (fun c14 => ?_)
            · have h := h.1 c14
              refine PX.sub [some (.ref 121), some (.int f1), some (.int f2), some (.int x3), none] ⟨rfl, ⟨rfl, ⟨rfl, ⟨rfl, trivial⟩⟩⟩⟩ ?_
              refine J_md_expression_199 d g hF (fun y10 I26 R19 hL h => ?_) hL h
              refine PX.sub [some (.ref 121), some (.int f1), some (.int f2), some (.int y10), none] ⟨rfl, ⟨rfl, ⟨rfl, ⟨rfl, trivial⟩⟩⟩⟩ ?_
              exact ih _ _ _ hL h
            · have h := h.2 c14
              refine PX.sub [some (.ref 121), some (.int f1), some (.int f2), some (.int x3), some (.int v1)] ⟨rfl, ⟨rfl, ⟨rfl, ⟨rfl, ⟨rfl, trivial⟩⟩⟩⟩⟩ ?_
              refine J_md_expression_80 d g hF (fun y11 I27 R20 hL h => ?_) hL h
              refine PX.sub [some (.ref 121), some (.int f1), some (.int f2), some (.int y11), none] ⟨rfl, ⟨rfl, ⟨rfl, ⟨rfl, trivial⟩⟩⟩⟩ ?_
              exact ih _ _ _ hL h
      · have h := h.2 c2
        refine PW.aload_n g rfl rfl d_md_expression_52 ?_
        refine PW.iload_n g rfl rfl d_md_expression_53 ?_
        refine PX.cVz [.int f2] [] g rfl ck_md (c_md_operand d  hL h) cl_md_262 (by omega) (by decide) rfl rfl (Nat.le_of_ble_eq_true rfl) d_md_expression_54 (fun v10 I28 R21 hL hzv10 h => ?_)
        refine PW.if_ne g 241 (by decide) d_md_expression_57 (fun c15 => ?_) (fun c15 => ?_)
        · have h := h.1 c15
          refine PW.goto g 27 (by decide) d_md_expression_241 ?_
          refine PX.sub [some (.ref 121), some (.int f1), some (.int f2), some (.int x3), none] ⟨rfl, ⟨rfl, ⟨rfl, ⟨rfl, trivial⟩⟩⟩⟩ ?_
          exact ih _ _ _ hL h
        · have h := h.2 c15
          refine PW.iconst g (0) (by decide) d_md_expression_60 ?_
          exact PX.zret g hF rfl (Or.inl rfl) d_md_expression_61 hL h
def w_md_expression (a1 : Int32) (a2 : Int32) (I : pI) (R : pR) (Q : Int32 → pI → pR → Prop) : Prop := (∀ I1, I1 = pw_wI I 121 39 (0 : Int32) → (∀ I2, I2 = pw_wI I1 121 43 (0 : Int32) → (∀ I3, I3 = pw_wI I2 121 44 (0 : Int32) → (∀ I4, I4 = pw_wI I3 121 45 (0 : Int32) → (∀ I5, I5 = pw_wI I4 121 46 (1 : Int32) → (∃ n1, l_md_expression_27 a1 a2 (fun I29 R22 => (w_md_reduce (1 : Int32) I29 R22 (fun I30 R23 => Q (1 : Int32) I30 R23))) Q n1 (1 : Int32) I5 R))))))
set_option maxHeartbeats 4000000 in
set_option maxRecDepth 100000 in
theorem c_md_expression (d : Nat) {a1 : Int32} {a2 : Int32} {I : pI} {R : pR} {Q : Int32 → pI → pR → Prop} (hL : pw_Lay R) (h : w_md_expression a1 a2 I R Q) : Cm (d + 4) m_md_expression [.ref 121, .int a1, .int a2] I R (qz Q) := by
  refine Cm.of [some (.ref 121), some (.int a1), some (.int a2), none, none] (by decide) rfl (Nat.le_of_ble_eq_true rfl) (by simp) (fun E B g hF => ?_)
  unfold w_md_expression at h
  refine PW.aload_n g rfl rfl d_md_expression_0 ?_
  refine PW.iconst g (0) (by decide) d_md_expression_1 ?_
  refine PW.putI g fi_md_220 rfl rfl rfl d_md_expression_2 ?_
  refine PX.gI (fun I1 eI1 => ?_)
  have h := h _ eI1
  refine PW.aload_n g rfl rfl d_md_expression_5 ?_
  refine PW.iconst g (0) (by decide) d_md_expression_6 ?_
  refine PW.putI g fi_md_230 rfl rfl rfl d_md_expression_7 ?_
  refine PX.gI (fun I2 eI2 => ?_)
  have h := h _ eI2
  refine PW.aload_n g rfl rfl d_md_expression_10 ?_
  refine PW.iconst g (0) (by decide) d_md_expression_11 ?_
  refine PW.putI g fi_md_251 rfl rfl rfl d_md_expression_12 ?_
  refine PX.gI (fun I3 eI3 => ?_)
  have h := h _ eI3
  refine PW.aload_n g rfl rfl d_md_expression_15 ?_
  refine PW.iconst g (0) (by decide) d_md_expression_16 ?_
  refine PW.putI g fi_md_248 rfl rfl rfl d_md_expression_17 ?_
  refine PX.gI (fun I4 eI4 => ?_)
  have h := h _ eI4
  refine PW.aload_n g rfl rfl d_md_expression_20 ?_
  refine PW.iconst g (1) (by decide) d_md_expression_21 ?_
  refine PW.putI g fi_md_254 rfl (pw_nb (Or.inr rfl)) (pw_fb (Or.inr rfl)) d_md_expression_22 ?_
  refine PX.gI (fun I5 eI5 => ?_)
  have h := h _ eI5
  refine PW.iconst g (1) (by decide) d_md_expression_25 ?_
  refine PW.istore_n g rfl (L' := [some (.ref 121), some (.int a1), some (.int a2), some (.int (1 : Int32)), none]) (by decide) rfl rfl d_md_expression_26 ?_
  refine PX.sub [some (.ref 121), some (.int a1), some (.int a2), some (.int (1 : Int32)), none] ⟨rfl, ⟨rfl, ⟨rfl, ⟨rfl, trivial⟩⟩⟩⟩ ?_
  obtain ⟨n1, h⟩ := h
  refine L_md_expression_27 d g hF (fun I29 R22 hL h => ?_) n1 (1 : Int32) I5 R hL h
  refine PW.aload_n g rfl rfl d_md_expression_244 ?_
  refine PW.iconst g (1) (by decide) d_md_expression_245 ?_
  refine PX.cVv [.int (1 : Int32)] [] g rfl ck_md (c_md_reduce d  hL h) cl_md_258 (by omega) (by decide) rfl rfl (Nat.le_of_ble_eq_true rfl) d_md_expression_246 (fun I30 R23 hL h => ?_)
  refine PW.iconst g (1) (by decide) d_md_expression_249 ?_
  exact PX.zret g hF rfl (Or.inr rfl) d_md_expression_250 hL h
def w_md_found (a1 : Int32) (a2 : Int32) (I : pI) (R : pR) (Q : pI → pR → Prop) : Prop := (((I 121 55) = 0 → (∀ I1, I1 = pw_wI I 121 55 a1 → (∀ I2, I2 = pw_wI I1 121 56 a2 → Q I2 R))) ∧ (¬ (I 121 55) = 0 → ((a2 < (I 121 56) → (∀ I3, I3 = pw_wI I 121 55 a1 → (∀ I4, I4 = pw_wI I3 121 56 a2 → Q I4 R))) ∧ (¬ a2 < (I 121 56) → ((¬ a2 = (I 121 56) → Q I R) ∧ (a2 = (I 121 56) → (((I 121 55) ≤ a1 → Q I R) ∧ (¬ (I 121 55) ≤ a1 → (∀ I5, I5 = pw_wI I 121 55 a1 → (∀ I6, I6 = pw_wI I5 121 56 a2 → Q I6 R))))))))))
set_option maxHeartbeats 4000000 in
set_option maxRecDepth 100000 in
theorem c_md_found (d : Nat) {a1 : Int32} {a2 : Int32} {I : pI} {R : pR} {Q : pI → pR → Prop} (hL : pw_Lay R) (h : w_md_found a1 a2 I R Q) : Cm (d + 1) m_md_found [.ref 121, .int a1, .int a2] I R (qv Q) := by
  refine Cm.of [some (.ref 121), some (.int a1), some (.int a2)] (by decide) rfl (Nat.le_of_ble_eq_true rfl) (by simp) (fun E B g hF => ?_)
  unfold w_md_found at h
  refine PW.aload_n g rfl rfl d_md_found_0 ?_
  refine PW.getI g fi_md_272 rfl d_md_found_1 ?_
  refine PW.if_eq g 31 (by decide) d_md_found_4 (fun c1 => ?_) (fun c1 => ?_)
  · have h := h.1 c1
    refine PW.aload_n g rfl rfl d_md_found_31 ?_
    refine PW.iload_n g rfl rfl d_md_found_32 ?_
    refine PW.putI g fi_md_272 rfl rfl rfl d_md_found_33 ?_
    refine PX.gI (fun I1 eI1 => ?_)
    have h := h _ eI1
    refine PW.aload_n g rfl rfl d_md_found_36 ?_
    refine PW.iload_n g rfl rfl d_md_found_37 ?_
    refine PW.putI g fi_md_118 rfl rfl rfl d_md_found_38 ?_
    refine PX.gI (fun I2 eI2 => ?_)
    have h := h _ eI2
    exact PX.vret g hF rfl d_md_found_41 hL h
  · have h := h.2 c1
    refine PW.iload_n g rfl rfl d_md_found_7 ?_
    refine PW.aload_n g rfl rfl d_md_found_8 ?_
    refine PW.getI g fi_md_118 rfl d_md_found_9 ?_
    refine PW.icmp_lt g 31 (by decide) d_md_found_12 (fun c2 => ?_) (fun c2 => ?_)
    · have h := h.1 c2
      refine PW.aload_n g rfl rfl d_md_found_31 ?_
      refine PW.iload_n g rfl rfl d_md_found_32 ?_
      refine PW.putI g fi_md_272 rfl rfl rfl d_md_found_33 ?_
      refine PX.gI (fun I3 eI3 => ?_)
      have h := h _ eI3
      refine PW.aload_n g rfl rfl d_md_found_36 ?_
      refine PW.iload_n g rfl rfl d_md_found_37 ?_
      refine PW.putI g fi_md_118 rfl rfl rfl d_md_found_38 ?_
      refine PX.gI (fun I4 eI4 => ?_)
      have h := h _ eI4
      exact PX.vret g hF rfl d_md_found_41 hL h
    · have h := h.2 c2
      refine PW.iload_n g rfl rfl d_md_found_15 ?_
      refine PW.aload_n g rfl rfl d_md_found_16 ?_
      refine PW.getI g fi_md_118 rfl d_md_found_17 ?_
      refine PW.icmp_ne g 41 (by decide) d_md_found_20 (fun c3 => ?_) (fun c3 => ?_)
      · have h := h.1 c3
        exact PX.vret g hF rfl d_md_found_41 hL h
      · have h := h.2 c3
        refine PW.iload_n g rfl rfl d_md_found_23 ?_
        refine PW.aload_n g rfl rfl d_md_found_24 ?_
        refine PW.getI g fi_md_272 rfl d_md_found_25 ?_
        refine PW.icmp_ge g 41 (by decide) d_md_found_28 (fun c4 => ?_) (fun c4 => ?_)
        · have h := h.1 c4
          exact PX.vret g hF rfl d_md_found_41 hL h
        · have h := h.2 c4
          refine PW.aload_n g rfl rfl d_md_found_31 ?_
          refine PW.iload_n g rfl rfl d_md_found_32 ?_
          refine PW.putI g fi_md_272 rfl rfl rfl d_md_found_33 ?_
          refine PX.gI (fun I5 eI5 => ?_)
          have h := h _ eI5
          refine PW.aload_n g rfl rfl d_md_found_36 ?_
          refine PW.iload_n g rfl rfl d_md_found_37 ?_
          refine PW.putI g fi_md_118 rfl rfl rfl d_md_found_38 ?_
          refine PX.gI (fun I6 eI6 => ?_)
          have h := h _ eI6
          exact PX.vret g hF rfl d_md_found_41 hL h
def j_md_begin_35 (Q : pI → pR → Prop) (s1 : Int32) (s2 : Int32) (I : pI) (R : pR) : Prop := (vp_in s1 200 ∧ ∀ I2, I2 = pw_wI I 132 s1.toNatClampNeg s2 → (vp_in (I2 121 32) 200 ∧ ∀ I3, I3 = pw_wI I2 133 (I2 121 32).toNatClampNeg (-1 : Int32) → (vp_in (I3 121 32) 200 ∧ ∀ I4, I4 = pw_wI I3 134 (I3 121 32).toNatClampNeg (I3 121 15) → (vp_in (I4 121 7) 128 ∧ (vp_in (I4 121 32) 200 ∧ ∀ I5, I5 = pw_wI I4 136 (I4 121 32).toNatClampNeg (I4 125 (I4 121 7).toNatClampNeg) → Q I5 R)))))
set_option maxHeartbeats 4000000 in
set_option maxRecDepth 100000 in
theorem J_md_begin_35 (d : Nat) {Q : pI → pR → Prop} {s1 : Int32} {s2 : Int32} {E : pE} {B : pB} (g : pw_G m_md_begin (d + 1) 0 0 E B) (hF : pX (qv Q) E B) {I : pI} {R : pR} (hL : pw_Lay R) (h : j_md_begin_35  Q s1 s2 I R) : PX E B m_md_begin.2.2.1 35 [some (.ref 121), none] [.int s2, .int s1, .ref 132] I R := by
  unfold j_md_begin_35 at h
  refine PW.iast g rfl h.1 d_md_begin_35 ?_
  refine PX.gI (fun I2 eI2 => ?_)
  have h := h.2 _ eI2
  refine PW.aload_n g rfl rfl d_md_begin_36 ?_
  refine PW.getR (q := 133) g fi_md_43 rfl (hL 121 12 18 rfl (by decide)) d_md_begin_37 ?_
  refine PW.aload_n g rfl rfl d_md_begin_40 ?_
  refine PW.getI g fi_md_275 rfl d_md_begin_41 ?_
  refine PW.iconst g (-1) (by decide) d_md_begin_44 ?_
  refine PW.iast g rfl h.1 d_md_begin_45 ?_
  refine PX.gI (fun I3 eI3 => ?_)
  have h := h.2 _ eI3
  refine PW.aload_n g rfl rfl d_md_begin_46 ?_
  refine PW.getR (q := 134) g fi_md_46 rfl (hL 121 12 19 rfl (by decide)) d_md_begin_47 ?_
  refine PW.aload_n g rfl rfl d_md_begin_50 ?_
  refine PW.getI g fi_md_275 rfl d_md_begin_51 ?_
  refine PW.aload_n g rfl rfl d_md_begin_54 ?_
  refine PW.getI g fi_md_217 rfl d_md_begin_55 ?_
  refine PW.iast g rfl h.1 d_md_begin_58 ?_
  refine PX.gI (fun I4 eI4 => ?_)
  have h := h.2 _ eI4
  refine PW.aload_n g rfl rfl d_md_begin_59 ?_
  refine PW.getR (q := 136) g fi_md_52 rfl (hL 121 12 21 rfl (by decide)) d_md_begin_60 ?_
  refine PW.aload_n g rfl rfl d_md_begin_63 ?_
  refine PW.getI g fi_md_275 rfl d_md_begin_64 ?_
  refine PW.aload_n g rfl rfl d_md_begin_67 ?_
  refine PW.getR (q := 125) g fi_md_19 rfl (hL 121 12 5 rfl (by decide)) d_md_begin_68 ?_
  refine PW.aload_n g rfl rfl d_md_begin_71 ?_
  refine PW.getI g fi_md_207 rfl d_md_begin_72 ?_
  refine PW.iald g rfl h.1 d_md_begin_75 ?_
  have h := h.2
  refine PW.iast g rfl h.1 d_md_begin_76 ?_
  refine PX.gI (fun I5 eI5 => ?_)
  have h := h.2 _ eI5
  exact PX.vret g hF rfl d_md_begin_77 hL h
def w_md_begin (a1 : Int32) (I : pI) (R : pR) (Q : pI → pR → Prop) : Prop := (vp_in (I 121 32) 200 ∧ ∀ I1, I1 = pw_wI I 131 (I 121 32).toNatClampNeg a1 → ((¬ a1 = (9 : Int32) → (j_md_begin_35 Q (I1 121 32) (I1 121 34) I1 R)) ∧ (a1 = (9 : Int32) → (j_md_begin_35 Q (I1 121 32) (I1 121 35) I1 R))))
set_option maxHeartbeats 4000000 in
set_option maxRecDepth 100000 in
theorem c_md_begin (d : Nat) {a1 : Int32} {I : pI} {R : pR} {Q : pI → pR → Prop} (hL : pw_Lay R) (h : w_md_begin a1 I R Q) : Cm (d + 1) m_md_begin [.ref 121, .int a1] I R (qv Q) := by
  refine Cm.of [some (.ref 121), some (.int a1)] (by decide) rfl (Nat.le_of_ble_eq_true rfl) (by simp) (fun E B g hF => ?_)
  unfold w_md_begin at h
  refine PW.aload_n g rfl rfl d_md_begin_0 ?_
  refine PW.getR (q := 131) g fi_md_37 rfl (hL 121 12 16 rfl (by decide)) d_md_begin_1 ?_
  refine PW.aload_n g rfl rfl d_md_begin_4 ?_
  refine PW.getI g fi_md_275 rfl d_md_begin_5 ?_
  refine PW.iload_n g rfl rfl d_md_begin_8 ?_
  refine PW.iast g rfl h.1 d_md_begin_9 ?_
  refine PX.gI (fun I1 eI1 => ?_)
  have h := h.2 _ eI1
  refine PW.aload_n g rfl rfl d_md_begin_10 ?_
  refine PW.getR (q := 132) g fi_md_40 rfl (hL 121 12 17 rfl (by decide)) d_md_begin_11 ?_
  refine PW.aload_n g rfl rfl d_md_begin_14 ?_
  refine PW.getI g fi_md_275 rfl d_md_begin_15 ?_
  refine PW.iload_n g rfl rfl d_md_begin_18 ?_
  refine PW.bipush g (9) (by decide) d_md_begin_19 ?_
  refine PW.icmp_ne g 31 (by decide) d_md_begin_21 (fun c1 => ?_) (fun c1 => ?_)
  · have h := h.1 c1
    refine PW.aload_n g rfl rfl d_md_begin_31 ?_
    refine PW.getI g fi_md_281 rfl d_md_begin_32 ?_
    refine PX.sub [some (.ref 121), none] ⟨rfl, trivial⟩ ?_
    exact J_md_begin_35 d g hF hL h
  · have h := h.2 c1
    refine PW.aload_n g rfl rfl d_md_begin_24 ?_
    refine PW.getI g fi_md_278 rfl d_md_begin_25 ?_
    refine PW.goto g 35 (by decide) d_md_begin_28 ?_
    refine PX.sub [some (.ref 121), none] ⟨rfl, trivial⟩ ?_
    exact J_md_begin_35 d g hF hL h
def w_md_finish (I : pI) (R : pR) (Q : pI → pR → Prop) : Prop := (vp_in (I 121 32) 200 ∧ ∀ I1, I1 = pw_wI I 135 (I 121 32).toNatClampNeg (I 121 15) → (vp_in ((I1 121 7) - (1 : Int32)) 128 ∧ (vp_in (I1 121 32) 200 ∧ ∀ I2, I2 = pw_wI I1 137 (I1 121 32).toNatClampNeg (I1 126 ((I1 121 7) - (1 : Int32)).toNatClampNeg) → (∀ I3, I3 = pw_wI I2 121 32 ((I2 121 32) + (1 : Int32)) → Q I3 R))))
set_option maxHeartbeats 4000000 in
set_option maxRecDepth 100000 in
theorem c_md_finish (d : Nat) {I : pI} {R : pR} {Q : pI → pR → Prop} (hL : pw_Lay R) (h : w_md_finish  I R Q) : Cm (d + 1) m_md_finish [.ref 121] I R (qv Q) := by
  refine Cm.of [some (.ref 121)] (by decide) rfl (Nat.le_of_ble_eq_true rfl) (by simp) (fun E B g hF => ?_)
  unfold w_md_finish at h
  refine PW.aload_n g rfl rfl d_md_finish_0 ?_
  refine PW.getR (q := 135) g fi_md_49 rfl (hL 121 12 20 rfl (by decide)) d_md_finish_1 ?_
  refine PW.aload_n g rfl rfl d_md_finish_4 ?_
  refine PW.getI g fi_md_275 rfl d_md_finish_5 ?_
  refine PW.aload_n g rfl rfl d_md_finish_8 ?_
  refine PW.getI g fi_md_217 rfl d_md_finish_9 ?_
  refine PW.iast g rfl h.1 d_md_finish_12 ?_
  refine PX.gI (fun I1 eI1 => ?_)
  have h := h.2 _ eI1
  refine PW.aload_n g rfl rfl d_md_finish_13 ?_
  refine PW.getR (q := 137) g fi_md_55 rfl (hL 121 12 22 rfl (by decide)) d_md_finish_14 ?_
  refine PW.aload_n g rfl rfl d_md_finish_17 ?_
  refine PW.getI g fi_md_275 rfl d_md_finish_18 ?_
  refine PW.aload_n g rfl rfl d_md_finish_21 ?_
  refine PW.getR (q := 126) g fi_md_22 rfl (hL 121 12 6 rfl (by decide)) d_md_finish_22 ?_
  refine PW.aload_n g rfl rfl d_md_finish_25 ?_
  refine PW.getI g fi_md_207 rfl d_md_finish_26 ?_
  refine PW.iconst g (1) (by decide) d_md_finish_29 ?_
  refine PW.isub g d_md_finish_30 ?_
  refine PW.iald g rfl h.1 d_md_finish_31 ?_
  have h := h.2
  refine PW.iast g rfl h.1 d_md_finish_32 ?_
  refine PX.gI (fun I2 eI2 => ?_)
  have h := h.2 _ eI2
  refine PW.aload_n g rfl rfl d_md_finish_33 ?_
  refine PW.dup g rfl d_md_finish_34 ?_
  refine PW.getI g fi_md_275 rfl d_md_finish_35 ?_
  refine PW.iconst g (1) (by decide) d_md_finish_38 ?_
  refine PW.iadd g d_md_finish_39 ?_
  refine PW.putI g fi_md_275 rfl rfl rfl d_md_finish_40 ?_
  refine PX.gI (fun I3 eI3 => ?_)
  have h := h _ eI3
  exact PX.vret g hF rfl d_md_finish_43 hL h
def j_md_step_82 (Q : Int32 → pI → pR → Prop) (x2 : Int32) (x3 : Int32) (I : pI) (R : pR) : Prop := (w_md_expression (1 : Int32) (0 : Int32) I R (fun v2 I3 R2 => ((¬ v2 = 0 → ((x2 < 0 → (w_md_finish  I3 R2 (fun I4 R3 => Q (1 : Int32) I4 R3))) ∧ (¬ x2 < 0 → (w_md_note (2 : Int32) x3 x2 (0 : Int32) I3 R2 (fun I5 R4 => (w_md_finish  I5 R4 (fun I6 R5 => Q (1 : Int32) I6 R5))))))) ∧ (v2 = 0 → Q (0 : Int32) I3 R2))))
set_option maxHeartbeats 4000000 in
set_option maxRecDepth 100000 in
theorem J_md_step_82 (d : Nat) {Q : Int32 → pI → pR → Prop} {x2 : Int32} {x3 : Int32} {E : pE} {B : pB} (g : pw_G m_md_step (d + 5) 0 0 E B) (hF : pX (qz Q) E B) {I : pI} {R : pR} (hL : pw_Lay R) (h : j_md_step_82  Q x2 x3 I R) : PX E B m_md_step.2.2.1 82 [some (.ref 121), none, some (.int x2), some (.int x3)] [] I R := by
  unfold j_md_step_82 at h
  refine PW.aload_n g rfl rfl d_md_step_82 ?_
  refine PW.iconst g (1) (by decide) d_md_step_83 ?_
  refine PW.iconst g (0) (by decide) d_md_step_84 ?_
  refine PX.cVz [.int (1 : Int32), .int (0 : Int32)] [] g rfl ck_md (c_md_expression d  hL h) cl_md_287 (by omega) (by decide) rfl rfl (Nat.le_of_ble_eq_true rfl) d_md_step_85 (fun v2 I3 R2 hL hzv2 h => ?_)
  refine PW.if_ne g 93 (by decide) d_md_step_88 (fun c3 => ?_) (fun c3 => ?_)
  · have h := h.1 c3
    refine PW.iload_n g rfl rfl d_md_step_93 ?_
    refine PW.if_lt g 105 (by decide) d_md_step_94 (fun c4 => ?_) (fun c4 => ?_)
    · have h := h.1 c4
      refine PW.aload_n g rfl rfl d_md_step_105 ?_
      refine PX.cVv [] [] g rfl ck_md (c_md_finish d  hL h) cl_md_291 (by omega) (by decide) rfl rfl (Nat.le_of_ble_eq_true rfl) d_md_step_106 (fun I4 R3 hL h => ?_)
      refine PW.iconst g (1) (by decide) d_md_step_109 ?_
      exact PX.zret g hF rfl (Or.inr rfl) d_md_step_110 hL h
    · have h := h.2 c4
      refine PW.aload_n g rfl rfl d_md_step_97 ?_
      refine PW.iconst g (2) (by decide) d_md_step_98 ?_
      refine PW.iload_n g rfl rfl d_md_step_99 ?_
      refine PW.iload_n g rfl rfl d_md_step_100 ?_
      refine PW.iconst g (0) (by decide) d_md_step_101 ?_
      refine PX.cVv [.int (2 : Int32), .int x3, .int x2, .int (0 : Int32)] [] g rfl ck_md (c_md_note d  hL h) cl_md_236 (by omega) (by decide) rfl rfl (Nat.le_of_ble_eq_true rfl) d_md_step_102 (fun I5 R4 hL h => ?_)
      refine PW.aload_n g rfl rfl d_md_step_105 ?_
      refine PX.cVv [] [] g rfl ck_md (c_md_finish d  hL h) cl_md_291 (by omega) (by decide) rfl rfl (Nat.le_of_ble_eq_true rfl) d_md_step_106 (fun I6 R5 hL h => ?_)
      refine PW.iconst g (1) (by decide) d_md_step_109 ?_
      exact PX.zret g hF rfl (Or.inr rfl) d_md_step_110 hL h
  · have h := h.2 c3
    refine PW.iconst g (0) (by decide) d_md_step_91 ?_
    exact PX.zret g hF rfl (Or.inl rfl) d_md_step_92 hL h
def j_md_step_42 (Q : Int32 → pI → pR → Prop) (x1 : Int32) (s0 : Int32) (I : pI) (R : pR) : Prop := (vp_in (I 121 7) 128 ∧ (w_md_begin x1 I R (fun I1 R1 => (vp_in (I1 121 32) 200 ∧ ∀ I2, I2 = pw_wI I1 133 (I1 121 32).toNatClampNeg s0 → ((s0 < 0 → (j_md_step_82 Q s0 (I 125 (I 121 7).toNatClampNeg) I2 R1)) ∧ (¬ s0 < 0 → (∀ I7, I7 = pw_wI I2 121 7 ((I2 121 7) + (2 : Int32)) → (j_md_step_82 Q s0 (I 125 (I 121 7).toNatClampNeg) I7 R1))))))))
set_option maxHeartbeats 4000000 in
set_option maxRecDepth 100000 in
theorem J_md_step_42 (d : Nat) {Q : Int32 → pI → pR → Prop} {x1 : Int32} {s0 : Int32} {E : pE} {B : pB} (g : pw_G m_md_step (d + 5) 0 0 E B) (hF : pX (qz Q) E B) {I : pI} {R : pR} (hL : pw_Lay R) (h : j_md_step_42  Q x1 s0 I R) : PX E B m_md_step.2.2.1 42 [some (.ref 121), some (.int x1), none, none] [.int s0] I R := by
  unfold j_md_step_42 at h
  refine PW.istore_n g rfl (L' := [some (.ref 121), some (.int x1), some (.int s0), none]) (by decide) rfl rfl d_md_step_42 ?_
  refine PW.aload_n g rfl rfl d_md_step_43 ?_
  refine PW.getR (q := 125) g fi_md_19 rfl (hL 121 12 5 rfl (by decide)) d_md_step_44 ?_
  refine PW.aload_n g rfl rfl d_md_step_47 ?_
  refine PW.getI g fi_md_207 rfl d_md_step_48 ?_
  refine PW.iald g rfl h.1 d_md_step_51 ?_
  have h := h.2
  refine PW.istore_n g rfl (L' := [some (.ref 121), some (.int x1), some (.int s0), some (.int (I 125 (I 121 7).toNatClampNeg))]) (by decide) rfl rfl d_md_step_52 ?_
  refine PW.aload_n g rfl rfl d_md_step_53 ?_
  refine PW.iload_n g rfl rfl d_md_step_54 ?_
  refine PX.cVv [.int x1] [] g rfl ck_md (c_md_begin d  hL h) cl_md_284 (by omega) (by decide) rfl rfl (Nat.le_of_ble_eq_true rfl) d_md_step_55 (fun I1 R1 hL h => ?_)
  refine PW.aload_n g rfl rfl d_md_step_58 ?_
  refine PW.getR (q := 133) g fi_md_43 rfl (hL 121 12 18 rfl (by decide)) d_md_step_59 ?_
  refine PW.aload_n g rfl rfl d_md_step_62 ?_
  refine PW.getI g fi_md_275 rfl d_md_step_63 ?_
  refine PW.iload_n g rfl rfl d_md_step_66 ?_
  refine PW.iast g rfl h.1 d_md_step_67 ?_
  refine PX.gI (fun I2 eI2 => ?_)
  have h := h.2 _ eI2
  refine PW.iload_n g rfl rfl d_md_step_68 ?_
  refine PW.if_lt g 82 (by decide) d_md_step_69 (fun c2 => ?_) (fun c2 => ?_)
  · have h := h.1 c2
    refine PX.sub [some (.ref 121), none, some (.int s0), some (.int (I 125 (I 121 7).toNatClampNeg))] ⟨rfl, ⟨rfl, ⟨rfl, trivial⟩⟩⟩ ?_
    exact J_md_step_82 d g hF hL h
  · have h := h.2 c2
    refine PW.aload_n g rfl rfl d_md_step_72 ?_
    refine PW.dup g rfl d_md_step_73 ?_
    refine PW.getI g fi_md_207 rfl d_md_step_74 ?_
    refine PW.iconst g (2) (by decide) d_md_step_77 ?_
    refine PW.iadd g d_md_step_78 ?_
    refine PW.putI g fi_md_207 rfl rfl rfl d_md_step_79 ?_
    refine PX.gI (fun I7 eI7 => ?_)
    have h := h _ eI7
    refine PX.sub [some (.ref 121), none, some (.int s0), some (.int (I 125 (I 121 7).toNatClampNeg))] ⟨rfl, ⟨rfl, ⟨rfl, trivial⟩⟩⟩ ?_
    exact J_md_step_82 d g hF hL h
def j_md_step_41 (Q : Int32 → pI → pR → Prop) (x1 : Int32) (I : pI) (R : pR) : Prop := (j_md_step_42 Q x1 (-1 : Int32) I R)
set_option maxHeartbeats 4000000 in
set_option maxRecDepth 100000 in
theorem J_md_step_41 (d : Nat) {Q : Int32 → pI → pR → Prop} {x1 : Int32} {E : pE} {B : pB} (g : pw_G m_md_step (d + 5) 0 0 E B) (hF : pX (qz Q) E B) {I : pI} {R : pR} (hL : pw_Lay R) (h : j_md_step_41  Q x1 I R) : PX E B m_md_step.2.2.1 41 [some (.ref 121), some (.int x1), none, none] [] I R := by
  unfold j_md_step_41 at h
  refine PW.iconst g (-1) (by decide) d_md_step_41 ?_
  refine PX.sub [some (.ref 121), some (.int x1), none, none] ⟨rfl, ⟨rfl, trivial⟩⟩ ?_
  exact J_md_step_42 d g hF hL h
def w_md_step (a1 : Int32) (I : pI) (R : pR) (Q : Int32 → pI → pR → Prop) : Prop := (vp_in (I 121 7) 128 ∧ ((¬ (I 123 (I 121 7).toNatClampNeg) = (2 : Int32) → (j_md_step_41 Q a1 I R)) ∧ ((I 123 (I 121 7).toNatClampNeg) = (2 : Int32) → (vp_in ((I 121 7) + (1 : Int32)) 128 ∧ ((¬ (I 123 ((I 121 7) + (1 : Int32)).toNatClampNeg) = (61 : Int32) → (j_md_step_41 Q a1 I R)) ∧ ((I 123 ((I 121 7) + (1 : Int32)).toNatClampNeg) = (61 : Int32) → (vp_in (I 121 7) 128 ∧ (j_md_step_42 Q a1 (I 124 (I 121 7).toNatClampNeg) I R))))))))
set_option maxHeartbeats 4000000 in
set_option maxRecDepth 100000 in
theorem c_md_step (d : Nat) {a1 : Int32} {I : pI} {R : pR} {Q : Int32 → pI → pR → Prop} (hL : pw_Lay R) (h : w_md_step a1 I R Q) : Cm (d + 5) m_md_step [.ref 121, .int a1] I R (qz Q) := by
  refine Cm.of [some (.ref 121), some (.int a1), none, none] (by decide) rfl (Nat.le_of_ble_eq_true rfl) (by simp) (fun E B g hF => ?_)
  unfold w_md_step at h
  refine PW.aload_n g rfl rfl d_md_step_0 ?_
  refine PW.getR (q := 123) g fi_md_13 rfl (hL 121 12 3 rfl (by decide)) d_md_step_1 ?_
  refine PW.aload_n g rfl rfl d_md_step_4 ?_
  refine PW.getI g fi_md_207 rfl d_md_step_5 ?_
  refine PW.iald g rfl h.1 d_md_step_8 ?_
  have h := h.2
  refine PW.iconst g (2) (by decide) d_md_step_9 ?_
  refine PW.icmp_ne g 41 (by decide) d_md_step_10 (fun c1 => ?_) (fun c1 => ?_)
  · have h := h.1 c1
    refine PX.sub [some (.ref 121), some (.int a1), none, none] ⟨rfl, ⟨rfl, trivial⟩⟩ ?_
    exact J_md_step_41 d g hF hL h
  · have h := h.2 c1
    refine PW.aload_n g rfl rfl d_md_step_13 ?_
    refine PW.getR (q := 123) g fi_md_13 rfl (hL 121 12 3 rfl (by decide)) d_md_step_14 ?_
    refine PW.aload_n g rfl rfl d_md_step_17 ?_
    refine PW.getI g fi_md_207 rfl d_md_step_18 ?_
    refine PW.iconst g (1) (by decide) d_md_step_21 ?_
    refine PW.iadd g d_md_step_22 ?_
    refine PW.iald g rfl h.1 d_md_step_23 ?_
    have h := h.2
    refine PW.bipush g (61) (by decide) d_md_step_24 ?_
    refine PW.icmp_ne g 41 (by decide) d_md_step_26 (fun c5 => ?_) (fun c5 => ?_)
    · have h := h.1 c5
      refine PX.sub [some (.ref 121), some (.int a1), none, none] ⟨rfl, ⟨rfl, trivial⟩⟩ ?_
      exact J_md_step_41 d g hF hL h
    · have h := h.2 c5
      refine PW.aload_n g rfl rfl d_md_step_29 ?_
      refine PW.getR (q := 124) g fi_md_16 rfl (hL 121 12 4 rfl (by decide)) d_md_step_30 ?_
      refine PW.aload_n g rfl rfl d_md_step_33 ?_
      refine PW.getI g fi_md_207 rfl d_md_step_34 ?_
      refine PW.iald g rfl h.1 d_md_step_37 ?_
      have h := h.2
      refine PW.goto g 42 (by decide) d_md_step_38 ?_
      refine PX.sub [some (.ref 121), some (.int a1), none, none] ⟨rfl, ⟨rfl, trivial⟩⟩ ?_
      exact J_md_step_42 d g hF hL h
def w_md_asked (a1 : Int32) (I : pI) (R : pR) (Q : Int32 → pI → pR → Prop) : Prop := (w_md_begin a1 I R (fun I1 R1 => ((¬ a1 = (4 : Int32) → (w_md_expression (1 : Int32) (0 : Int32) I1 R1 (fun v2 I2 R2 => ((¬ v2 = 0 → (w_md_finish  I2 R2 (fun I3 R3 => Q (1 : Int32) I3 R3))) ∧ (v2 = 0 → Q (0 : Int32) I2 R2))))) ∧ (a1 = (4 : Int32) → (w_md_expression (1 : Int32) (1 : Int32) I1 R1 (fun v4 I4 R4 => ((¬ v4 = 0 → (w_md_finish  I4 R4 (fun I5 R5 => Q (1 : Int32) I5 R5))) ∧ (v4 = 0 → Q (0 : Int32) I4 R4))))))))
set_option maxHeartbeats 4000000 in
set_option maxRecDepth 100000 in
theorem c_md_asked (d : Nat) {a1 : Int32} {I : pI} {R : pR} {Q : Int32 → pI → pR → Prop} (hL : pw_Lay R) (h : w_md_asked a1 I R Q) : Cm (d + 5) m_md_asked [.ref 121, .int a1] I R (qz Q) := by
  refine Cm.of [some (.ref 121), some (.int a1)] (by decide) rfl (Nat.le_of_ble_eq_true rfl) (by simp) (fun E B g hF => ?_)
  unfold w_md_asked at h
  refine PW.aload_n g rfl rfl d_md_asked_0 ?_
  refine PW.iload_n g rfl rfl d_md_asked_1 ?_
  refine PX.cVv [.int a1] [] g rfl ck_md (c_md_begin d  hL h) cl_md_284 (by omega) (by decide) rfl rfl (Nat.le_of_ble_eq_true rfl) d_md_asked_2 (fun I1 R1 hL h => ?_)
  refine PW.aload_n g rfl rfl d_md_asked_5 ?_
  refine PW.iconst g (1) (by decide) d_md_asked_6 ?_
  refine PW.iload_n g rfl rfl d_md_asked_7 ?_
  refine PW.iconst g (4) (by decide) d_md_asked_8 ?_
  refine PW.icmp_ne g 16 (by decide) d_md_asked_9 (fun c1 => ?_) (fun c1 => ?_)
  · have h := h.1 c1
    refine PW.iconst g (0) (by decide) d_md_asked_16 ?_
    refine PX.cVz [.int (1 : Int32), .int (0 : Int32)] [] g rfl ck_md (c_md_expression d  hL h) cl_md_287 (by omega) (by decide) rfl rfl (Nat.le_of_ble_eq_true rfl) d_md_asked_17 (fun v2 I2 R2 hL hzv2 h => ?_)
    refine PW.if_ne g 25 (by decide) d_md_asked_20 (fun c2 => ?_) (fun c2 => ?_)
    · have h := h.1 c2
      refine PW.aload_n g rfl rfl d_md_asked_25 ?_
      refine PX.cVv [] [] g rfl ck_md (c_md_finish d  hL h) cl_md_291 (by omega) (by decide) rfl rfl (Nat.le_of_ble_eq_true rfl) d_md_asked_26 (fun I3 R3 hL h => ?_)
      refine PW.iconst g (1) (by decide) d_md_asked_29 ?_
      exact PX.zret g hF rfl (Or.inr rfl) d_md_asked_30 hL h
    · have h := h.2 c2
      refine PW.iconst g (0) (by decide) d_md_asked_23 ?_
      exact PX.zret g hF rfl (Or.inl rfl) d_md_asked_24 hL h
  · have h := h.2 c1
    refine PW.iconst g (1) (by decide) d_md_asked_12 ?_
    refine PW.goto g 17 (by decide) d_md_asked_13 ?_
    refine PX.cVz [.int (1 : Int32), .int (1 : Int32)] [] g rfl ck_md (c_md_expression d  hL h) cl_md_287 (by omega) (by decide) rfl rfl (Nat.le_of_ble_eq_true rfl) d_md_asked_17 (fun v4 I4 R4 hL hzv4 h => ?_)
    refine PW.if_ne g 25 (by decide) d_md_asked_20 (fun c3 => ?_) (fun c3 => ?_)
    · have h := h.1 c3
      refine PW.aload_n g rfl rfl d_md_asked_25 ?_
      refine PX.cVv [] [] g rfl ck_md (c_md_finish d  hL h) cl_md_291 (by omega) (by decide) rfl rfl (Nat.le_of_ble_eq_true rfl) d_md_asked_26 (fun I5 R5 hL h => ?_)
      refine PW.iconst g (1) (by decide) d_md_asked_29 ?_
      exact PX.zret g hF rfl (Or.inr rfl) d_md_asked_30 hL h
    · have h := h.2 c3
      refine PW.iconst g (0) (by decide) d_md_asked_23 ?_
      exact PX.zret g hF rfl (Or.inl rfl) d_md_asked_24 hL h
def w_md_isWhom (a1 : Int32) (I : pI) (R : pR) (Q : Int32 → pI → pR → Prop) : Prop := (vp_in a1 128 ∧ (((I 123 a1.toNatClampNeg) = (77 : Int32) → Q (1 : Int32) I R) ∧ (¬ (I 123 a1.toNatClampNeg) = (77 : Int32) → (vp_in a1 128 ∧ ((¬ (I 123 a1.toNatClampNeg) = (78 : Int32) → Q (0 : Int32) I R) ∧ ((I 123 a1.toNatClampNeg) = (78 : Int32) → Q (1 : Int32) I R))))))
set_option maxHeartbeats 4000000 in
set_option maxRecDepth 100000 in
theorem c_md_isWhom (d : Nat) {a1 : Int32} {I : pI} {R : pR} {Q : Int32 → pI → pR → Prop} (hL : pw_Lay R) (h : w_md_isWhom a1 I R Q) : Cm (d + 1) m_md_isWhom [.ref 121, .int a1] I R (qz Q) := by
  refine Cm.of [some (.ref 121), some (.int a1)] (by decide) rfl (Nat.le_of_ble_eq_true rfl) (by simp) (fun E B g hF => ?_)
  unfold w_md_isWhom at h
  refine PW.aload_n g rfl rfl d_md_isWhom_0 ?_
  refine PW.getR (q := 123) g fi_md_13 rfl (hL 121 12 3 rfl (by decide)) d_md_isWhom_1 ?_
  refine PW.iload_n g rfl rfl d_md_isWhom_4 ?_
  refine PW.iald g rfl h.1 d_md_isWhom_5 ?_
  have h := h.2
  refine PW.bipush g (77) (by decide) d_md_isWhom_6 ?_
  refine PW.icmp_eq g 22 (by decide) d_md_isWhom_8 (fun c1 => ?_) (fun c1 => ?_)
  · have h := h.1 c1
    refine PW.iconst g (1) (by decide) d_md_isWhom_22 ?_
    refine PW.goto g 27 (by decide) d_md_isWhom_23 ?_
    exact PX.zret g hF rfl (Or.inr rfl) d_md_isWhom_27 hL h
  · have h := h.2 c1
    refine PW.aload_n g rfl rfl d_md_isWhom_11 ?_
    refine PW.getR (q := 123) g fi_md_13 rfl (hL 121 12 3 rfl (by decide)) d_md_isWhom_12 ?_
    refine PW.iload_n g rfl rfl d_md_isWhom_15 ?_
    refine PW.iald g rfl h.1 d_md_isWhom_16 ?_
    have h := h.2
    refine PW.bipush g (78) (by decide) d_md_isWhom_17 ?_
    refine PW.icmp_ne g 26 (by decide) d_md_isWhom_19 (fun c2 => ?_) (fun c2 => ?_)
    · have h := h.1 c2
      refine PW.iconst g (0) (by decide) d_md_isWhom_26 ?_
      exact PX.zret g hF rfl (Or.inl rfl) d_md_isWhom_27 hL h
    · have h := h.2 c2
      refine PW.iconst g (1) (by decide) d_md_isWhom_22 ?_
      refine PW.goto g 27 (by decide) d_md_isWhom_23 ?_
      exact PX.zret g hF rfl (Or.inr rfl) d_md_isWhom_27 hL h
def w_md_isRule (I : pI) (R : pR) (Q : Int32 → pI → pR → Prop) : Prop := (vp_in (I 121 7) 128 ∧ (((I 123 (I 121 7).toNatClampNeg) = (1 : Int32) → (vp_in ((I 121 7) + (1 : Int32)) 128 ∧ ((¬ (I 123 ((I 121 7) + (1 : Int32)).toNatClampNeg) = (42 : Int32) → (vp_in ((I 121 7) + (1 : Int32)) 128 ∧ (((I 123 ((I 121 7) + (1 : Int32)).toNatClampNeg) = (45 : Int32) → (vp_in ((I 121 7) + (2 : Int32)) 128 ∧ (((I 123 ((I 121 7) + (2 : Int32)).toNatClampNeg) = (95 : Int32) → Q (1 : Int32) I R) ∧ (¬ (I 123 ((I 121 7) + (2 : Int32)).toNatClampNeg) = (95 : Int32) → (vp_in ((I 121 7) + (2 : Int32)) 128 ∧ ((¬ (I 123 ((I 121 7) + (2 : Int32)).toNatClampNeg) = (1 : Int32) → Q (0 : Int32) I R) ∧ ((I 123 ((I 121 7) + (2 : Int32)).toNatClampNeg) = (1 : Int32) → (vp_in ((I 121 7) + (3 : Int32)) 128 ∧ ((¬ (I 123 ((I 121 7) + (3 : Int32)).toNatClampNeg) = (42 : Int32) → Q (0 : Int32) I R) ∧ ((I 123 ((I 121 7) + (3 : Int32)).toNatClampNeg) = (42 : Int32) → (w_md_isWhom ((I 121 7) + (4 : Int32)) I R (fun v1 I1 R1 => ((v1 = 0 → Q (0 : Int32) I1 R1) ∧ (¬ v1 = 0 → Q (1 : Int32) I1 R1)))))))))))))) ∧ (¬ (I 123 ((I 121 7) + (1 : Int32)).toNatClampNeg) = (45 : Int32) → Q (0 : Int32) I R)))) ∧ ((I 123 ((I 121 7) + (1 : Int32)).toNatClampNeg) = (42 : Int32) → (w_md_isWhom ((I 121 7) + (2 : Int32)) I R (fun v2 I2 R2 => Q v2 I2 R2)))))) ∧ (¬ (I 123 (I 121 7).toNatClampNeg) = (1 : Int32) → Q (0 : Int32) I R)))
set_option maxHeartbeats 4000000 in
set_option maxRecDepth 100000 in
theorem c_md_isRule (d : Nat) {I : pI} {R : pR} {Q : Int32 → pI → pR → Prop} (hL : pw_Lay R) (h : w_md_isRule  I R Q) : Cm (d + 2) m_md_isRule [.ref 121] I R (qz Q) := by
  refine Cm.of [some (.ref 121)] (by decide) rfl (Nat.le_of_ble_eq_true rfl) (by simp) (fun E B g hF => ?_)
  unfold w_md_isRule at h
  refine PW.aload_n g rfl rfl d_md_isRule_0 ?_
  refine PW.getR (q := 123) g fi_md_13 rfl (hL 121 12 3 rfl (by decide)) d_md_isRule_1 ?_
  refine PW.aload_n g rfl rfl d_md_isRule_4 ?_
  refine PW.getI g fi_md_207 rfl d_md_isRule_5 ?_
  refine PW.iald g rfl h.1 d_md_isRule_8 ?_
  have h := h.2
  refine PW.iconst g (1) (by decide) d_md_isRule_9 ?_
  refine PW.icmp_eq g 15 (by decide) d_md_isRule_10 (fun c1 => ?_) (fun c1 => ?_)
  · have h := h.1 c1
    refine PW.aload_n g rfl rfl d_md_isRule_15 ?_
    refine PW.getR (q := 123) g fi_md_13 rfl (hL 121 12 3 rfl (by decide)) d_md_isRule_16 ?_
    refine PW.aload_n g rfl rfl d_md_isRule_19 ?_
    refine PW.getI g fi_md_207 rfl d_md_isRule_20 ?_
    refine PW.iconst g (1) (by decide) d_md_isRule_23 ?_
    refine PW.iadd g d_md_isRule_24 ?_
    refine PW.iald g rfl h.1 d_md_isRule_25 ?_
    have h := h.2
    refine PW.bipush g (42) (by decide) d_md_isRule_26 ?_
    refine PW.icmp_ne g 42 (by decide) d_md_isRule_28 (fun c2 => ?_) (fun c2 => ?_)
    · have h := h.1 c2
      refine PW.aload_n g rfl rfl d_md_isRule_42 ?_
      refine PW.getR (q := 123) g fi_md_13 rfl (hL 121 12 3 rfl (by decide)) d_md_isRule_43 ?_
      refine PW.aload_n g rfl rfl d_md_isRule_46 ?_
      refine PW.getI g fi_md_207 rfl d_md_isRule_47 ?_
      refine PW.iconst g (1) (by decide) d_md_isRule_50 ?_
      refine PW.iadd g d_md_isRule_51 ?_
      refine PW.iald g rfl h.1 d_md_isRule_52 ?_
      have h := h.2
      refine PW.bipush g (45) (by decide) d_md_isRule_53 ?_
      refine PW.icmp_eq g 60 (by decide) d_md_isRule_55 (fun c3 => ?_) (fun c3 => ?_)
      · have h := h.1 c3
        refine PW.aload_n g rfl rfl d_md_isRule_60 ?_
        refine PW.getR (q := 123) g fi_md_13 rfl (hL 121 12 3 rfl (by decide)) d_md_isRule_61 ?_
        refine PW.aload_n g rfl rfl d_md_isRule_64 ?_
        refine PW.getI g fi_md_207 rfl d_md_isRule_65 ?_
        refine PW.iconst g (2) (by decide) d_md_isRule_68 ?_
        refine PW.iadd g d_md_isRule_69 ?_
        refine PW.iald g rfl h.1 d_md_isRule_70 ?_
        have h := h.2
        refine PW.bipush g (95) (by decide) d_md_isRule_71 ?_
        refine PW.icmp_eq g 120 (by decide) d_md_isRule_73 (fun c4 => ?_) (fun c4 => ?_)
        · have h := h.1 c4
          refine PW.iconst g (1) (by decide) d_md_isRule_120 ?_
          refine PW.goto g 125 (by decide) d_md_isRule_121 ?_
          exact PX.zret g hF rfl (Or.inr rfl) d_md_isRule_125 hL h
        · have h := h.2 c4
          refine PW.aload_n g rfl rfl d_md_isRule_76 ?_
          refine PW.getR (q := 123) g fi_md_13 rfl (hL 121 12 3 rfl (by decide)) d_md_isRule_77 ?_
          refine PW.aload_n g rfl rfl d_md_isRule_80 ?_
          refine PW.getI g fi_md_207 rfl d_md_isRule_81 ?_
          refine PW.iconst g (2) (by decide) d_md_isRule_84 ?_
          refine PW.iadd g d_md_isRule_85 ?_
          refine PW.iald g rfl h.1 d_md_isRule_86 ?_
          have h := h.2
          refine PW.iconst g (1) (by decide) d_md_isRule_87 ?_
          refine PW.icmp_ne g 124 (by decide) d_md_isRule_88 (fun c5 => ?_) (fun c5 => ?_)
          · have h := h.1 c5
            refine PW.iconst g (0) (by decide) d_md_isRule_124 ?_
            exact PX.zret g hF rfl (Or.inl rfl) d_md_isRule_125 hL h
          · have h := h.2 c5
            refine PW.aload_n g rfl rfl d_md_isRule_91 ?_
            refine PW.getR (q := 123) g fi_md_13 rfl (hL 121 12 3 rfl (by decide)) d_md_isRule_92 ?_
            refine PW.aload_n g rfl rfl d_md_isRule_95 ?_
            refine PW.getI g fi_md_207 rfl d_md_isRule_96 ?_
            refine PW.iconst g (3) (by decide) d_md_isRule_99 ?_
            refine PW.iadd g d_md_isRule_100 ?_
            refine PW.iald g rfl h.1 d_md_isRule_101 ?_
            have h := h.2
            refine PW.bipush g (42) (by decide) d_md_isRule_102 ?_
            refine PW.icmp_ne g 124 (by decide) d_md_isRule_104 (fun c6 => ?_) (fun c6 => ?_)
            · have h := h.1 c6
              refine PW.iconst g (0) (by decide) d_md_isRule_124 ?_
              exact PX.zret g hF rfl (Or.inl rfl) d_md_isRule_125 hL h
            · have h := h.2 c6
              refine PW.aload_n g rfl rfl d_md_isRule_107 ?_
              refine PW.aload_n g rfl rfl d_md_isRule_108 ?_
              refine PW.getI g fi_md_207 rfl d_md_isRule_109 ?_
              refine PW.iconst g (4) (by decide) d_md_isRule_112 ?_
              refine PW.iadd g d_md_isRule_113 ?_
              refine PX.cVz [.int ((I 121 7) + (4 : Int32))] [] g rfl ck_md (c_md_isWhom d  hL h) cl_md_294 (by omega) (by decide) rfl rfl (Nat.le_of_ble_eq_true rfl) d_md_isRule_114 (fun v1 I1 R1 hL hzv1 h => ?_)
              refine PW.if_eq g 124 (by decide) d_md_isRule_117 (fun c7 => ?_) (fun c7 => ?_)
              · have h := h.1 c7
                refine PW.iconst g (0) (by decide) d_md_isRule_124 ?_
                exact PX.zret g hF rfl (Or.inl rfl) d_md_isRule_125 hL h
              · have h := h.2 c7
                refine PW.iconst g (1) (by decide) d_md_isRule_120 ?_
                refine PW.goto g 125 (by decide) d_md_isRule_121 ?_
                exact PX.zret g hF rfl (Or.inr rfl) d_md_isRule_125 hL h
      · have h := h.2 c3
        refine PW.iconst g (0) (by decide) d_md_isRule_58 ?_
        exact PX.zret g hF rfl (Or.inl rfl) d_md_isRule_59 hL h
    · have h := h.2 c2
      refine PW.aload_n g rfl rfl d_md_isRule_31 ?_
      refine PW.aload_n g rfl rfl d_md_isRule_32 ?_
      refine PW.getI g fi_md_207 rfl d_md_isRule_33 ?_
      refine PW.iconst g (2) (by decide) d_md_isRule_36 ?_
      refine PW.iadd g d_md_isRule_37 ?_
      refine PX.cVz [.int ((I 121 7) + (2 : Int32))] [] g rfl ck_md (c_md_isWhom d  hL h) cl_md_294 (by omega) (by decide) rfl rfl (Nat.le_of_ble_eq_true rfl) d_md_isRule_38 (fun v2 I2 R2 hL hzv2 h => ?_)
      exact PX.zret g hF rfl hzv2 d_md_isRule_41 hL h
  · have h := h.2 c1
    refine PW.iconst g (0) (by decide) d_md_isRule_13 ?_
    exact PX.zret g hF rfl (Or.inl rfl) d_md_isRule_14 hL h
def j_md_argument_100 (Q : Int32 → pI → pR → Prop) (I : pI) (R : pR) : Prop := (vp_in (I 121 7) 128 ∧ (vp_in (I 121 32) 200 ∧ ∀ I2, I2 = pw_wI I 142 (I 121 32).toNatClampNeg (I 124 (I 121 7).toNatClampNeg) → (∀ I3, I3 = pw_wI I2 121 7 ((I2 121 7) + (1 : Int32)) → Q (1 : Int32) I3 R)))
set_option maxHeartbeats 4000000 in
set_option maxRecDepth 100000 in
theorem J_md_argument_100 (d : Nat) {Q : Int32 → pI → pR → Prop} {E : pE} {B : pB} (g : pw_G m_md_argument (d + 2) 0 0 E B) (hF : pX (qz Q) E B) {I : pI} {R : pR} (hL : pw_Lay R) (h : j_md_argument_100  Q  I R) : PX E B m_md_argument.2.2.1 100 [some (.ref 121)] [] I R := by
  unfold j_md_argument_100 at h
  refine PW.aload_n g rfl rfl d_md_argument_100 ?_
  refine PW.getR (q := 142) g fi_md_70 rfl (hL 121 12 27 rfl (by decide)) d_md_argument_101 ?_
  refine PW.aload_n g rfl rfl d_md_argument_104 ?_
  refine PW.getI g fi_md_275 rfl d_md_argument_105 ?_
  refine PW.aload_n g rfl rfl d_md_argument_108 ?_
  refine PW.getR (q := 124) g fi_md_16 rfl (hL 121 12 4 rfl (by decide)) d_md_argument_109 ?_
  refine PW.aload_n g rfl rfl d_md_argument_112 ?_
  refine PW.getI g fi_md_207 rfl d_md_argument_113 ?_
  refine PW.iald g rfl h.1 d_md_argument_116 ?_
  have h := h.2
  refine PW.iast g rfl h.1 d_md_argument_117 ?_
  refine PX.gI (fun I2 eI2 => ?_)
  have h := h.2 _ eI2
  refine PW.aload_n g rfl rfl d_md_argument_118 ?_
  refine PW.dup g rfl d_md_argument_119 ?_
  refine PW.getI g fi_md_207 rfl d_md_argument_120 ?_
  refine PW.iconst g (1) (by decide) d_md_argument_123 ?_
  refine PW.iadd g d_md_argument_124 ?_
  refine PW.putI g fi_md_207 rfl rfl rfl d_md_argument_125 ?_
  refine PX.gI (fun I3 eI3 => ?_)
  have h := h _ eI3
  refine PW.iconst g (1) (by decide) d_md_argument_128 ?_
  exact PX.zret g hF rfl (Or.inr rfl) d_md_argument_129 hL h
def j_md_argument_70 (Q : Int32 → pI → pR → Prop) (I : pI) (R : pR) : Prop := (vp_in (I 121 32) 200 ∧ (((I 141 (I 121 32).toNatClampNeg) ≤ 0 → (j_md_argument_100 Q I R)) ∧ (¬ (I 141 (I 121 32).toNatClampNeg) ≤ 0 → (vp_in (I 121 7) 128 ∧ (((I 123 (I 121 7).toNatClampNeg) = (1 : Int32) → (j_md_argument_100 Q I R)) ∧ (¬ (I 123 (I 121 7).toNatClampNeg) = (1 : Int32) → (w_md_fail  I R (fun v1 I4 R1 => Q v1 I4 R1))))))))
set_option maxHeartbeats 4000000 in
set_option maxRecDepth 100000 in
theorem J_md_argument_70 (d : Nat) {Q : Int32 → pI → pR → Prop} {E : pE} {B : pB} (g : pw_G m_md_argument (d + 2) 0 0 E B) (hF : pX (qz Q) E B) {I : pI} {R : pR} (hL : pw_Lay R) (h : j_md_argument_70  Q  I R) : PX E B m_md_argument.2.2.1 70 [some (.ref 121)] [] I R := by
  unfold j_md_argument_70 at h
  refine PW.aload_n g rfl rfl d_md_argument_70 ?_
  refine PW.getR (q := 141) g fi_md_67 rfl (hL 121 12 26 rfl (by decide)) d_md_argument_71 ?_
  refine PW.aload_n g rfl rfl d_md_argument_74 ?_
  refine PW.getI g fi_md_275 rfl d_md_argument_75 ?_
  refine PW.iald g rfl h.1 d_md_argument_78 ?_
  have h := h.2
  refine PW.if_le g 100 (by decide) d_md_argument_79 (fun c4 => ?_) (fun c4 => ?_)
  · have h := h.1 c4
    refine PX.sub [some (.ref 121)] ⟨rfl, trivial⟩ ?_
    exact J_md_argument_100 d g hF hL h
  · have h := h.2 c4
    refine PW.aload_n g rfl rfl d_md_argument_82 ?_
    refine PW.getR (q := 123) g fi_md_13 rfl (hL 121 12 3 rfl (by decide)) d_md_argument_83 ?_
    refine PW.aload_n g rfl rfl d_md_argument_86 ?_
    refine PW.getI g fi_md_207 rfl d_md_argument_87 ?_
    refine PW.iald g rfl h.1 d_md_argument_90 ?_
    have h := h.2
    refine PW.iconst g (1) (by decide) d_md_argument_91 ?_
    refine PW.icmp_eq g 100 (by decide) d_md_argument_92 (fun c5 => ?_) (fun c5 => ?_)
    · have h := h.1 c5
      refine PX.sub [some (.ref 121)] ⟨rfl, trivial⟩ ?_
      exact J_md_argument_100 d g hF hL h
    · have h := h.2 c5
      refine PW.aload_n g rfl rfl d_md_argument_95 ?_
      refine PX.cVz [] [] g rfl ck_md (c_md_fail d  hL h) cl_md_213 (by omega) (by decide) rfl rfl (Nat.le_of_ble_eq_true rfl) d_md_argument_96 (fun v1 I4 R1 hL hzv1 h => ?_)
      exact PX.zret g hF rfl hzv1 d_md_argument_99 hL h
def j_md_argument_45 (Q : Int32 → pI → pR → Prop) (s1 : Int32) (s2 : Int32) (I : pI) (R : pR) : Prop := (vp_in s1 200 ∧ ∀ I1, I1 = pw_wI I 141 s1.toNatClampNeg s2 → (vp_in (I1 121 7) 128 ∧ ((¬ (I1 123 (I1 121 7).toNatClampNeg) = (33 : Int32) → (j_md_argument_70 Q I1 R)) ∧ ((I1 123 (I1 121 7).toNatClampNeg) = (33 : Int32) → (∀ I5, I5 = pw_wI I1 121 7 ((I1 121 7) + (1 : Int32)) → (j_md_argument_70 Q I5 R))))))
set_option maxHeartbeats 4000000 in
set_option maxRecDepth 100000 in
theorem J_md_argument_45 (d : Nat) {Q : Int32 → pI → pR → Prop} {s1 : Int32} {s2 : Int32} {E : pE} {B : pB} (g : pw_G m_md_argument (d + 2) 0 0 E B) (hF : pX (qz Q) E B) {I : pI} {R : pR} (hL : pw_Lay R) (h : j_md_argument_45  Q s1 s2 I R) : PX E B m_md_argument.2.2.1 45 [some (.ref 121)] [.int s2, .int s1, .ref 141] I R := by
  unfold j_md_argument_45 at h
  refine PW.iast g rfl h.1 d_md_argument_45 ?_
  refine PX.gI (fun I1 eI1 => ?_)
  have h := h.2 _ eI1
  refine PW.aload_n g rfl rfl d_md_argument_46 ?_
  refine PW.getR (q := 123) g fi_md_13 rfl (hL 121 12 3 rfl (by decide)) d_md_argument_47 ?_
  refine PW.aload_n g rfl rfl d_md_argument_50 ?_
  refine PW.getI g fi_md_207 rfl d_md_argument_51 ?_
  refine PW.iald g rfl h.1 d_md_argument_54 ?_
  have h := h.2
  refine PW.bipush g (33) (by decide) d_md_argument_55 ?_
  refine PW.icmp_ne g 70 (by decide) d_md_argument_57 (fun c3 => ?_) (fun c3 => ?_)
  · have h := h.1 c3
    refine PX.sub [some (.ref 121)] ⟨rfl, trivial⟩ ?_
    exact J_md_argument_70 d g hF hL h
  · have h := h.2 c3
    refine PW.aload_n g rfl rfl d_md_argument_60 ?_
    refine PW.dup g rfl d_md_argument_61 ?_
    refine PW.getI g fi_md_207 rfl d_md_argument_62 ?_
    refine PW.iconst g (1) (by decide) d_md_argument_65 ?_
    refine PW.iadd g d_md_argument_66 ?_
    refine PW.putI g fi_md_207 rfl rfl rfl d_md_argument_67 ?_
    refine PX.gI (fun I5 eI5 => ?_)
    have h := h _ eI5
    refine PX.sub [some (.ref 121)] ⟨rfl, trivial⟩ ?_
    exact J_md_argument_70 d g hF hL h
def w_md_argument (I : pI) (R : pR) (Q : Int32 → pI → pR → Prop) : Prop := (vp_in (I 121 7) 128 ∧ ((¬ (I 123 (I 121 7).toNatClampNeg) = (95 : Int32) → (vp_in (I 121 7) 128 ∧ ((¬ (I 123 (I 121 7).toNatClampNeg) = (33 : Int32) → (j_md_argument_45 Q (I 121 32) (1 : Int32) I R)) ∧ ((I 123 (I 121 7).toNatClampNeg) = (33 : Int32) → (j_md_argument_45 Q (I 121 32) (2 : Int32) I R))))) ∧ ((I 123 (I 121 7).toNatClampNeg) = (95 : Int32) → (j_md_argument_45 Q (I 121 32) (0 : Int32) I R))))
set_option maxHeartbeats 4000000 in
set_option maxRecDepth 100000 in
theorem c_md_argument (d : Nat) {I : pI} {R : pR} {Q : Int32 → pI → pR → Prop} (hL : pw_Lay R) (h : w_md_argument  I R Q) : Cm (d + 2) m_md_argument [.ref 121] I R (qz Q) := by
  refine Cm.of [some (.ref 121)] (by decide) rfl (Nat.le_of_ble_eq_true rfl) (by simp) (fun E B g hF => ?_)
  unfold w_md_argument at h
  refine PW.aload_n g rfl rfl d_md_argument_0 ?_
  refine PW.getR (q := 141) g fi_md_67 rfl (hL 121 12 26 rfl (by decide)) d_md_argument_1 ?_
  refine PW.aload_n g rfl rfl d_md_argument_4 ?_
  refine PW.getI g fi_md_275 rfl d_md_argument_5 ?_
  refine PW.aload_n g rfl rfl d_md_argument_8 ?_
  refine PW.getR (q := 123) g fi_md_13 rfl (hL 121 12 3 rfl (by decide)) d_md_argument_9 ?_
  refine PW.aload_n g rfl rfl d_md_argument_12 ?_
  refine PW.getI g fi_md_207 rfl d_md_argument_13 ?_
  refine PW.iald g rfl h.1 d_md_argument_16 ?_
  have h := h.2
  refine PW.bipush g (95) (by decide) d_md_argument_17 ?_
  refine PW.icmp_ne g 26 (by decide) d_md_argument_19 (fun c1 => ?_) (fun c1 => ?_)
  · have h := h.1 c1
    refine PW.aload_n g rfl rfl d_md_argument_26 ?_
    refine PW.getR (q := 123) g fi_md_13 rfl (hL 121 12 3 rfl (by decide)) d_md_argument_27 ?_
    refine PW.aload_n g rfl rfl d_md_argument_30 ?_
    refine PW.getI g fi_md_207 rfl d_md_argument_31 ?_
    refine PW.iald g rfl h.1 d_md_argument_34 ?_
    have h := h.2
    refine PW.bipush g (33) (by decide) d_md_argument_35 ?_
    refine PW.icmp_ne g 44 (by decide) d_md_argument_37 (fun c2 => ?_) (fun c2 => ?_)
    · have h := h.1 c2
      refine PW.iconst g (1) (by decide) d_md_argument_44 ?_
      refine PX.sub [some (.ref 121)] ⟨rfl, trivial⟩ ?_
      exact J_md_argument_45 d g hF hL h
    · have h := h.2 c2
      refine PW.iconst g (2) (by decide) d_md_argument_40 ?_
      refine PW.goto g 45 (by decide) d_md_argument_41 ?_
      refine PX.sub [some (.ref 121)] ⟨rfl, trivial⟩ ?_
      exact J_md_argument_45 d g hF hL h
  · have h := h.2 c1
    refine PW.iconst g (0) (by decide) d_md_argument_22 ?_
    refine PW.goto g 45 (by decide) d_md_argument_23 ?_
    refine PX.sub [some (.ref 121)] ⟨rfl, trivial⟩ ?_
    exact J_md_argument_45 d g hF hL h
def j_md_rule_289 (K241 : Int32 → pI → pR → Prop) (Q : Int32 → pI → pR → Prop) (x2 : Int32) (I : pI) (R : pR) : Prop := (vp_in (I 121 7) 128 ∧ (((I 123 (I 121 7).toNatClampNeg) = (1 : Int32) → (vp_in (I 121 7) 128 ∧ (vp_in (I 121 33) 240 ∧ ∀ I14, I14 = pw_wI I 146 (I 121 33).toNatClampNeg (x2 * (I 124 (I 121 7).toNatClampNeg)) → (∀ I15, I15 = pw_wI I14 121 33 ((I14 121 33) + (1 : Int32)) → (∀ I16, I16 = pw_wI I15 121 7 ((I15 121 7) + (1 : Int32)) → (vp_in (I16 121 7) 128 ∧ ((¬ (I16 123 (I16 121 7).toNatClampNeg) = (44 : Int32) → K241 (0 : Int32) I16 R) ∧ ((I16 123 (I16 121 7).toNatClampNeg) = (44 : Int32) → K241 (1 : Int32) I16 R)))))))) ∧ (¬ (I 123 (I 121 7).toNatClampNeg) = (1 : Int32) → (w_md_fail  I R (fun v7 I17 R7 => Q v7 I17 R7)))))
set_option maxHeartbeats 4000000 in
set_option maxRecDepth 100000 in
theorem J_md_rule_289 (d : Nat) {K241 : Int32 → pI → pR → Prop} {Q : Int32 → pI → pR → Prop} {x2 : Int32} {E : pE} {B : pB} (g : pw_G m_md_rule (d + 3) 0 0 E B) (hF : pX (qz Q) E B) (hK241 : ∀ (y1 : Int32) (I : pI) (R : pR), pw_Lay R → K241 y1 I R → PX E B m_md_rule.2.2.1 241 [some (.ref 121), some (.int y1), none] [] I R) {I : pI} {R : pR} (hL : pw_Lay R) (h : j_md_rule_289  K241 Q x2 I R) : PX E B m_md_rule.2.2.1 289 [some (.ref 121), none, some (.int x2)] [] I R := by
  unfold j_md_rule_289 at h
  refine PW.aload_n g rfl rfl d_md_rule_289 ?_
  refine PW.getR (q := 123) g fi_md_13 rfl (hL 121 12 3 rfl (by decide)) d_md_rule_290 ?_
  refine PW.aload_n g rfl rfl d_md_rule_293 ?_
  refine PW.getI g fi_md_207 rfl d_md_rule_294 ?_
  refine PW.iald g rfl h.1 d_md_rule_297 ?_
  have h := h.2
  refine PW.iconst g (1) (by decide) d_md_rule_298 ?_
  refine PW.icmp_eq g 307 (by decide) d_md_rule_299 (fun c12 => ?_) (fun c12 => ?_)
  · have h := h.1 c12
    refine PW.aload_n g rfl rfl d_md_rule_307 ?_
    refine PW.getR (q := 146) g fi_md_82 rfl (hL 121 12 31 rfl (by decide)) d_md_rule_308 ?_
    refine PW.aload_n g rfl rfl d_md_rule_311 ?_
    refine PW.getI g fi_md_303 rfl d_md_rule_312 ?_
    refine PW.iload_n g rfl rfl d_md_rule_315 ?_
    refine PW.aload_n g rfl rfl d_md_rule_316 ?_
    refine PW.getR (q := 124) g fi_md_16 rfl (hL 121 12 4 rfl (by decide)) d_md_rule_317 ?_
    refine PW.aload_n g rfl rfl d_md_rule_320 ?_
    refine PW.getI g fi_md_207 rfl d_md_rule_321 ?_
    refine PW.iald g rfl h.1 d_md_rule_324 ?_
    have h := h.2
    refine PW.imul g d_md_rule_325 ?_
    refine PW.iast g rfl h.1 d_md_rule_326 ?_
    refine PX.gI (fun I14 eI14 => ?_)
    have h := h.2 _ eI14
    refine PW.aload_n g rfl rfl d_md_rule_327 ?_
    refine PW.dup g rfl d_md_rule_328 ?_
    refine PW.getI g fi_md_303 rfl d_md_rule_329 ?_
    refine PW.iconst g (1) (by decide) d_md_rule_332 ?_
    refine PW.iadd g d_md_rule_333 ?_
    refine PW.putI g fi_md_303 rfl rfl rfl d_md_rule_334 ?_
    refine PX.gI (fun I15 eI15 => ?_)
    have h := h _ eI15
    refine PW.aload_n g rfl rfl d_md_rule_337 ?_
    refine PW.dup g rfl d_md_rule_338 ?_
    refine PW.getI g fi_md_207 rfl d_md_rule_339 ?_
    refine PW.iconst g (1) (by decide) d_md_rule_342 ?_
    refine PW.iadd g d_md_rule_343 ?_
    refine PW.putI g fi_md_207 rfl rfl rfl d_md_rule_344 ?_
    refine PX.gI (fun I16 eI16 => ?_)
    have h := h _ eI16
    refine PW.aload_n g rfl rfl d_md_rule_347 ?_
    refine PW.getR (q := 123) g fi_md_13 rfl (hL 121 12 3 rfl (by decide)) d_md_rule_348 ?_
    refine PW.aload_n g rfl rfl d_md_rule_351 ?_
    refine PW.getI g fi_md_207 rfl d_md_rule_352 ?_
    refine PW.iald g rfl h.1 d_md_rule_355 ?_
    have h := h.2
    refine PW.bipush g (44) (by decide) d_md_rule_356 ?_
    refine PW.icmp_ne g 365 (by decide) d_md_rule_358 (fun c13 => ?_) (fun c13 => ?_)
    · have h := h.1 c13
      refine PW.iconst g (0) (by decide) d_md_rule_365 ?_
      refine PW.istore_n g rfl (L' := [some (.ref 121), some (.int (0 : Int32)), some (.int x2)]) (by decide) rfl rfl d_md_rule_366 ?_
      refine PW.goto g 241 (by decide) d_md_rule_367 ?_
      refine PX.sub [some (.ref 121), some (.int (0 : Int32)), none] ⟨rfl, ⟨rfl, trivial⟩⟩ ?_
      exact hK241 _ _ _ hL h
    · have h := h.2 c13
      refine PW.iconst g (1) (by decide) d_md_rule_361 ?_
      refine PW.goto g 366 (by decide) d_md_rule_362 ?_
      refine PW.istore_n g rfl (L' := [some (.ref 121), some (.int (1 : Int32)), some (.int x2)]) (by decide) rfl rfl d_md_rule_366 ?_
      refine PW.goto g 241 (by decide) d_md_rule_367 ?_
      refine PX.sub [some (.ref 121), some (.int (1 : Int32)), none] ⟨rfl, ⟨rfl, trivial⟩⟩ ?_
      exact hK241 _ _ _ hL h
  · have h := h.2 c12
    refine PW.aload_n g rfl rfl d_md_rule_302 ?_
    refine PX.cVz [] [] g rfl ck_md (c_md_fail d  hL h) cl_md_213 (by omega) (by decide) rfl rfl (Nat.le_of_ble_eq_true rfl) d_md_rule_303 (fun v7 I17 R7 hL hzv7 h => ?_)
    exact PX.zret g hF rfl hzv7 d_md_rule_306 hL h
def j_md_rule_274 (K241 : Int32 → pI → pR → Prop) (Q : Int32 → pI → pR → Prop) (s0 : Int32) (I : pI) (R : pR) : Prop := ((0 ≤ s0 → (j_md_rule_289 (fun y1 I18 R8 => K241 y1 I18 R8) Q s0 I R)) ∧ (¬ 0 ≤ s0 → (∀ I19, I19 = pw_wI I 121 7 ((I 121 7) + (1 : Int32)) → (j_md_rule_289 (fun y2 I20 R9 => K241 y2 I20 R9) Q s0 I19 R))))
set_option maxHeartbeats 4000000 in
set_option maxRecDepth 100000 in
theorem J_md_rule_274 (d : Nat) {K241 : Int32 → pI → pR → Prop} {Q : Int32 → pI → pR → Prop} {s0 : Int32} {E : pE} {B : pB} (g : pw_G m_md_rule (d + 3) 0 0 E B) (hF : pX (qz Q) E B) (hK241 : ∀ (y1 : Int32) (I : pI) (R : pR), pw_Lay R → K241 y1 I R → PX E B m_md_rule.2.2.1 241 [some (.ref 121), some (.int y1), none] [] I R) {I : pI} {R : pR} (hL : pw_Lay R) (h : j_md_rule_274  K241 Q s0 I R) : PX E B m_md_rule.2.2.1 274 [some (.ref 121), none, none] [.int s0] I R := by
  unfold j_md_rule_274 at h
  refine PW.istore_n g rfl (L' := [some (.ref 121), none, some (.int s0)]) (by decide) rfl rfl d_md_rule_274 ?_
  refine PW.iload_n g rfl rfl d_md_rule_275 ?_
  refine PW.if_ge g 289 (by decide) d_md_rule_276 (fun c11 => ?_) (fun c11 => ?_)
  · have h := h.1 c11
    refine PX.sub [some (.ref 121), none, some (.int s0)] ⟨rfl, ⟨rfl, trivial⟩⟩ ?_
    refine J_md_rule_289 d g hF (fun y1 I18 R8 hL h => ?_) hL h
    refine PX.sub [some (.ref 121), some (.int y1), none] ⟨rfl, ⟨rfl, trivial⟩⟩ ?_
    exact hK241 _ _ _ hL h
  · have h := h.2 c11
    refine PW.aload_n g rfl rfl d_md_rule_279 ?_
    refine PW.dup g rfl d_md_rule_280 ?_
    refine PW.getI g fi_md_207 rfl d_md_rule_281 ?_
    refine PW.iconst g (1) (by decide) d_md_rule_284 ?_
    refine PW.iadd g d_md_rule_285 ?_
    refine PW.putI g fi_md_207 rfl rfl rfl d_md_rule_286 ?_
    refine PX.gI (fun I19 eI19 => ?_)
    have h := h _ eI19
    refine PX.sub [some (.ref 121), none, some (.int s0)] ⟨rfl, ⟨rfl, trivial⟩⟩ ?_
    refine J_md_rule_289 d g hF (fun y2 I20 R9 hL h => ?_) hL h
    refine PX.sub [some (.ref 121), some (.int y2), none] ⟨rfl, ⟨rfl, trivial⟩⟩ ?_
    exact hK241 _ _ _ hL h
def l_md_rule_241 (K : pI → pR → Prop) (Q : Int32 → pI → pR → Prop) : Nat → Int32 → pI → pR → Prop
  | 0, _, _, _ => False
  | n + 1, x1, I, R => ((x1 = 0 → K I R) ∧ (¬ x1 = 0 → (∀ I13, I13 = pw_wI I 121 7 ((I 121 7) + (1 : Int32)) → (vp_in (I13 121 7) 128 ∧ ((¬ (I13 123 (I13 121 7).toNatClampNeg) = (45 : Int32) → (j_md_rule_274 (fun y3 I21 R10 => l_md_rule_241 K Q n y3 I21 R10) Q (1 : Int32) I13 R)) ∧ ((I13 123 (I13 121 7).toNatClampNeg) = (45 : Int32) → (j_md_rule_274 (fun y4 I22 R11 => l_md_rule_241 K Q n y4 I22 R11) Q (-1 : Int32) I13 R)))))))
set_option maxHeartbeats 4000000 in
set_option maxRecDepth 100000 in
theorem L_md_rule_241 (d : Nat) {K : pI → pR → Prop} {Q : Int32 → pI → pR → Prop} {E : pE} {B : pB} (g : pw_G m_md_rule (d + 3) 0 0 E B) (hF : pX (qz Q) E B) (hK : ∀ (I : pI) (R : pR), pw_Lay R → K  I R → PX E B m_md_rule.2.2.1 370 [some (.ref 121), none, none] [] I R) : ∀ (n : Nat) (x1 : Int32) (I : pI) (R : pR), pw_Lay R → l_md_rule_241  K Q n x1 I R → PX E B m_md_rule.2.2.1 241 [some (.ref 121), some (.int x1), none] [] I R := by
  intro n
  induction n with
  | zero => intro x1 I R hL h; exact False.elim h
  | succ n ih =>
    intro x1 I R hL h
    refine PW.iload_n g rfl rfl d_md_rule_241 ?_
    refine PW.if_eq g 370 (by decide) d_md_rule_242 (fun c9 => ?_) (fun c9 => ?_)
    · have h := h.1 c9
      refine PX.sub [some (.ref 121), none, none] ⟨rfl, trivial⟩ ?_
      exact hK _ _ hL h
    · have h := h.2 c9
      refine PW.aload_n g rfl rfl d_md_rule_245 ?_
      refine PW.dup g rfl d_md_rule_246 ?_
      refine PW.getI g fi_md_207 rfl d_md_rule_247 ?_
      refine PW.iconst g (1) (by decide) d_md_rule_250 ?_
      refine PW.iadd g d_md_rule_251 ?_
      refine PW.putI g fi_md_207 rfl rfl rfl d_md_rule_252 ?_
      refine PX.gI (fun I13 eI13 => ?_)
      have h := h _ eI13
      refine PW.aload_n g rfl rfl d_md_rule_255 ?_
      refine PW.getR (q := 123) g fi_md_13 rfl (hL 121 12 3 rfl (by decide)) d_md_rule_256 ?_
      refine PW.aload_n g rfl rfl d_md_rule_259 ?_
      refine PW.getI g fi_md_207 rfl d_md_rule_260 ?_
      refine PW.iald g rfl h.1 d_md_rule_263 ?_
      have h := h.2
      refine PW.bipush g (45) (by decide) d_md_rule_264 ?_
      refine PW.icmp_ne g 273 (by decide) d_md_rule_266 (fun c10 => ?_) (fun c10 => ?_)
      · have h := h.1 c10
        refine PW.iconst g (1) (by decide) d_md_rule_273 ?_
        refine PX.sub [some (.ref 121), none, none] ⟨rfl, trivial⟩ ?_
        refine J_md_rule_274 d g hF (fun y3 I21 R10 hL h => ?_) hL h
        refine PX.sub [some (.ref 121), some (.int y3), none] ⟨rfl, ⟨rfl, trivial⟩⟩ ?_
        exact ih _ _ _ hL h
      · have h := h.2 c10
        refine PW.iconst g (-1) (by decide) d_md_rule_269 ?_
        refine PW.goto g 274 (by decide) d_md_rule_270 ?_
        refine PX.sub [some (.ref 121), none, none] ⟨rfl, trivial⟩ ?_
        refine J_md_rule_274 d g hF (fun y4 I22 R11 hL h => ?_) hL h
        refine PX.sub [some (.ref 121), some (.int y4), none] ⟨rfl, ⟨rfl, trivial⟩⟩ ?_
        exact ih _ _ _ hL h
def j_md_rule_169 (Q : Int32 → pI → pR → Prop) (s1 : Int32) (s2 : Int32) (I : pI) (R : pR) : Prop := (vp_in s1 200 ∧ ∀ I7, I7 = pw_wI I 140 s1.toNatClampNeg s2 → (∀ I8, I8 = pw_wI I7 121 7 ((I7 121 7) + (1 : Int32)) → (w_md_want (40 : Int32) I8 R (fun v4 I9 R4 => ((v4 = 0 → Q (0 : Int32) I9 R4) ∧ (¬ v4 = 0 → (w_md_argument  I9 R4 (fun v5 I10 R5 => ((v5 = 0 → Q (0 : Int32) I10 R5) ∧ (¬ v5 = 0 → (w_md_want (41 : Int32) I10 R5 (fun v6 I11 R6 => ((¬ v6 = 0 → (vp_in (I11 121 32) 200 ∧ ∀ I12, I12 = pw_wI I11 143 (I11 121 32).toNatClampNeg (I11 121 33) → (vp_in (I12 121 7) 128 ∧ ((¬ (I12 123 (I12 121 7).toNatClampNeg) = (134 : Int32) → (∃ n1, l_md_rule_241 (fun I23 R12 => (vp_in (I23 121 32) 200 ∧ ∀ I24, I24 = pw_wI I23 144 (I23 121 32).toNatClampNeg (I23 121 33) → (vp_in (I24 121 32) 200 ∧ (((I24 139 (I24 121 32).toNatClampNeg) < 0 → (w_md_finish I24 R12 (fun I25 R13 => Q (1 : Int32) I25 R13))) ∧ (¬ (I24 139 (I24 121 32).toNatClampNeg) < 0 → (vp_in (I24 121 32) 200 ∧ (vp_in (I24 121 32) 200 ∧ (((I24 138 (I24 121 32).toNatClampNeg) ≤ (I24 139 (I24 121 32).toNatClampNeg) → (w_md_finish I24 R12 (fun I26 R14 => Q (1 : Int32) I26 R14))) ∧ (¬ (I24 138 (I24 121 32).toNatClampNeg) ≤ (I24 139 (I24 121 32).toNatClampNeg) → (vp_in (I24 121 32) 200 ∧ (w_md_found (5 : Int32) (I24 136 (I24 121 32).toNatClampNeg) I24 R12 (fun I27 R15 => (w_md_finish I27 R15 (fun I28 R16 => Q (1 : Int32) I28 R16)))))))))))))) Q n1 (0 : Int32) I12 R6)) ∧ ((I12 123 (I12 121 7).toNatClampNeg) = (134 : Int32) → (∃ n2, l_md_rule_241 (fun I29 R17 => (vp_in (I29 121 32) 200 ∧ ∀ I30, I30 = pw_wI I29 144 (I29 121 32).toNatClampNeg (I29 121 33) → (vp_in (I30 121 32) 200 ∧ (((I30 139 (I30 121 32).toNatClampNeg) < 0 → (w_md_finish I30 R17 (fun I31 R18 => Q (1 : Int32) I31 R18))) ∧ (¬ (I30 139 (I30 121 32).toNatClampNeg) < 0 → (vp_in (I30 121 32) 200 ∧ (vp_in (I30 121 32) 200 ∧ (((I30 138 (I30 121 32).toNatClampNeg) ≤ (I30 139 (I30 121 32).toNatClampNeg) → (w_md_finish I30 R17 (fun I32 R19 => Q (1 : Int32) I32 R19))) ∧ (¬ (I30 138 (I30 121 32).toNatClampNeg) ≤ (I30 139 (I30 121 32).toNatClampNeg) → (vp_in (I30 121 32) 200 ∧ (w_md_found (5 : Int32) (I30 136 (I30 121 32).toNatClampNeg) I30 R17 (fun I33 R20 => (w_md_finish I33 R20 (fun I34 R21 => Q (1 : Int32) I34 R21)))))))))))))) Q n2 (1 : Int32) I12 R6)))))) ∧ (v6 = 0 → Q (0 : Int32) I11 R6))))))))))))))
set_option maxHeartbeats 4000000 in
set_option maxRecDepth 100000 in
theorem J_md_rule_169 (d : Nat) {Q : Int32 → pI → pR → Prop} {s1 : Int32} {s2 : Int32} {E : pE} {B : pB} (g : pw_G m_md_rule (d + 3) 0 0 E B) (hF : pX (qz Q) E B) {I : pI} {R : pR} (hL : pw_Lay R) (h : j_md_rule_169  Q s1 s2 I R) : PX E B m_md_rule.2.2.1 169 [some (.ref 121), none, none] [.int s2, .int s1, .ref 140] I R := by
  unfold j_md_rule_169 at h
  refine PW.iast g rfl h.1 d_md_rule_169 ?_
  refine PX.gI (fun I7 eI7 => ?_)
  have h := h.2 _ eI7
  refine PW.aload_n g rfl rfl d_md_rule_170 ?_
  refine PW.dup g rfl d_md_rule_171 ?_
  refine PW.getI g fi_md_207 rfl d_md_rule_172 ?_
  refine PW.iconst g (1) (by decide) d_md_rule_175 ?_
  refine PW.iadd g d_md_rule_176 ?_
  refine PW.putI g fi_md_207 rfl rfl rfl d_md_rule_177 ?_
  refine PX.gI (fun I8 eI8 => ?_)
  have h := h _ eI8
  refine PW.aload_n g rfl rfl d_md_rule_180 ?_
  refine PW.bipush g (40) (by decide) d_md_rule_181 ?_
  refine PX.cVz [.int (40 : Int32)] [] g rfl ck_md (c_md_want d  hL h) cl_md_297 (by omega) (by decide) rfl rfl (Nat.le_of_ble_eq_true rfl) d_md_rule_183 (fun v4 I9 R4 hL hzv4 h => ?_)
  refine PW.if_eq g 205 (by decide) d_md_rule_186 (fun c5 => ?_) (fun c5 => ?_)
  · have h := h.1 c5
    refine PW.iconst g (0) (by decide) d_md_rule_205 ?_
    exact PX.zret g hF rfl (Or.inl rfl) d_md_rule_206 hL h
  · have h := h.2 c5
    refine PW.aload_n g rfl rfl d_md_rule_189 ?_
    refine PX.cVz [] [] g rfl ck_md (c_md_argument d  hL h) cl_md_300 (by omega) (by decide) rfl rfl (Nat.le_of_ble_eq_true rfl) d_md_rule_190 (fun v5 I10 R5 hL hzv5 h => ?_)
    refine PW.if_eq g 205 (by decide) d_md_rule_193 (fun c6 => ?_) (fun c6 => ?_)
    · have h := h.1 c6
      refine PW.iconst g (0) (by decide) d_md_rule_205 ?_
      exact PX.zret g hF rfl (Or.inl rfl) d_md_rule_206 hL h
    · have h := h.2 c6
      refine PW.aload_n g rfl rfl d_md_rule_196 ?_
      refine PW.bipush g (41) (by decide) d_md_rule_197 ?_
      refine PX.cVz [.int (41 : Int32)] [] g rfl ck_md (c_md_want d  hL h) cl_md_297 (by omega) (by decide) rfl rfl (Nat.le_of_ble_eq_true rfl) d_md_rule_199 (fun v6 I11 R6 hL hzv6 h => ?_)
      refine PW.if_ne g 207 (by decide) d_md_rule_202 (fun c7 => ?_) (fun c7 => ?_)
      · have h := h.1 c7
        refine PW.aload_n g rfl rfl d_md_rule_207 ?_
        refine PW.getR (q := 143) g fi_md_73 rfl (hL 121 12 28 rfl (by decide)) d_md_rule_208 ?_
        refine PW.aload_n g rfl rfl d_md_rule_211 ?_
        refine PW.getI g fi_md_275 rfl d_md_rule_212 ?_
        refine PW.aload_n g rfl rfl d_md_rule_215 ?_
        refine PW.getI g fi_md_303 rfl d_md_rule_216 ?_
        refine PW.iast g rfl h.1 d_md_rule_219 ?_
        refine PX.gI (fun I12 eI12 => ?_)
        have h := h.2 _ eI12
        refine PW.aload_n g rfl rfl d_md_rule_220 ?_
        refine PW.getR (q := 123) g fi_md_13 rfl (hL 121 12 3 rfl (by decide)) d_md_rule_221 ?_
        refine PW.aload_n g rfl rfl d_md_rule_224 ?_
        refine PW.getI g fi_md_207 rfl d_md_rule_225 ?_
        refine PW.iald g rfl h.1 d_md_rule_228 ?_
        have h := h.2
        refine PW.sipush g (134) (by decide) d_md_rule_229 ?_
        refine PW.icmp_ne g 239 (by decide) d_md_rule_232 (fun c8 => ?_) (fun c8 => ?_)
        · have h := h.1 c8
          refine PW.iconst g (0) (by decide) d_md_rule_239 ?_
          refine PW.istore_n g rfl (L' := [some (.ref 121), some (.int (0 : Int32)), none]) (by decide) rfl rfl d_md_rule_240 ?_
          refine PX.sub [some (.ref 121), some (.int (0 : Int32)), none] ⟨rfl, ⟨rfl, trivial⟩⟩ ?_
          obtain ⟨n1, h⟩ := h
          refine L_md_rule_241 d g hF (fun I23 R12 hL h => ?_) n1 (0 : Int32) I12 R6 hL h
          refine PW.aload_n g rfl rfl d_md_rule_370 ?_
          refine PW.getR (q := 144) g fi_md_76 rfl (hL 121 12 29 rfl (by decide)) d_md_rule_371 ?_
          refine PW.aload_n g rfl rfl d_md_rule_374 ?_
          refine PW.getI g fi_md_275 rfl d_md_rule_375 ?_
          refine PW.aload_n g rfl rfl d_md_rule_378 ?_
          refine PW.getI g fi_md_303 rfl d_md_rule_379 ?_
          refine PW.iast g rfl h.1 d_md_rule_382 ?_
          refine PX.gI (fun I24 eI24 => ?_)
          have h := h.2 _ eI24
          refine PW.aload_n g rfl rfl d_md_rule_383 ?_
          refine PW.getR (q := 139) g fi_md_61 rfl (hL 121 12 24 rfl (by decide)) d_md_rule_384 ?_
          refine PW.aload_n g rfl rfl d_md_rule_387 ?_
          refine PW.getI g fi_md_275 rfl d_md_rule_388 ?_
          refine PW.iald g rfl h.1 d_md_rule_391 ?_
          have h := h.2
          refine PW.if_lt g 430 (by decide) d_md_rule_392 (fun c14 => ?_) (fun c14 => ?_)
          · have h := h.1 c14
            refine PW.aload_n g rfl rfl d_md_rule_430 ?_
            refine PX.cVv [] [] g rfl ck_md (c_md_finish d  hL h) cl_md_291 (by omega) (by decide) rfl rfl (Nat.le_of_ble_eq_true rfl) d_md_rule_431 (fun I25 R13 hL h => ?_)
            refine PW.iconst g (1) (by decide) d_md_rule_434 ?_
            exact PX.zret g hF rfl (Or.inr rfl) d_md_rule_435 hL h
          · have h := h.2 c14
            refine PW.aload_n g rfl rfl d_md_rule_395 ?_
            refine PW.getR (q := 139) g fi_md_61 rfl (hL 121 12 24 rfl (by decide)) d_md_rule_396 ?_
            refine PW.aload_n g rfl rfl d_md_rule_399 ?_
            refine PW.getI g fi_md_275 rfl d_md_rule_400 ?_
            refine PW.iald g rfl h.1 d_md_rule_403 ?_
            have h := h.2
            refine PW.aload_n g rfl rfl d_md_rule_404 ?_
            refine PW.getR (q := 138) g fi_md_58 rfl (hL 121 12 23 rfl (by decide)) d_md_rule_405 ?_
            refine PW.aload_n g rfl rfl d_md_rule_408 ?_
            refine PW.getI g fi_md_275 rfl d_md_rule_409 ?_
            refine PW.iald g rfl h.1 d_md_rule_412 ?_
            have h := h.2
            refine PW.icmp_ge g 430 (by decide) d_md_rule_413 (fun c15 => ?_) (fun c15 => ?_)
            · have h := h.1 c15
              refine PW.aload_n g rfl rfl d_md_rule_430 ?_
              refine PX.cVv [] [] g rfl ck_md (c_md_finish d  hL h) cl_md_291 (by omega) (by decide) rfl rfl (Nat.le_of_ble_eq_true rfl) d_md_rule_431 (fun I26 R14 hL h => ?_)
              refine PW.iconst g (1) (by decide) d_md_rule_434 ?_
              exact PX.zret g hF rfl (Or.inr rfl) d_md_rule_435 hL h
            · have h := h.2 c15
              refine PW.aload_n g rfl rfl d_md_rule_416 ?_
              refine PW.iconst g (5) (by decide) d_md_rule_417 ?_
              refine PW.aload_n g rfl rfl d_md_rule_418 ?_
              refine PW.getR (q := 136) g fi_md_52 rfl (hL 121 12 21 rfl (by decide)) d_md_rule_419 ?_
              refine PW.aload_n g rfl rfl d_md_rule_422 ?_
              refine PW.getI g fi_md_275 rfl d_md_rule_423 ?_
              refine PW.iald g rfl h.1 d_md_rule_426 ?_
              have h := h.2
              refine PX.cVv [.int (5 : Int32), .int (I24 136 (I24 121 32).toNatClampNeg)] [] g rfl ck_md (c_md_found d  hL h) cl_md_306 (by omega) (by decide) rfl rfl (Nat.le_of_ble_eq_true rfl) d_md_rule_427 (fun I27 R15 hL h => ?_)
              refine PW.aload_n g rfl rfl d_md_rule_430 ?_
              refine PX.cVv [] [] g rfl ck_md (c_md_finish d  hL h) cl_md_291 (by omega) (by decide) rfl rfl (Nat.le_of_ble_eq_true rfl) d_md_rule_431 (fun I28 R16 hL h => ?_)
              refine PW.iconst g (1) (by decide) d_md_rule_434 ?_
              exact PX.zret g hF rfl (Or.inr rfl) d_md_rule_435 hL h
        · have h := h.2 c8
          refine PW.iconst g (1) (by decide) d_md_rule_235 ?_
          refine PW.goto g 240 (by decide) d_md_rule_236 ?_
          refine PW.istore_n g rfl (L' := [some (.ref 121), some (.int (1 : Int32)), none]) (by decide) rfl rfl d_md_rule_240 ?_
          refine PX.sub [some (.ref 121), some (.int (1 : Int32)), none] ⟨rfl, ⟨rfl, trivial⟩⟩ ?_
          obtain ⟨n2, h⟩ := h
          refine L_md_rule_241 d g hF (fun I29 R17 hL h => ?_) n2 (1 : Int32) I12 R6 hL h
          refine PW.aload_n g rfl rfl d_md_rule_370 ?_
          refine PW.getR (q := 144) g fi_md_76 rfl (hL 121 12 29 rfl (by decide)) d_md_rule_371 ?_
          refine PW.aload_n g rfl rfl d_md_rule_374 ?_
          refine PW.getI g fi_md_275 rfl d_md_rule_375 ?_
          refine PW.aload_n g rfl rfl d_md_rule_378 ?_
          refine PW.getI g fi_md_303 rfl d_md_rule_379 ?_
          refine PW.iast g rfl h.1 d_md_rule_382 ?_
          refine PX.gI (fun I30 eI30 => ?_)
          have h := h.2 _ eI30
          refine PW.aload_n g rfl rfl d_md_rule_383 ?_
          refine PW.getR (q := 139) g fi_md_61 rfl (hL 121 12 24 rfl (by decide)) d_md_rule_384 ?_
          refine PW.aload_n g rfl rfl d_md_rule_387 ?_
          refine PW.getI g fi_md_275 rfl d_md_rule_388 ?_
          refine PW.iald g rfl h.1 d_md_rule_391 ?_
          have h := h.2
          refine PW.if_lt g 430 (by decide) d_md_rule_392 (fun c16 => ?_) (fun c16 => ?_)
          · have h := h.1 c16
            refine PW.aload_n g rfl rfl d_md_rule_430 ?_
            refine PX.cVv [] [] g rfl ck_md (c_md_finish d  hL h) cl_md_291 (by omega) (by decide) rfl rfl (Nat.le_of_ble_eq_true rfl) d_md_rule_431 (fun I31 R18 hL h => ?_)
            refine PW.iconst g (1) (by decide) d_md_rule_434 ?_
            exact PX.zret g hF rfl (Or.inr rfl) d_md_rule_435 hL h
          · have h := h.2 c16
            refine PW.aload_n g rfl rfl d_md_rule_395 ?_
            refine PW.getR (q := 139) g fi_md_61 rfl (hL 121 12 24 rfl (by decide)) d_md_rule_396 ?_
            refine PW.aload_n g rfl rfl d_md_rule_399 ?_
            refine PW.getI g fi_md_275 rfl d_md_rule_400 ?_
            refine PW.iald g rfl h.1 d_md_rule_403 ?_
            have h := h.2
            refine PW.aload_n g rfl rfl d_md_rule_404 ?_
            refine PW.getR (q := 138) g fi_md_58 rfl (hL 121 12 23 rfl (by decide)) d_md_rule_405 ?_
            refine PW.aload_n g rfl rfl d_md_rule_408 ?_
            refine PW.getI g fi_md_275 rfl d_md_rule_409 ?_
            refine PW.iald g rfl h.1 d_md_rule_412 ?_
            have h := h.2
            refine PW.icmp_ge g 430 (by decide) d_md_rule_413 (fun c17 => ?_) (fun c17 => ?_)
            · have h := h.1 c17
              refine PW.aload_n g rfl rfl d_md_rule_430 ?_
              refine PX.cVv [] [] g rfl ck_md (c_md_finish d  hL h) cl_md_291 (by omega) (by decide) rfl rfl (Nat.le_of_ble_eq_true rfl) d_md_rule_431 (fun I32 R19 hL h => ?_)
              refine PW.iconst g (1) (by decide) d_md_rule_434 ?_
              exact PX.zret g hF rfl (Or.inr rfl) d_md_rule_435 hL h
            · have h := h.2 c17
              refine PW.aload_n g rfl rfl d_md_rule_416 ?_
              refine PW.iconst g (5) (by decide) d_md_rule_417 ?_
              refine PW.aload_n g rfl rfl d_md_rule_418 ?_
              refine PW.getR (q := 136) g fi_md_52 rfl (hL 121 12 21 rfl (by decide)) d_md_rule_419 ?_
              refine PW.aload_n g rfl rfl d_md_rule_422 ?_
              refine PW.getI g fi_md_275 rfl d_md_rule_423 ?_
              refine PW.iald g rfl h.1 d_md_rule_426 ?_
              have h := h.2
              refine PX.cVv [.int (5 : Int32), .int (I30 136 (I30 121 32).toNatClampNeg)] [] g rfl ck_md (c_md_found d  hL h) cl_md_306 (by omega) (by decide) rfl rfl (Nat.le_of_ble_eq_true rfl) d_md_rule_427 (fun I33 R20 hL h => ?_)
              refine PW.aload_n g rfl rfl d_md_rule_430 ?_
              refine PX.cVv [] [] g rfl ck_md (c_md_finish d  hL h) cl_md_291 (by omega) (by decide) rfl rfl (Nat.le_of_ble_eq_true rfl) d_md_rule_431 (fun I34 R21 hL h => ?_)
              refine PW.iconst g (1) (by decide) d_md_rule_434 ?_
              exact PX.zret g hF rfl (Or.inr rfl) d_md_rule_435 hL h
      · have h := h.2 c7
        refine PW.iconst g (0) (by decide) d_md_rule_205 ?_
        exact PX.zret g hF rfl (Or.inl rfl) d_md_rule_206 hL h
def j_md_rule_115 (Q : Int32 → pI → pR → Prop) (I : pI) (R : pR) : Prop := (w_md_want (42 : Int32) I R (fun v2 I5 R2 => ((¬ v2 = 0 → (w_md_isWhom (I5 121 7) I5 R2 (fun v3 I6 R3 => ((¬ v3 = 0 → (vp_in (I6 121 7) 128 ∧ ((¬ (I6 123 (I6 121 7).toNatClampNeg) = (78 : Int32) → (j_md_rule_169 Q (I6 121 32) (0 : Int32) I6 R3)) ∧ ((I6 123 (I6 121 7).toNatClampNeg) = (78 : Int32) → (j_md_rule_169 Q (I6 121 32) (1 : Int32) I6 R3))))) ∧ (v3 = 0 → (w_md_fail  I6 R3 (fun v16 I35 R22 => Q v16 I35 R22))))))) ∧ (v2 = 0 → Q (0 : Int32) I5 R2))))
set_option maxHeartbeats 4000000 in
set_option maxRecDepth 100000 in
theorem J_md_rule_115 (d : Nat) {Q : Int32 → pI → pR → Prop} {E : pE} {B : pB} (g : pw_G m_md_rule (d + 3) 0 0 E B) (hF : pX (qz Q) E B) {I : pI} {R : pR} (hL : pw_Lay R) (h : j_md_rule_115  Q  I R) : PX E B m_md_rule.2.2.1 115 [some (.ref 121), none, none] [] I R := by
  unfold j_md_rule_115 at h
  refine PW.aload_n g rfl rfl d_md_rule_115 ?_
  refine PW.bipush g (42) (by decide) d_md_rule_116 ?_
  refine PX.cVz [.int (42 : Int32)] [] g rfl ck_md (c_md_want d  hL h) cl_md_297 (by omega) (by decide) rfl rfl (Nat.le_of_ble_eq_true rfl) d_md_rule_118 (fun v2 I5 R2 hL hzv2 h => ?_)
  refine PW.if_ne g 126 (by decide) d_md_rule_121 (fun c2 => ?_) (fun c2 => ?_)
  · have h := h.1 c2
    refine PW.aload_n g rfl rfl d_md_rule_126 ?_
    refine PW.aload_n g rfl rfl d_md_rule_127 ?_
    refine PW.getI g fi_md_207 rfl d_md_rule_128 ?_
    refine PX.cVz [.int (I5 121 7)] [] g rfl ck_md (c_md_isWhom d  hL h) cl_md_294 (by omega) (by decide) rfl rfl (Nat.le_of_ble_eq_true rfl) d_md_rule_131 (fun v3 I6 R3 hL hzv3 h => ?_)
    refine PW.if_ne g 142 (by decide) d_md_rule_134 (fun c3 => ?_) (fun c3 => ?_)
    · have h := h.1 c3
      refine PW.aload_n g rfl rfl d_md_rule_142 ?_
      refine PW.getR (q := 140) g fi_md_64 rfl (hL 121 12 25 rfl (by decide)) d_md_rule_143 ?_
      refine PW.aload_n g rfl rfl d_md_rule_146 ?_
      refine PW.getI g fi_md_275 rfl d_md_rule_147 ?_
      refine PW.aload_n g rfl rfl d_md_rule_150 ?_
      refine PW.getR (q := 123) g fi_md_13 rfl (hL 121 12 3 rfl (by decide)) d_md_rule_151 ?_
      refine PW.aload_n g rfl rfl d_md_rule_154 ?_
      refine PW.getI g fi_md_207 rfl d_md_rule_155 ?_
      refine PW.iald g rfl h.1 d_md_rule_158 ?_
      have h := h.2
      refine PW.bipush g (78) (by decide) d_md_rule_159 ?_
      refine PW.icmp_ne g 168 (by decide) d_md_rule_161 (fun c4 => ?_) (fun c4 => ?_)
      · have h := h.1 c4
        refine PW.iconst g (0) (by decide) d_md_rule_168 ?_
        refine PX.sub [some (.ref 121), none, none] ⟨rfl, trivial⟩ ?_
        exact J_md_rule_169 d g hF hL h
      · have h := h.2 c4
        refine PW.iconst g (1) (by decide) d_md_rule_164 ?_
        refine PW.goto g 169 (by decide) d_md_rule_165 ?_
        refine PX.sub [some (.ref 121), none, none] ⟨rfl, trivial⟩ ?_
        exact J_md_rule_169 d g hF hL h
    · have h := h.2 c3
      refine PW.aload_n g rfl rfl d_md_rule_137 ?_
      refine PX.cVz [] [] g rfl ck_md (c_md_fail d  hL h) cl_md_213 (by omega) (by decide) rfl rfl (Nat.le_of_ble_eq_true rfl) d_md_rule_138 (fun v16 I35 R22 hL hzv16 h => ?_)
      exact PX.zret g hF rfl hzv16 d_md_rule_141 hL h
  · have h := h.2 c2
    refine PW.iconst g (0) (by decide) d_md_rule_124 ?_
    exact PX.zret g hF rfl (Or.inl rfl) d_md_rule_125 hL h
def j_md_rule_104 (Q : Int32 → pI → pR → Prop) (s1 : Int32) (s2 : Int32) (I : pI) (R : pR) : Prop := (vp_in s1 200 ∧ ∀ I36, I36 = pw_wI I 139 s1.toNatClampNeg s2 → (∀ I37, I37 = pw_wI I36 121 7 ((I36 121 7) + (2 : Int32)) → (j_md_rule_115 Q I37 R)))
set_option maxHeartbeats 4000000 in
set_option maxRecDepth 100000 in
theorem J_md_rule_104 (d : Nat) {Q : Int32 → pI → pR → Prop} {s1 : Int32} {s2 : Int32} {E : pE} {B : pB} (g : pw_G m_md_rule (d + 3) 0 0 E B) (hF : pX (qz Q) E B) {I : pI} {R : pR} (hL : pw_Lay R) (h : j_md_rule_104  Q s1 s2 I R) : PX E B m_md_rule.2.2.1 104 [some (.ref 121), none, none] [.int s2, .int s1, .ref 139] I R := by
  unfold j_md_rule_104 at h
  refine PW.iast g rfl h.1 d_md_rule_104 ?_
  refine PX.gI (fun I36 eI36 => ?_)
  have h := h.2 _ eI36
  refine PW.aload_n g rfl rfl d_md_rule_105 ?_
  refine PW.dup g rfl d_md_rule_106 ?_
  refine PW.getI g fi_md_207 rfl d_md_rule_107 ?_
  refine PW.iconst g (2) (by decide) d_md_rule_110 ?_
  refine PW.iadd g d_md_rule_111 ?_
  refine PW.putI g fi_md_207 rfl rfl rfl d_md_rule_112 ?_
  refine PX.gI (fun I37 eI37 => ?_)
  have h := h _ eI37
  refine PX.sub [some (.ref 121), none, none] ⟨rfl, trivial⟩ ?_
  exact J_md_rule_115 d g hF hL h
def w_md_rule (I : pI) (R : pR) (Q : Int32 → pI → pR → Prop) : Prop := (w_md_begin (7 : Int32) I R (fun I1 R1 => (vp_in (I1 121 7) 128 ∧ (vp_in (I1 121 32) 200 ∧ ∀ I2, I2 = pw_wI I1 138 (I1 121 32).toNatClampNeg (I1 124 (I1 121 7).toNatClampNeg) → (vp_in (I2 121 7) 128 ∧ (vp_in (I2 121 32) 200 ∧ ∀ I3, I3 = pw_wI I2 139 (I2 121 32).toNatClampNeg (I2 124 (I2 121 7).toNatClampNeg) → (∀ I4, I4 = pw_wI I3 121 7 ((I3 121 7) + (1 : Int32)) → (vp_in (I4 121 7) 128 ∧ ((¬ (I4 123 (I4 121 7).toNatClampNeg) = (45 : Int32) → (j_md_rule_115 Q I4 R1)) ∧ ((I4 123 (I4 121 7).toNatClampNeg) = (45 : Int32) → (vp_in ((I4 121 7) + (1 : Int32)) 128 ∧ ((¬ (I4 123 ((I4 121 7) + (1 : Int32)).toNatClampNeg) = (1 : Int32) → (j_md_rule_104 Q (I4 121 32) (-1 : Int32) I4 R1)) ∧ ((I4 123 ((I4 121 7) + (1 : Int32)).toNatClampNeg) = (1 : Int32) → (vp_in ((I4 121 7) + (1 : Int32)) 128 ∧ (j_md_rule_104 Q (I4 121 32) (I4 124 ((I4 121 7) + (1 : Int32)).toNatClampNeg) I4 R1)))))))))))))))
set_option maxHeartbeats 4000000 in
set_option maxRecDepth 100000 in
theorem c_md_rule (d : Nat) {I : pI} {R : pR} {Q : Int32 → pI → pR → Prop} (hL : pw_Lay R) (h : w_md_rule  I R Q) : Cm (d + 3) m_md_rule [.ref 121] I R (qz Q) := by
  refine Cm.of [some (.ref 121), none, none] (by decide) rfl (Nat.le_of_ble_eq_true rfl) (by simp) (fun E B g hF => ?_)
  unfold w_md_rule at h
  refine PW.aload_n g rfl rfl d_md_rule_0 ?_
  refine PW.bipush g (7) (by decide) d_md_rule_1 ?_
  refine PX.cVv [.int (7 : Int32)] [] g rfl ck_md (c_md_begin d  hL h) cl_md_284 (by omega) (by decide) rfl rfl (Nat.le_of_ble_eq_true rfl) d_md_rule_3 (fun I1 R1 hL h => ?_)
  refine PW.aload_n g rfl rfl d_md_rule_6 ?_
  refine PW.getR (q := 138) g fi_md_58 rfl (hL 121 12 23 rfl (by decide)) d_md_rule_7 ?_
  refine PW.aload_n g rfl rfl d_md_rule_10 ?_
  refine PW.getI g fi_md_275 rfl d_md_rule_11 ?_
  refine PW.aload_n g rfl rfl d_md_rule_14 ?_
  refine PW.getR (q := 124) g fi_md_16 rfl (hL 121 12 4 rfl (by decide)) d_md_rule_15 ?_
  refine PW.aload_n g rfl rfl d_md_rule_18 ?_
  refine PW.getI g fi_md_207 rfl d_md_rule_19 ?_
  refine PW.iald g rfl h.1 d_md_rule_22 ?_
  have h := h.2
  refine PW.iast g rfl h.1 d_md_rule_23 ?_
  refine PX.gI (fun I2 eI2 => ?_)
  have h := h.2 _ eI2
  refine PW.aload_n g rfl rfl d_md_rule_24 ?_
  refine PW.getR (q := 139) g fi_md_61 rfl (hL 121 12 24 rfl (by decide)) d_md_rule_25 ?_
  refine PW.aload_n g rfl rfl d_md_rule_28 ?_
  refine PW.getI g fi_md_275 rfl d_md_rule_29 ?_
  refine PW.aload_n g rfl rfl d_md_rule_32 ?_
  refine PW.getR (q := 124) g fi_md_16 rfl (hL 121 12 4 rfl (by decide)) d_md_rule_33 ?_
  refine PW.aload_n g rfl rfl d_md_rule_36 ?_
  refine PW.getI g fi_md_207 rfl d_md_rule_37 ?_
  refine PW.iald g rfl h.1 d_md_rule_40 ?_
  have h := h.2
  refine PW.iast g rfl h.1 d_md_rule_41 ?_
  refine PX.gI (fun I3 eI3 => ?_)
  have h := h.2 _ eI3
  refine PW.aload_n g rfl rfl d_md_rule_42 ?_
  refine PW.dup g rfl d_md_rule_43 ?_
  refine PW.getI g fi_md_207 rfl d_md_rule_44 ?_
  refine PW.iconst g (1) (by decide) d_md_rule_47 ?_
  refine PW.iadd g d_md_rule_48 ?_
  refine PW.putI g fi_md_207 rfl rfl rfl d_md_rule_49 ?_
  refine PX.gI (fun I4 eI4 => ?_)
  have h := h _ eI4
  refine PW.aload_n g rfl rfl d_md_rule_52 ?_
  refine PW.getR (q := 123) g fi_md_13 rfl (hL 121 12 3 rfl (by decide)) d_md_rule_53 ?_
  refine PW.aload_n g rfl rfl d_md_rule_56 ?_
  refine PW.getI g fi_md_207 rfl d_md_rule_57 ?_
  refine PW.iald g rfl h.1 d_md_rule_60 ?_
  have h := h.2
  refine PW.bipush g (45) (by decide) d_md_rule_61 ?_
  refine PW.icmp_ne g 115 (by decide) d_md_rule_63 (fun c1 => ?_) (fun c1 => ?_)
  · have h := h.1 c1
    refine PX.sub [some (.ref 121), none, none] ⟨rfl, trivial⟩ ?_
    exact J_md_rule_115 d g hF hL h
  · have h := h.2 c1
    refine PW.aload_n g rfl rfl d_md_rule_66 ?_
    refine PW.getR (q := 139) g fi_md_61 rfl (hL 121 12 24 rfl (by decide)) d_md_rule_67 ?_
    refine PW.aload_n g rfl rfl d_md_rule_70 ?_
    refine PW.getI g fi_md_275 rfl d_md_rule_71 ?_
    refine PW.aload_n g rfl rfl d_md_rule_74 ?_
    refine PW.getR (q := 123) g fi_md_13 rfl (hL 121 12 3 rfl (by decide)) d_md_rule_75 ?_
    refine PW.aload_n g rfl rfl d_md_rule_78 ?_
    refine PW.getI g fi_md_207 rfl d_md_rule_79 ?_
    refine PW.iconst g (1) (by decide) d_md_rule_82 ?_
    refine PW.iadd g d_md_rule_83 ?_
    refine PW.iald g rfl h.1 d_md_rule_84 ?_
    have h := h.2
    refine PW.iconst g (1) (by decide) d_md_rule_85 ?_
    refine PW.icmp_ne g 103 (by decide) d_md_rule_86 (fun c18 => ?_) (fun c18 => ?_)
    · have h := h.1 c18
      refine PW.iconst g (-1) (by decide) d_md_rule_103 ?_
      refine PX.sub [some (.ref 121), none, none] ⟨rfl, trivial⟩ ?_
      exact J_md_rule_104 d g hF hL h
    · have h := h.2 c18
      refine PW.aload_n g rfl rfl d_md_rule_89 ?_
      refine PW.getR (q := 124) g fi_md_16 rfl (hL 121 12 4 rfl (by decide)) d_md_rule_90 ?_
      refine PW.aload_n g rfl rfl d_md_rule_93 ?_
      refine PW.getI g fi_md_207 rfl d_md_rule_94 ?_
      refine PW.iconst g (1) (by decide) d_md_rule_97 ?_
      refine PW.iadd g d_md_rule_98 ?_
      refine PW.iald g rfl h.1 d_md_rule_99 ?_
      have h := h.2
      refine PW.goto g 104 (by decide) d_md_rule_100 ?_
      refine PX.sub [some (.ref 121), none, none] ⟨rfl, trivial⟩ ?_
      exact J_md_rule_104 d g hF hL h
def j_md_claim_83 (Q : Int32 → pI → pR → Prop) (x1 : Int32) (s1 : Int32) (I : pI) (R : pR) : Prop := (w_md_begin s1 I R (fun I2 R2 => ((x1 = 0 → (∀ I3, I3 = pw_wI I2 121 7 ((I2 121 7) + (1 : Int32)) → (w_md_finish  I3 R2 (fun I4 R3 => Q (1 : Int32) I4 R3)))) ∧ (¬ x1 = 0 → (∀ I5, I5 = pw_wI I2 121 7 ((I2 121 7) + (2 : Int32)) → (w_md_finish  I5 R2 (fun I6 R4 => Q (1 : Int32) I6 R4)))))))
set_option maxHeartbeats 4000000 in
set_option maxRecDepth 100000 in
theorem J_md_claim_83 (d : Nat) {Q : Int32 → pI → pR → Prop} {x1 : Int32} {s1 : Int32} {E : pE} {B : pB} (g : pw_G m_md_claim (d + 6) 0 0 E B) (hF : pX (qz Q) E B) {I : pI} {R : pR} (hL : pw_Lay R) (h : j_md_claim_83  Q x1 s1 I R) : PX E B m_md_claim.2.2.1 83 [some (.ref 121), some (.int x1)] [.int s1, .ref 121] I R := by
  unfold j_md_claim_83 at h
  refine PX.cVv [.int s1] [] g rfl ck_md (c_md_begin d  hL h) cl_md_284 (by omega) (by decide) rfl rfl (Nat.le_of_ble_eq_true rfl) d_md_claim_83 (fun I2 R2 hL h => ?_)
  refine PW.aload_n g rfl rfl d_md_claim_86 ?_
  refine PW.dup g rfl d_md_claim_87 ?_
  refine PW.getI g fi_md_207 rfl d_md_claim_88 ?_
  refine PW.iload_n g rfl rfl d_md_claim_91 ?_
  refine PW.if_eq g 99 (by decide) d_md_claim_92 (fun c5 => ?_) (fun c5 => ?_)
  · have h := h.1 c5
    refine PW.iconst g (1) (by decide) d_md_claim_99 ?_
    refine PW.iadd g d_md_claim_100 ?_
    refine PW.putI g fi_md_207 rfl rfl rfl d_md_claim_101 ?_
    refine PX.gI (fun I3 eI3 => ?_)
    have h := h _ eI3
    refine PW.aload_n g rfl rfl d_md_claim_104 ?_
    refine PX.cVv [] [] g rfl ck_md (c_md_finish d  hL h) cl_md_291 (by omega) (by decide) rfl rfl (Nat.le_of_ble_eq_true rfl) d_md_claim_105 (fun I4 R3 hL h => ?_)
    refine PW.iconst g (1) (by decide) d_md_claim_108 ?_
    exact PX.zret g hF rfl (Or.inr rfl) d_md_claim_109 hL h
  · have h := h.2 c5
    refine PW.iconst g (2) (by decide) d_md_claim_95 ?_
    refine PW.goto g 100 (by decide) d_md_claim_96 ?_
    refine PW.iadd g d_md_claim_100 ?_
    refine PW.putI g fi_md_207 rfl rfl rfl d_md_claim_101 ?_
    refine PX.gI (fun I5 eI5 => ?_)
    have h := h _ eI5
    refine PW.aload_n g rfl rfl d_md_claim_104 ?_
    refine PX.cVv [] [] g rfl ck_md (c_md_finish d  hL h) cl_md_291 (by omega) (by decide) rfl rfl (Nat.le_of_ble_eq_true rfl) d_md_claim_105 (fun I6 R4 hL h => ?_)
    refine PW.iconst g (1) (by decide) d_md_claim_108 ?_
    exact PX.zret g hF rfl (Or.inr rfl) d_md_claim_109 hL h
def j_md_claim_72 (Q : Int32 → pI → pR → Prop) (x1 : Int32) (I : pI) (R : pR) : Prop := ((x1 = 0 → (j_md_claim_83 Q x1 (5 : Int32) I R)) ∧ (¬ x1 = 0 → (j_md_claim_83 Q x1 (6 : Int32) I R)))
set_option maxHeartbeats 4000000 in
set_option maxRecDepth 100000 in
theorem J_md_claim_72 (d : Nat) {Q : Int32 → pI → pR → Prop} {x1 : Int32} {E : pE} {B : pB} (g : pw_G m_md_claim (d + 6) 0 0 E B) (hF : pX (qz Q) E B) {I : pI} {R : pR} (hL : pw_Lay R) (h : j_md_claim_72  Q x1 I R) : PX E B m_md_claim.2.2.1 72 [some (.ref 121), some (.int x1)] [] I R := by
  unfold j_md_claim_72 at h
  refine PW.aload_n g rfl rfl d_md_claim_72 ?_
  refine PW.iload_n g rfl rfl d_md_claim_73 ?_
  refine PW.if_eq g 82 (by decide) d_md_claim_74 (fun c4 => ?_) (fun c4 => ?_)
  · have h := h.1 c4
    refine PW.iconst g (5) (by decide) d_md_claim_82 ?_
    refine PX.sub [some (.ref 121), some (.int x1)] ⟨rfl, ⟨rfl, trivial⟩⟩ ?_
    exact J_md_claim_83 d g hF hL h
  · have h := h.2 c4
    refine PW.bipush g (6) (by decide) d_md_claim_77 ?_
    refine PW.goto g 83 (by decide) d_md_claim_79 ?_
    refine PX.sub [some (.ref 121), some (.int x1)] ⟨rfl, ⟨rfl, trivial⟩⟩ ?_
    exact J_md_claim_83 d g hF hL h
def j_md_claim_47 (Q : Int32 → pI → pR → Prop) (s0 : Int32) (I : pI) (R : pR) : Prop := ((¬ s0 = 0 → (j_md_claim_72 Q s0 I R)) ∧ (s0 = 0 → (vp_in (I 121 7) 128 ∧ (((I 123 (I 121 7).toNatClampNeg) = (88 : Int32) → (j_md_claim_72 Q s0 I R)) ∧ (¬ (I 123 (I 121 7).toNatClampNeg) = (88 : Int32) → (w_md_asked (4 : Int32) I R (fun v5 I7 R5 => Q v5 I7 R5)))))))
set_option maxHeartbeats 4000000 in
set_option maxRecDepth 100000 in
theorem J_md_claim_47 (d : Nat) {Q : Int32 → pI → pR → Prop} {s0 : Int32} {E : pE} {B : pB} (g : pw_G m_md_claim (d + 6) 0 0 E B) (hF : pX (qz Q) E B) {I : pI} {R : pR} (hL : pw_Lay R) (h : j_md_claim_47  Q s0 I R) : PX E B m_md_claim.2.2.1 47 [some (.ref 121), none] [.int s0] I R := by
  unfold j_md_claim_47 at h
  refine PW.istore_n g rfl (L' := [some (.ref 121), some (.int s0)]) (by decide) rfl rfl d_md_claim_47 ?_
  refine PW.iload_n g rfl rfl d_md_claim_48 ?_
  refine PW.if_ne g 72 (by decide) d_md_claim_49 (fun c3 => ?_) (fun c3 => ?_)
  · have h := h.1 c3
    refine PX.sub [some (.ref 121), some (.int s0)] ⟨rfl, ⟨rfl, trivial⟩⟩ ?_
    exact J_md_claim_72 d g hF hL h
  · have h := h.2 c3
    refine PW.aload_n g rfl rfl d_md_claim_52 ?_
    refine PW.getR (q := 123) g fi_md_13 rfl (hL 121 12 3 rfl (by decide)) d_md_claim_53 ?_
    refine PW.aload_n g rfl rfl d_md_claim_56 ?_
    refine PW.getI g fi_md_207 rfl d_md_claim_57 ?_
    refine PW.iald g rfl h.1 d_md_claim_60 ?_
    have h := h.2
    refine PW.bipush g (88) (by decide) d_md_claim_61 ?_
    refine PW.icmp_eq g 72 (by decide) d_md_claim_63 (fun c6 => ?_) (fun c6 => ?_)
    · have h := h.1 c6
      refine PX.sub [some (.ref 121), some (.int s0)] ⟨rfl, ⟨rfl, trivial⟩⟩ ?_
      exact J_md_claim_72 d g hF hL h
    · have h := h.2 c6
      refine PW.aload_n g rfl rfl d_md_claim_66 ?_
      refine PW.iconst g (4) (by decide) d_md_claim_67 ?_
      refine PX.cVz [.int (4 : Int32)] [] g rfl ck_md (c_md_asked d  hL h) cl_md_316 (by omega) (by decide) rfl rfl (Nat.le_of_ble_eq_true rfl) d_md_claim_68 (fun v5 I7 R5 hL hzv5 h => ?_)
      exact PX.zret g hF rfl hzv5 d_md_claim_71 hL h
def j_md_claim_46 (Q : Int32 → pI → pR → Prop) (I : pI) (R : pR) : Prop := (j_md_claim_47 Q (0 : Int32) I R)
set_option maxHeartbeats 4000000 in
set_option maxRecDepth 100000 in
theorem J_md_claim_46 (d : Nat) {Q : Int32 → pI → pR → Prop} {E : pE} {B : pB} (g : pw_G m_md_claim (d + 6) 0 0 E B) (hF : pX (qz Q) E B) {I : pI} {R : pR} (hL : pw_Lay R) (h : j_md_claim_46  Q  I R) : PX E B m_md_claim.2.2.1 46 [some (.ref 121), none] [] I R := by
  unfold j_md_claim_46 at h
  refine PW.iconst g (0) (by decide) d_md_claim_46 ?_
  refine PX.sub [some (.ref 121), none] ⟨rfl, trivial⟩ ?_
  exact J_md_claim_47 d g hF hL h
def w_md_claim (I : pI) (R : pR) (Q : Int32 → pI → pR → Prop) : Prop := (w_md_isRule  I R (fun v1 I1 R1 => ((v1 = 0 → (vp_in (I1 121 7) 128 ∧ ((¬ (I1 123 (I1 121 7).toNatClampNeg) = (33 : Int32) → (j_md_claim_46 Q I1 R1)) ∧ ((I1 123 (I1 121 7).toNatClampNeg) = (33 : Int32) → (vp_in ((I1 121 7) + (1 : Int32)) 128 ∧ ((¬ (I1 123 ((I1 121 7) + (1 : Int32)).toNatClampNeg) = (88 : Int32) → (j_md_claim_46 Q I1 R1)) ∧ ((I1 123 ((I1 121 7) + (1 : Int32)).toNatClampNeg) = (88 : Int32) → (j_md_claim_47 Q (1 : Int32) I1 R1)))))))) ∧ (¬ v1 = 0 → (w_md_rule  I1 R1 (fun v6 I8 R6 => Q v6 I8 R6))))))
set_option maxHeartbeats 4000000 in
set_option maxRecDepth 100000 in
theorem c_md_claim (d : Nat) {I : pI} {R : pR} {Q : Int32 → pI → pR → Prop} (hL : pw_Lay R) (h : w_md_claim  I R Q) : Cm (d + 6) m_md_claim [.ref 121] I R (qz Q) := by
  refine Cm.of [some (.ref 121), none] (by decide) rfl (Nat.le_of_ble_eq_true rfl) (by simp) (fun E B g hF => ?_)
  unfold w_md_claim at h
  refine PW.aload_n g rfl rfl d_md_claim_0 ?_
  refine PX.cVz [] [] g rfl ck_md (c_md_isRule d  hL h) cl_md_310 (by omega) (by decide) rfl rfl (Nat.le_of_ble_eq_true rfl) d_md_claim_1 (fun v1 I1 R1 hL hzv1 h => ?_)
  refine PW.if_eq g 12 (by decide) d_md_claim_4 (fun c1 => ?_) (fun c1 => ?_)
  · have h := h.1 c1
    refine PW.aload_n g rfl rfl d_md_claim_12 ?_
    refine PW.getR (q := 123) g fi_md_13 rfl (hL 121 12 3 rfl (by decide)) d_md_claim_13 ?_
    refine PW.aload_n g rfl rfl d_md_claim_16 ?_
    refine PW.getI g fi_md_207 rfl d_md_claim_17 ?_
    refine PW.iald g rfl h.1 d_md_claim_20 ?_
    have h := h.2
    refine PW.bipush g (33) (by decide) d_md_claim_21 ?_
    refine PW.icmp_ne g 46 (by decide) d_md_claim_23 (fun c2 => ?_) (fun c2 => ?_)
    · have h := h.1 c2
      refine PX.sub [some (.ref 121), none] ⟨rfl, trivial⟩ ?_
      exact J_md_claim_46 d g hF hL h
    · have h := h.2 c2
      refine PW.aload_n g rfl rfl d_md_claim_26 ?_
      refine PW.getR (q := 123) g fi_md_13 rfl (hL 121 12 3 rfl (by decide)) d_md_claim_27 ?_
      refine PW.aload_n g rfl rfl d_md_claim_30 ?_
      refine PW.getI g fi_md_207 rfl d_md_claim_31 ?_
      refine PW.iconst g (1) (by decide) d_md_claim_34 ?_
      refine PW.iadd g d_md_claim_35 ?_
      refine PW.iald g rfl h.1 d_md_claim_36 ?_
      have h := h.2
      refine PW.bipush g (88) (by decide) d_md_claim_37 ?_
      refine PW.icmp_ne g 46 (by decide) d_md_claim_39 (fun c7 => ?_) (fun c7 => ?_)
      · have h := h.1 c7
        refine PX.sub [some (.ref 121), none] ⟨rfl, trivial⟩ ?_
        exact J_md_claim_46 d g hF hL h
      · have h := h.2 c7
        refine PW.iconst g (1) (by decide) d_md_claim_42 ?_
        refine PW.goto g 47 (by decide) d_md_claim_43 ?_
        refine PX.sub [some (.ref 121), none] ⟨rfl, trivial⟩ ?_
        exact J_md_claim_47 d g hF hL h
  · have h := h.2 c1
    refine PW.aload_n g rfl rfl d_md_claim_7 ?_
    refine PX.cVz [] [] g rfl ck_md (c_md_rule d  hL h) cl_md_313 (by omega) (by decide) rfl rfl (Nat.le_of_ble_eq_true rfl) d_md_claim_8 (fun v6 I8 R6 hL hzv6 h => ?_)
    exact PX.zret g hF rfl hzv6 d_md_claim_11 hL h
def j_md_several_62 (K2 : Int32 → pI → pR → Prop) (Q : Int32 → pI → pR → Prop) (f1 : Int32) (s0 : Int32) (I : pI) (R : pR) : Prop := ((s0 = 0 → K2 s0 I R) ∧ (¬ s0 = 0 → (∀ I2, I2 = pw_wI I 121 7 ((I 121 7) + (1 : Int32)) → K2 s0 I2 R)))
set_option maxHeartbeats 4000000 in
set_option maxRecDepth 100000 in
theorem J_md_several_62 (d : Nat) {K2 : Int32 → pI → pR → Prop} {Q : Int32 → pI → pR → Prop} {f1 : Int32} {s0 : Int32} {E : pE} {B : pB} (g : pw_G m_md_several (d + 7) 0 0 E B) (hF : pX (qz Q) E B) (hK2 : ∀ (y2 : Int32) (I : pI) (R : pR), pw_Lay R → K2 y2 I R → PX E B m_md_several.2.2.1 2 [some (.ref 121), some (.int f1), some (.int y2), none] [] I R) {I : pI} {R : pR} (hL : pw_Lay R) (h : j_md_several_62  K2 Q f1 s0 I R) : PX E B m_md_several.2.2.1 62 [some (.ref 121), some (.int f1), none, none] [.int s0] I R := by
  unfold j_md_several_62 at h
  refine PW.istore_n g rfl (L' := [some (.ref 121), some (.int f1), some (.int s0), none]) (by decide) rfl rfl d_md_several_62 ?_
  refine PW.iload_n g rfl rfl d_md_several_63 ?_
  refine PW.if_eq g 77 (by decide) d_md_several_64 (fun c6 => ?_) (fun c6 => ?_)
  · have h := h.1 c6
    refine PW.goto g 2 (by decide) d_md_several_77 ?_
    refine PX.sub [some (.ref 121), some (.int f1), some (.int s0), none] ⟨rfl, ⟨rfl, ⟨rfl, trivial⟩⟩⟩ ?_
    exact hK2 _ _ _ hL h
  · have h := h.2 c6
    refine PW.aload_n g rfl rfl d_md_several_67 ?_
    refine PW.dup g rfl d_md_several_68 ?_
    refine PW.getI g fi_md_207 rfl d_md_several_69 ?_
    refine PW.iconst g (1) (by decide) d_md_several_72 ?_
    refine PW.iadd g d_md_several_73 ?_
    refine PW.putI g fi_md_207 rfl rfl rfl d_md_several_74 ?_
    refine PX.gI (fun I2 eI2 => ?_)
    have h := h _ eI2
    refine PW.goto g 2 (by decide) d_md_several_77 ?_
    refine PX.sub [some (.ref 121), some (.int f1), some (.int s0), none] ⟨rfl, ⟨rfl, ⟨rfl, trivial⟩⟩⟩ ?_
    exact hK2 _ _ _ hL h
def j_md_several_36 (K2 : Int32 → pI → pR → Prop) (Q : Int32 → pI → pR → Prop) (f1 : Int32) (s0 : Int32) (I : pI) (R : pR) : Prop := ((¬ s0 = 0 → (vp_in (I 121 7) 128 ∧ ((¬ (I 123 (I 121 7).toNatClampNeg) = (59 : Int32) → (j_md_several_62 (fun y1 I3 R2 => K2 y1 I3 R2) Q f1 (0 : Int32) I R)) ∧ ((I 123 (I 121 7).toNatClampNeg) = (59 : Int32) → (j_md_several_62 (fun y2 I4 R3 => K2 y2 I4 R3) Q f1 (1 : Int32) I R))))) ∧ (s0 = 0 → Q (0 : Int32) I R))
set_option maxHeartbeats 4000000 in
set_option maxRecDepth 100000 in
theorem J_md_several_36 (d : Nat) {K2 : Int32 → pI → pR → Prop} {Q : Int32 → pI → pR → Prop} {f1 : Int32} {s0 : Int32} {E : pE} {B : pB} (g : pw_G m_md_several (d + 7) 0 0 E B) (hF : pX (qz Q) E B) (hK2 : ∀ (y2 : Int32) (I : pI) (R : pR), pw_Lay R → K2 y2 I R → PX E B m_md_several.2.2.1 2 [some (.ref 121), some (.int f1), some (.int y2), none] [] I R) {I : pI} {R : pR} (hL : pw_Lay R) (h : j_md_several_36  K2 Q f1 s0 I R) : PX E B m_md_several.2.2.1 36 [some (.ref 121), some (.int f1), none, none] [.int s0] I R := by
  unfold j_md_several_36 at h
  refine PW.istore_n g rfl (L' := [some (.ref 121), some (.int f1), none, some (.int s0)]) (by decide) rfl rfl d_md_several_36 ?_
  refine PW.iload_n g rfl rfl d_md_several_37 ?_
  refine PW.if_ne g 43 (by decide) d_md_several_38 (fun c4 => ?_) (fun c4 => ?_)
  · have h := h.1 c4
    refine PW.aload_n g rfl rfl d_md_several_43 ?_
    refine PW.getR (q := 123) g fi_md_13 rfl (hL 121 12 3 rfl (by decide)) d_md_several_44 ?_
    refine PW.aload_n g rfl rfl d_md_several_47 ?_
    refine PW.getI g fi_md_207 rfl d_md_several_48 ?_
    refine PW.iald g rfl h.1 d_md_several_51 ?_
    have h := h.2
    refine PW.bipush g (59) (by decide) d_md_several_52 ?_
    refine PW.icmp_ne g 61 (by decide) d_md_several_54 (fun c5 => ?_) (fun c5 => ?_)
    · have h := h.1 c5
      refine PW.iconst g (0) (by decide) d_md_several_61 ?_
      refine PX.sub [some (.ref 121), some (.int f1), none, none] ⟨rfl, ⟨rfl, trivial⟩⟩ ?_
      refine J_md_several_62 d g hF (fun y1 I3 R2 hL h => ?_) hL h
      refine PX.sub [some (.ref 121), some (.int f1), some (.int y1), none] ⟨rfl, ⟨rfl, ⟨rfl, trivial⟩⟩⟩ ?_
      exact hK2 _ _ _ hL h
    · have h := h.2 c5
      refine PW.iconst g (1) (by decide) d_md_several_57 ?_
      refine PW.goto g 62 (by decide) d_md_several_58 ?_
      refine PX.sub [some (.ref 121), some (.int f1), none, none] ⟨rfl, ⟨rfl, trivial⟩⟩ ?_
      refine J_md_several_62 d g hF (fun y2 I4 R3 hL h => ?_) hL h
      refine PX.sub [some (.ref 121), some (.int f1), some (.int y2), none] ⟨rfl, ⟨rfl, ⟨rfl, trivial⟩⟩⟩ ?_
      exact hK2 _ _ _ hL h
  · have h := h.2 c4
    refine PW.iconst g (0) (by decide) d_md_several_41 ?_
    exact PX.zret g hF rfl (Or.inl rfl) d_md_several_42 hL h
def l_md_several_2 (f1 : Int32) (K : pI → pR → Prop) (Q : Int32 → pI → pR → Prop) : Nat → Int32 → pI → pR → Prop
  | 0, _, _, _ => False
  | n + 1, x2, I, R => ((x2 = 0 → K I R) ∧ (¬ x2 = 0 → ((¬ f1 = (2 : Int32) → ((¬ f1 = (4 : Int32) → (w_md_step f1 I R (fun v1 I1 R1 => (j_md_several_36 (fun y3 I5 R4 => l_md_several_2 f1 K Q n y3 I5 R4) Q f1 v1 I1 R1)))) ∧ (f1 = (4 : Int32) → (w_md_claim  I R (fun v2 I6 R5 => (j_md_several_36 (fun y4 I7 R6 => l_md_several_2 f1 K Q n y4 I7 R6) Q f1 v2 I6 R5)))))) ∧ (f1 = (2 : Int32) → (w_md_asked f1 I R (fun v3 I8 R7 => (j_md_several_36 (fun y5 I9 R8 => l_md_several_2 f1 K Q n y5 I9 R8) Q f1 v3 I8 R7)))))))
set_option maxHeartbeats 4000000 in
set_option maxRecDepth 100000 in
theorem L_md_several_2 (d : Nat) {f1 : Int32} {K : pI → pR → Prop} {Q : Int32 → pI → pR → Prop} {E : pE} {B : pB} (g : pw_G m_md_several (d + 7) 0 0 E B) (hF : pX (qz Q) E B) (hK : ∀ (I : pI) (R : pR), pw_Lay R → K  I R → PX E B m_md_several.2.2.1 80 [none, none, none, none] [] I R) : ∀ (n : Nat) (x2 : Int32) (I : pI) (R : pR), pw_Lay R → l_md_several_2 f1 K Q n x2 I R → PX E B m_md_several.2.2.1 2 [some (.ref 121), some (.int f1), some (.int x2), none] [] I R := by
  intro n
  induction n with
  | zero => intro x2 I R hL h; exact False.elim h
  | succ n ih =>
    intro x2 I R hL h
    refine PW.iload_n g rfl rfl d_md_several_2 ?_
    refine PW.if_eq g 80 (by decide) d_md_several_3 (fun c1 => ?_) (fun c1 => ?_)
    · have h := h.1 c1
      refine PX.sub [none, none, none, none] trivial ?_
      exact hK _ _ hL h
    · have h := h.2 c1
      refine PW.iload_n g rfl rfl d_md_several_6 ?_
      refine PW.iconst g (2) (by decide) d_md_several_7 ?_
      refine PW.icmp_ne g 19 (by decide) d_md_several_8 (fun c2 => ?_) (fun c2 => ?_)
      · have h := h.1 c2
        refine PW.iload_n g rfl rfl d_md_several_19 ?_
        refine PW.iconst g (4) (by decide) d_md_several_20 ?_
        refine PW.icmp_ne g 31 (by decide) d_md_several_21 (fun c3 => ?_) (fun c3 => ?_)
        · have h := h.1 c3
          refine PW.aload_n g rfl rfl d_md_several_31 ?_
          refine PW.iload_n g rfl rfl d_md_several_32 ?_
          refine PX.cVz [.int f1] [] g rfl ck_md (c_md_step d  hL h) cl_md_322 (by omega) (by decide) rfl rfl (Nat.le_of_ble_eq_true rfl) d_md_several_33 (fun v1 I1 R1 hL hzv1 h => ?_)
          refine PX.sub [some (.ref 121), some (.int f1), none, none] ⟨rfl, ⟨rfl, trivial⟩⟩ ?_
          refine J_md_several_36 d g hF (fun y3 I5 R4 hL h => ?_) hL h
          refine PX.sub [some (.ref 121), some (.int f1), some (.int y3), none] ⟨rfl, ⟨rfl, ⟨rfl, trivial⟩⟩⟩ ?_
          exact ih _ _ _ hL h
        · have h := h.2 c3
          refine PW.aload_n g rfl rfl d_md_several_24 ?_
          refine PX.cVz [] [] g rfl ck_md (c_md_claim d  hL h) cl_md_319 (by omega) (by decide) rfl rfl (Nat.le_of_ble_eq_true rfl) d_md_several_25 (fun v2 I6 R5 hL hzv2 h => ?_)
          refine PW.goto g 36 (by decide) d_md_several_28 ?_
          refine PX.sub [some (.ref 121), some (.int f1), none, none] ⟨rfl, ⟨rfl, trivial⟩⟩ ?_
          refine J_md_several_36 d g hF (fun y4 I7 R6 hL h => ?_) hL h
          refine PX.sub [some (.ref 121), some (.int f1), some (.int y4), none] ⟨rfl, ⟨rfl, ⟨rfl, trivial⟩⟩⟩ ?_
          exact ih _ _ _ hL h
      · have h := h.2 c2
        refine PW.aload_n g rfl rfl d_md_several_11 ?_
        refine PW.iload_n g rfl rfl d_md_several_12 ?_
        refine PX.cVz [.int f1] [] g rfl ck_md (c_md_asked d  hL h) cl_md_316 (by omega) (by decide) rfl rfl (Nat.le_of_ble_eq_true rfl) d_md_several_13 (fun v3 I8 R7 hL hzv3 h => ?_)
        refine PW.goto g 36 (by decide) d_md_several_16 ?_
        refine PX.sub [some (.ref 121), some (.int f1), none, none] ⟨rfl, ⟨rfl, trivial⟩⟩ ?_
        refine J_md_several_36 d g hF (fun y5 I9 R8 hL h => ?_) hL h
        refine PX.sub [some (.ref 121), some (.int f1), some (.int y5), none] ⟨rfl, ⟨rfl, ⟨rfl, trivial⟩⟩⟩ ?_
        exact ih _ _ _ hL h
def w_md_several (a1 : Int32) (I : pI) (R : pR) (Q : Int32 → pI → pR → Prop) : Prop := (∃ n1, l_md_several_2 a1 (fun I10 R9 => Q (1 : Int32) I10 R9) Q n1 (1 : Int32) I R)
set_option maxHeartbeats 4000000 in
set_option maxRecDepth 100000 in
theorem c_md_several (d : Nat) {a1 : Int32} {I : pI} {R : pR} {Q : Int32 → pI → pR → Prop} (hL : pw_Lay R) (h : w_md_several a1 I R Q) : Cm (d + 7) m_md_several [.ref 121, .int a1] I R (qz Q) := by
  refine Cm.of [some (.ref 121), some (.int a1), none, none] (by decide) rfl (Nat.le_of_ble_eq_true rfl) (by simp) (fun E B g hF => ?_)
  unfold w_md_several at h
  refine PW.iconst g (1) (by decide) d_md_several_0 ?_
  refine PW.istore_n g rfl (L' := [some (.ref 121), some (.int a1), some (.int (1 : Int32)), none]) (by decide) rfl rfl d_md_several_1 ?_
  refine PX.sub [some (.ref 121), some (.int a1), some (.int (1 : Int32)), none] ⟨rfl, ⟨rfl, ⟨rfl, trivial⟩⟩⟩ ?_
  obtain ⟨n1, h⟩ := h
  refine L_md_several_2 d g hF (fun I10 R9 hL h => ?_) n1 (1 : Int32) I R hL h
  refine PW.iconst g (1) (by decide) d_md_several_80 ?_
  exact PX.zret g hF rfl (Or.inr rfl) d_md_several_81 hL h
def w_md_block (a1 : Int32) (a2 : Int32) (I : pI) (R : pR) (Q : Int32 → pI → pR → Prop) : Prop := (w_md_want a1 I R (fun v1 I1 R1 => ((v1 = 0 → Q (0 : Int32) I1 R1) ∧ (¬ v1 = 0 → (w_md_want (58 : Int32) I1 R1 (fun v2 I2 R2 => ((v2 = 0 → Q (0 : Int32) I2 R2) ∧ (¬ v2 = 0 → (w_md_several a2 I2 R2 (fun v3 I3 R3 => ((v3 = 0 → Q (0 : Int32) I3 R3) ∧ (¬ v3 = 0 → Q (1 : Int32) I3 R3))))))))))))
set_option maxHeartbeats 4000000 in
set_option maxRecDepth 100000 in
theorem c_md_block (d : Nat) {a1 : Int32} {a2 : Int32} {I : pI} {R : pR} {Q : Int32 → pI → pR → Prop} (hL : pw_Lay R) (h : w_md_block a1 a2 I R Q) : Cm (d + 8) m_md_block [.ref 121, .int a1, .int a2] I R (qz Q) := by
  refine Cm.of [some (.ref 121), some (.int a1), some (.int a2)] (by decide) rfl (Nat.le_of_ble_eq_true rfl) (by simp) (fun E B g hF => ?_)
  unfold w_md_block at h
  refine PW.aload_n g rfl rfl d_md_block_0 ?_
  refine PW.iload_n g rfl rfl d_md_block_1 ?_
  refine PX.cVz [.int a1] [] g rfl ck_md (c_md_want d  hL h) cl_md_297 (by omega) (by decide) rfl rfl (Nat.le_of_ble_eq_true rfl) d_md_block_2 (fun v1 I1 R1 hL hzv1 h => ?_)
  refine PW.if_eq g 29 (by decide) d_md_block_5 (fun c1 => ?_) (fun c1 => ?_)
  · have h := h.1 c1
    refine PW.iconst g (0) (by decide) d_md_block_29 ?_
    exact PX.zret g hF rfl (Or.inl rfl) d_md_block_30 hL h
  · have h := h.2 c1
    refine PW.aload_n g rfl rfl d_md_block_8 ?_
    refine PW.bipush g (58) (by decide) d_md_block_9 ?_
    refine PX.cVz [.int (58 : Int32)] [] g rfl ck_md (c_md_want d  hL h) cl_md_297 (by omega) (by decide) rfl rfl (Nat.le_of_ble_eq_true rfl) d_md_block_11 (fun v2 I2 R2 hL hzv2 h => ?_)
    refine PW.if_eq g 29 (by decide) d_md_block_14 (fun c2 => ?_) (fun c2 => ?_)
    · have h := h.1 c2
      refine PW.iconst g (0) (by decide) d_md_block_29 ?_
      exact PX.zret g hF rfl (Or.inl rfl) d_md_block_30 hL h
    · have h := h.2 c2
      refine PW.aload_n g rfl rfl d_md_block_17 ?_
      refine PW.iload_n g rfl rfl d_md_block_18 ?_
      refine PX.cVz [.int a2] [] g rfl ck_md (c_md_several d  hL h) cl_md_325 (by omega) (by decide) rfl rfl (Nat.le_of_ble_eq_true rfl) d_md_block_19 (fun v3 I3 R3 hL hzv3 h => ?_)
      refine PW.if_eq g 29 (by decide) d_md_block_22 (fun c3 => ?_) (fun c3 => ?_)
      · have h := h.1 c3
        refine PW.iconst g (0) (by decide) d_md_block_29 ?_
        exact PX.zret g hF rfl (Or.inl rfl) d_md_block_30 hL h
      · have h := h.2 c3
        refine PW.iconst g (1) (by decide) d_md_block_25 ?_
        refine PW.goto g 30 (by decide) d_md_block_26 ?_
        exact PX.zret g hF rfl (Or.inr rfl) d_md_block_30 hL h
def w_md_isBar (I : pI) (R : pR) (Q : Int32 → pI → pR → Prop) : Prop := (vp_in (I 121 7) 128 ∧ (((I 123 (I 121 7).toNatClampNeg) = (124 : Int32) → Q (1 : Int32) I R) ∧ (¬ (I 123 (I 121 7).toNatClampNeg) = (124 : Int32) → (vp_in (I 121 7) 128 ∧ ((¬ (I 123 (I 121 7).toNatClampNeg) = (133 : Int32) → Q (0 : Int32) I R) ∧ ((I 123 (I 121 7).toNatClampNeg) = (133 : Int32) → Q (1 : Int32) I R))))))
set_option maxHeartbeats 4000000 in
set_option maxRecDepth 100000 in
theorem c_md_isBar (d : Nat) {I : pI} {R : pR} {Q : Int32 → pI → pR → Prop} (hL : pw_Lay R) (h : w_md_isBar  I R Q) : Cm (d + 1) m_md_isBar [.ref 121] I R (qz Q) := by
  refine Cm.of [some (.ref 121)] (by decide) rfl (Nat.le_of_ble_eq_true rfl) (by simp) (fun E B g hF => ?_)
  unfold w_md_isBar at h
  refine PW.aload_n g rfl rfl d_md_isBar_0 ?_
  refine PW.getR (q := 123) g fi_md_13 rfl (hL 121 12 3 rfl (by decide)) d_md_isBar_1 ?_
  refine PW.aload_n g rfl rfl d_md_isBar_4 ?_
  refine PW.getI g fi_md_207 rfl d_md_isBar_5 ?_
  refine PW.iald g rfl h.1 d_md_isBar_8 ?_
  have h := h.2
  refine PW.bipush g (124) (by decide) d_md_isBar_9 ?_
  refine PW.icmp_eq g 29 (by decide) d_md_isBar_11 (fun c1 => ?_) (fun c1 => ?_)
  · have h := h.1 c1
    refine PW.iconst g (1) (by decide) d_md_isBar_29 ?_
    refine PW.goto g 34 (by decide) d_md_isBar_30 ?_
    exact PX.zret g hF rfl (Or.inr rfl) d_md_isBar_34 hL h
  · have h := h.2 c1
    refine PW.aload_n g rfl rfl d_md_isBar_14 ?_
    refine PW.getR (q := 123) g fi_md_13 rfl (hL 121 12 3 rfl (by decide)) d_md_isBar_15 ?_
    refine PW.aload_n g rfl rfl d_md_isBar_18 ?_
    refine PW.getI g fi_md_207 rfl d_md_isBar_19 ?_
    refine PW.iald g rfl h.1 d_md_isBar_22 ?_
    have h := h.2
    refine PW.sipush g (133) (by decide) d_md_isBar_23 ?_
    refine PW.icmp_ne g 33 (by decide) d_md_isBar_26 (fun c2 => ?_) (fun c2 => ?_)
    · have h := h.1 c2
      refine PW.iconst g (0) (by decide) d_md_isBar_33 ?_
      exact PX.zret g hF rfl (Or.inl rfl) d_md_isBar_34 hL h
    · have h := h.2 c2
      refine PW.iconst g (1) (by decide) d_md_isBar_29 ?_
      refine PW.goto g 34 (by decide) d_md_isBar_30 ?_
      exact PX.zret g hF rfl (Or.inr rfl) d_md_isBar_34 hL h
def j_md_tableRow_59 (K17 : Int32 → pI → pR → Prop) (Q : Int32 → pI → pR → Prop) (f1 : Int32) (s1 : Int32) (s2 : Int32) (I : pI) (R : pR) : Prop := (vp_in s1 200 ∧ ∀ I3, I3 = pw_wI I 133 s1.toNatClampNeg s2 → (w_md_expression (4 : Int32) (0 : Int32) I3 R (fun v2 I4 R2 => ((¬ v2 = 0 → (w_md_finish  I4 R2 (fun I5 R3 => (∀ I6, I6 = pw_wI I5 121 52 ((I5 121 52) + (1 : Int32)) → (w_md_isBar  I6 R3 (fun v4 I7 R4 => ((v4 = 0 → K17 v4 I7 R4) ∧ (¬ v4 = 0 → (∀ I8, I8 = pw_wI I7 121 7 ((I7 121 7) + (1 : Int32)) → K17 v4 I8 R4))))))))) ∧ (v2 = 0 → Q (0 : Int32) I4 R2)))))
set_option maxHeartbeats 4000000 in
set_option maxRecDepth 100000 in
theorem J_md_tableRow_59 (d : Nat) {K17 : Int32 → pI → pR → Prop} {Q : Int32 → pI → pR → Prop} {f1 : Int32} {s1 : Int32} {s2 : Int32} {E : pE} {B : pB} (g : pw_G m_md_tableRow (d + 5) 0 0 E B) (hF : pX (qz Q) E B) (hK17 : ∀ (y2 : Int32) (I : pI) (R : pR), pw_Lay R → K17 y2 I R → PX E B m_md_tableRow.2.2.1 17 [some (.ref 121), some (.int f1), some (.int y2)] [] I R) {I : pI} {R : pR} (hL : pw_Lay R) (h : j_md_tableRow_59  K17 Q f1 s1 s2 I R) : PX E B m_md_tableRow.2.2.1 59 [some (.ref 121), some (.int f1), none] [.int s2, .int s1, .ref 133] I R := by
  unfold j_md_tableRow_59 at h
  refine PW.iast g rfl h.1 d_md_tableRow_59 ?_
  refine PX.gI (fun I3 eI3 => ?_)
  have h := h.2 _ eI3
  refine PW.aload_n g rfl rfl d_md_tableRow_60 ?_
  refine PW.iconst g (4) (by decide) d_md_tableRow_61 ?_
  refine PW.iconst g (0) (by decide) d_md_tableRow_62 ?_
  refine PX.cVz [.int (4 : Int32), .int (0 : Int32)] [] g rfl ck_md (c_md_expression d  hL h) cl_md_287 (by omega) (by decide) rfl rfl (Nat.le_of_ble_eq_true rfl) d_md_tableRow_63 (fun v2 I4 R2 hL hzv2 h => ?_)
  refine PW.if_ne g 71 (by decide) d_md_tableRow_66 (fun c3 => ?_) (fun c3 => ?_)
  · have h := h.1 c3
    refine PW.aload_n g rfl rfl d_md_tableRow_71 ?_
    refine PX.cVv [] [] g rfl ck_md (c_md_finish d  hL h) cl_md_291 (by omega) (by decide) rfl rfl (Nat.le_of_ble_eq_true rfl) d_md_tableRow_72 (fun I5 R3 hL h => ?_)
    refine PW.aload_n g rfl rfl d_md_tableRow_75 ?_
    refine PW.dup g rfl d_md_tableRow_76 ?_
    refine PW.getI g fi_md_233 rfl d_md_tableRow_77 ?_
    refine PW.iconst g (1) (by decide) d_md_tableRow_80 ?_
    refine PW.iadd g d_md_tableRow_81 ?_
    refine PW.putI g fi_md_233 rfl rfl rfl d_md_tableRow_82 ?_
    refine PX.gI (fun I6 eI6 => ?_)
    have h := h _ eI6
    refine PW.aload_n g rfl rfl d_md_tableRow_85 ?_
    refine PX.cVz [] [] g rfl ck_md (c_md_isBar d  hL h) cl_md_331 (by omega) (by decide) rfl rfl (Nat.le_of_ble_eq_true rfl) d_md_tableRow_86 (fun v4 I7 R4 hL hzv4 h => ?_)
    refine PW.istore_n g rfl (L' := [some (.ref 121), some (.int f1), some (.int v4)]) (by decide) rfl rfl d_md_tableRow_89 ?_
    refine PW.iload_n g rfl rfl d_md_tableRow_90 ?_
    refine PW.if_eq g 17 (by decide) d_md_tableRow_91 (fun c4 => ?_) (fun c4 => ?_)
    · have h := h.1 c4
      refine PX.sub [some (.ref 121), some (.int f1), some (.int v4)] ⟨rfl, ⟨rfl, ⟨rfl, trivial⟩⟩⟩ ?_
      exact hK17 _ _ _ hL h
    · have h := h.2 c4
      refine PW.aload_n g rfl rfl d_md_tableRow_94 ?_
      refine PW.dup g rfl d_md_tableRow_95 ?_
      refine PW.getI g fi_md_207 rfl d_md_tableRow_96 ?_
      refine PW.iconst g (1) (by decide) d_md_tableRow_99 ?_
      refine PW.iadd g d_md_tableRow_100 ?_
      refine PW.putI g fi_md_207 rfl rfl rfl d_md_tableRow_101 ?_
      refine PX.gI (fun I8 eI8 => ?_)
      have h := h _ eI8
      refine PW.goto g 17 (by decide) d_md_tableRow_104 ?_
      refine PX.sub [some (.ref 121), some (.int f1), some (.int v4)] ⟨rfl, ⟨rfl, ⟨rfl, trivial⟩⟩⟩ ?_
      exact hK17 _ _ _ hL h
  · have h := h.2 c3
    refine PW.iconst g (0) (by decide) d_md_tableRow_69 ?_
    exact PX.zret g hF rfl (Or.inl rfl) d_md_tableRow_70 hL h
def l_md_tableRow_17 (f1 : Int32) (K : pI → pR → Prop) (Q : Int32 → pI → pR → Prop) : Nat → Int32 → pI → pR → Prop
  | 0, _, _, _ => False
  | n + 1, x2, I, R => ((x2 = 0 → K I R) ∧ (¬ x2 = 0 → (w_md_begin (9 : Int32) I R (fun I2 R1 => (((I2 121 54) ≤ (I2 121 52) → (j_md_tableRow_59 (fun y1 I9 R5 => l_md_tableRow_17 f1 K Q n y1 I9 R5) Q f1 (I2 121 32) (0 : Int32) I2 R1)) ∧ (¬ (I2 121 54) ≤ (I2 121 52) → (vp_in (I2 121 52) 80 ∧ (j_md_tableRow_59 (fun y2 I10 R6 => l_md_tableRow_17 f1 K Q n y2 I10 R6) Q f1 (I2 121 32) (I2 157 (I2 121 52).toNatClampNeg) I2 R1))))))))
set_option maxHeartbeats 4000000 in
set_option maxRecDepth 100000 in
theorem L_md_tableRow_17 (d : Nat) {f1 : Int32} {K : pI → pR → Prop} {Q : Int32 → pI → pR → Prop} {E : pE} {B : pB} (g : pw_G m_md_tableRow (d + 5) 0 0 E B) (hF : pX (qz Q) E B) (hK : ∀ (I : pI) (R : pR), pw_Lay R → K  I R → PX E B m_md_tableRow.2.2.1 107 [some (.ref 121), some (.int f1), none] [] I R) : ∀ (n : Nat) (x2 : Int32) (I : pI) (R : pR), pw_Lay R → l_md_tableRow_17 f1 K Q n x2 I R → PX E B m_md_tableRow.2.2.1 17 [some (.ref 121), some (.int f1), some (.int x2)] [] I R := by
  intro n
  induction n with
  | zero => intro x2 I R hL h; exact False.elim h
  | succ n ih =>
    intro x2 I R hL h
    refine PW.iload_n g rfl rfl d_md_tableRow_17 ?_
    refine PW.if_eq g 107 (by decide) d_md_tableRow_18 (fun c1 => ?_) (fun c1 => ?_)
    · have h := h.1 c1
      refine PX.sub [some (.ref 121), some (.int f1), none] ⟨rfl, ⟨rfl, trivial⟩⟩ ?_
      exact hK _ _ hL h
    · have h := h.2 c1
      refine PW.aload_n g rfl rfl d_md_tableRow_21 ?_
      refine PW.bipush g (9) (by decide) d_md_tableRow_22 ?_
      refine PX.cVv [.int (9 : Int32)] [] g rfl ck_md (c_md_begin d  hL h) cl_md_284 (by omega) (by decide) rfl rfl (Nat.le_of_ble_eq_true rfl) d_md_tableRow_24 (fun I2 R1 hL h => ?_)
      refine PW.aload_n g rfl rfl d_md_tableRow_27 ?_
      refine PW.getR (q := 133) g fi_md_43 rfl (hL 121 12 18 rfl (by decide)) d_md_tableRow_28 ?_
      refine PW.aload_n g rfl rfl d_md_tableRow_31 ?_
      refine PW.getI g fi_md_275 rfl d_md_tableRow_32 ?_
      refine PW.aload_n g rfl rfl d_md_tableRow_35 ?_
      refine PW.getI g fi_md_233 rfl d_md_tableRow_36 ?_
      refine PW.aload_n g rfl rfl d_md_tableRow_39 ?_
      refine PW.getI g fi_md_328 rfl d_md_tableRow_40 ?_
      refine PW.icmp_ge g 58 (by decide) d_md_tableRow_43 (fun c2 => ?_) (fun c2 => ?_)
      · have h := h.1 c2
        refine PW.iconst g (0) (by decide) d_md_tableRow_58 ?_
        refine PX.sub [some (.ref 121), some (.int f1), none] ⟨rfl, ⟨rfl, trivial⟩⟩ ?_
        refine J_md_tableRow_59 d g hF (fun y1 I9 R5 hL h => ?_) hL h
        refine PX.sub [some (.ref 121), some (.int f1), some (.int y1)] ⟨rfl, ⟨rfl, ⟨rfl, trivial⟩⟩⟩ ?_
        exact ih _ _ _ hL h
      · have h := h.2 c2
        refine PW.aload_n g rfl rfl d_md_tableRow_46 ?_
        refine PW.getR (q := 157) g fi_md_115 rfl (hL 121 12 53 rfl (by decide)) d_md_tableRow_47 ?_
        refine PW.aload_n g rfl rfl d_md_tableRow_50 ?_
        refine PW.getI g fi_md_233 rfl d_md_tableRow_51 ?_
        refine PW.iald g rfl h.1 d_md_tableRow_54 ?_
        have h := h.2
        refine PW.goto g 59 (by decide) d_md_tableRow_55 ?_
        refine PX.sub [some (.ref 121), some (.int f1), none] ⟨rfl, ⟨rfl, trivial⟩⟩ ?_
        refine J_md_tableRow_59 d g hF (fun y2 I10 R6 hL h => ?_) hL h
        refine PX.sub [some (.ref 121), some (.int f1), some (.int y2)] ⟨rfl, ⟨rfl, ⟨rfl, trivial⟩⟩⟩ ?_
        exact ih _ _ _ hL h
def j_md_tableRow_127 (Q : Int32 → pI → pR → Prop) (x1 : Int32) (I : pI) (R : pR) : Prop := (w_md_found (4 : Int32) x1 I R (fun I12 R8 => (∀ I13, I13 = pw_wI I12 121 52 (-1 : Int32) → (∀ I14, I14 = pw_wI I13 121 35 ((I13 121 35) + (1 : Int32)) → Q (1 : Int32) I14 R8))))
set_option maxHeartbeats 4000000 in
set_option maxRecDepth 100000 in
theorem J_md_tableRow_127 (d : Nat) {Q : Int32 → pI → pR → Prop} {x1 : Int32} {E : pE} {B : pB} (g : pw_G m_md_tableRow (d + 5) 0 0 E B) (hF : pX (qz Q) E B) {I : pI} {R : pR} (hL : pw_Lay R) (h : j_md_tableRow_127  Q x1 I R) : PX E B m_md_tableRow.2.2.1 127 [some (.ref 121), some (.int x1), none] [] I R := by
  unfold j_md_tableRow_127 at h
  refine PW.aload_n g rfl rfl d_md_tableRow_127 ?_
  refine PW.iconst g (4) (by decide) d_md_tableRow_128 ?_
  refine PW.iload_n g rfl rfl d_md_tableRow_129 ?_
  refine PX.cVv [.int (4 : Int32), .int x1] [] g rfl ck_md (c_md_found d  hL h) cl_md_306 (by omega) (by decide) rfl rfl (Nat.le_of_ble_eq_true rfl) d_md_tableRow_130 (fun I12 R8 hL h => ?_)
  refine PW.aload_n g rfl rfl d_md_tableRow_133 ?_
  refine PW.iconst g (-1) (by decide) d_md_tableRow_134 ?_
  refine PW.putI g fi_md_233 rfl rfl rfl d_md_tableRow_135 ?_
  refine PX.gI (fun I13 eI13 => ?_)
  have h := h _ eI13
  refine PW.aload_n g rfl rfl d_md_tableRow_138 ?_
  refine PW.dup g rfl d_md_tableRow_139 ?_
  refine PW.getI g fi_md_278 rfl d_md_tableRow_140 ?_
  refine PW.iconst g (1) (by decide) d_md_tableRow_143 ?_
  refine PW.iadd g d_md_tableRow_144 ?_
  refine PW.putI g fi_md_278 rfl rfl rfl d_md_tableRow_145 ?_
  refine PX.gI (fun I14 eI14 => ?_)
  have h := h _ eI14
  refine PW.iconst g (1) (by decide) d_md_tableRow_148 ?_
  exact PX.zret g hF rfl (Or.inr rfl) d_md_tableRow_149 hL h
def w_md_tableRow (I : pI) (R : pR) (Q : Int32 → pI → pR → Prop) : Prop := (vp_in (I 121 7) 128 ∧ (∀ I1, I1 = pw_wI I 121 52 (0 : Int32) → (∃ n1, l_md_tableRow_17 (I 125 (I 121 7).toNatClampNeg) (fun I11 R7 => ((¬ (I11 121 52) = (I11 121 54) → (j_md_tableRow_127 Q (I 125 (I 121 7).toNatClampNeg) I11 R7)) ∧ ((I11 121 52) = (I11 121 54) → (((I11 121 35) < (6 : Int32) → (∀ I15, I15 = pw_wI I11 121 52 (-1 : Int32) → (∀ I16, I16 = pw_wI I15 121 35 ((I15 121 35) + (1 : Int32)) → Q (1 : Int32) I16 R7))) ∧ (¬ (I11 121 35) < (6 : Int32) → (j_md_tableRow_127 Q (I 125 (I 121 7).toNatClampNeg) I11 R7)))))) Q n1 (1 : Int32) I1 R)))
set_option maxHeartbeats 4000000 in
set_option maxRecDepth 100000 in
theorem c_md_tableRow (d : Nat) {I : pI} {R : pR} {Q : Int32 → pI → pR → Prop} (hL : pw_Lay R) (h : w_md_tableRow  I R Q) : Cm (d + 5) m_md_tableRow [.ref 121] I R (qz Q) := by
  refine Cm.of [some (.ref 121), none, none] (by decide) rfl (Nat.le_of_ble_eq_true rfl) (by simp) (fun E B g hF => ?_)
  unfold w_md_tableRow at h
  refine PW.aload_n g rfl rfl d_md_tableRow_0 ?_
  refine PW.getR (q := 125) g fi_md_19 rfl (hL 121 12 5 rfl (by decide)) d_md_tableRow_1 ?_
  refine PW.aload_n g rfl rfl d_md_tableRow_4 ?_
  refine PW.getI g fi_md_207 rfl d_md_tableRow_5 ?_
  refine PW.iald g rfl h.1 d_md_tableRow_8 ?_
  have h := h.2
  refine PW.istore_n g rfl (L' := [some (.ref 121), some (.int (I 125 (I 121 7).toNatClampNeg)), none]) (by decide) rfl rfl d_md_tableRow_9 ?_
  refine PW.aload_n g rfl rfl d_md_tableRow_10 ?_
  refine PW.iconst g (0) (by decide) d_md_tableRow_11 ?_
  refine PW.putI g fi_md_233 rfl rfl rfl d_md_tableRow_12 ?_
  refine PX.gI (fun I1 eI1 => ?_)
  have h := h _ eI1
  refine PW.iconst g (1) (by decide) d_md_tableRow_15 ?_
  refine PW.istore_n g rfl (L' := [some (.ref 121), some (.int (I 125 (I 121 7).toNatClampNeg)), some (.int (1 : Int32))]) (by decide) rfl rfl d_md_tableRow_16 ?_
  refine PX.sub [some (.ref 121), some (.int (I 125 (I 121 7).toNatClampNeg)), some (.int (1 : Int32))] ⟨rfl, ⟨rfl, ⟨rfl, trivial⟩⟩⟩ ?_
  obtain ⟨n1, h⟩ := h
  refine L_md_tableRow_17 d g hF (fun I11 R7 hL h => ?_) n1 (1 : Int32) I1 R hL h
  refine PW.aload_n g rfl rfl d_md_tableRow_107 ?_
  refine PW.getI g fi_md_233 rfl d_md_tableRow_108 ?_
  refine PW.aload_n g rfl rfl d_md_tableRow_111 ?_
  refine PW.getI g fi_md_328 rfl d_md_tableRow_112 ?_
  refine PW.icmp_ne g 127 (by decide) d_md_tableRow_115 (fun c5 => ?_) (fun c5 => ?_)
  · have h := h.1 c5
    refine PX.sub [some (.ref 121), some (.int (I 125 (I 121 7).toNatClampNeg)), none] ⟨rfl, ⟨rfl, trivial⟩⟩ ?_
    exact J_md_tableRow_127 d g hF hL h
  · have h := h.2 c5
    refine PW.aload_n g rfl rfl d_md_tableRow_118 ?_
    refine PW.getI g fi_md_278 rfl d_md_tableRow_119 ?_
    refine PW.bipush g (6) (by decide) d_md_tableRow_122 ?_
    refine PW.icmp_lt g 133 (by decide) d_md_tableRow_124 (fun c6 => ?_) (fun c6 => ?_)
    · have h := h.1 c6
      refine PW.aload_n g rfl rfl d_md_tableRow_133 ?_
      refine PW.iconst g (-1) (by decide) d_md_tableRow_134 ?_
      refine PW.putI g fi_md_233 rfl rfl rfl d_md_tableRow_135 ?_
      refine PX.gI (fun I15 eI15 => ?_)
      have h := h _ eI15
      refine PW.aload_n g rfl rfl d_md_tableRow_138 ?_
      refine PW.dup g rfl d_md_tableRow_139 ?_
      refine PW.getI g fi_md_278 rfl d_md_tableRow_140 ?_
      refine PW.iconst g (1) (by decide) d_md_tableRow_143 ?_
      refine PW.iadd g d_md_tableRow_144 ?_
      refine PW.putI g fi_md_278 rfl rfl rfl d_md_tableRow_145 ?_
      refine PX.gI (fun I16 eI16 => ?_)
      have h := h _ eI16
      refine PW.iconst g (1) (by decide) d_md_tableRow_148 ?_
      exact PX.zret g hF rfl (Or.inr rfl) d_md_tableRow_149 hL h
    · have h := h.2 c6
      refine PX.sub [some (.ref 121), some (.int (I 125 (I 121 7).toNatClampNeg)), none] ⟨rfl, ⟨rfl, trivial⟩⟩ ?_
      exact J_md_tableRow_127 d g hF hL h
def l_md_table_23 (K : pI → pR → Prop) (Q : Int32 → pI → pR → Prop) : Nat → Int32 → pI → pR → Prop
  | 0, _, _, _ => False
  | n + 1, x1, I, R => ((x1 = 0 → K I R) ∧ (¬ x1 = 0 → (vp_in (I 121 7) 128 ∧ (((I 123 (I 121 7).toNatClampNeg) = (2 : Int32) → (vp_in (I 121 7) 128 ∧ (vp_in (I 121 7) 128 ∧ (w_md_note (3 : Int32) (I 125 (I 121 7).toNatClampNeg) (I 124 (I 121 7).toNatClampNeg) (I 121 54) I R (fun I3 R2 => (vp_in (I3 121 7) 128 ∧ (vp_in (I3 121 54) 80 ∧ ∀ I4, I4 = pw_wI I3 157 (I3 121 54).toNatClampNeg (I3 124 (I3 121 7).toNatClampNeg) → (∀ I5, I5 = pw_wI I4 121 54 ((I4 121 54) + (1 : Int32)) → (∀ I6, I6 = pw_wI I5 121 7 ((I5 121 7) + (1 : Int32)) → (w_md_isBar  I6 R2 (fun v3 I7 R3 => ((v3 = 0 → l_md_table_23 K Q n v3 I7 R3) ∧ (¬ v3 = 0 → (∀ I8, I8 = pw_wI I7 121 7 ((I7 121 7) + (1 : Int32)) → l_md_table_23 K Q n v3 I8 R3)))))))))))))) ∧ (¬ (I 123 (I 121 7).toNatClampNeg) = (2 : Int32) → (w_md_fail  I R (fun v4 I9 R4 => Q v4 I9 R4)))))))
set_option maxHeartbeats 4000000 in
set_option maxRecDepth 100000 in
theorem L_md_table_23 (d : Nat) {K : pI → pR → Prop} {Q : Int32 → pI → pR → Prop} {E : pE} {B : pB} (g : pw_G m_md_table (d + 6) 0 0 E B) (hF : pX (qz Q) E B) (hK : ∀ (I : pI) (R : pR), pw_Lay R → K  I R → PX E B m_md_table.2.2.1 132 [some (.ref 121), none] [] I R) : ∀ (n : Nat) (x1 : Int32) (I : pI) (R : pR), pw_Lay R → l_md_table_23  K Q n x1 I R → PX E B m_md_table.2.2.1 23 [some (.ref 121), some (.int x1)] [] I R := by
  intro n
  induction n with
  | zero => intro x1 I R hL h; exact False.elim h
  | succ n ih =>
    intro x1 I R hL h
    refine PW.iload_n g rfl rfl d_md_table_23 ?_
    refine PW.if_eq g 132 (by decide) d_md_table_24 (fun c2 => ?_) (fun c2 => ?_)
    · have h := h.1 c2
      refine PX.sub [some (.ref 121), none] ⟨rfl, trivial⟩ ?_
      exact hK _ _ hL h
    · have h := h.2 c2
      refine PW.aload_n g rfl rfl d_md_table_27 ?_
      refine PW.getR (q := 123) g fi_md_13 rfl (hL 121 12 3 rfl (by decide)) d_md_table_28 ?_
      refine PW.aload_n g rfl rfl d_md_table_31 ?_
      refine PW.getI g fi_md_207 rfl d_md_table_32 ?_
      refine PW.iald g rfl h.1 d_md_table_35 ?_
      have h := h.2
      refine PW.iconst g (2) (by decide) d_md_table_36 ?_
      refine PW.icmp_eq g 45 (by decide) d_md_table_37 (fun c3 => ?_) (fun c3 => ?_)
      · have h := h.1 c3
        refine PW.aload_n g rfl rfl d_md_table_45 ?_
        refine PW.iconst g (3) (by decide) d_md_table_46 ?_
        refine PW.aload_n g rfl rfl d_md_table_47 ?_
        refine PW.getR (q := 125) g fi_md_19 rfl (hL 121 12 5 rfl (by decide)) d_md_table_48 ?_
        refine PW.aload_n g rfl rfl d_md_table_51 ?_
        refine PW.getI g fi_md_207 rfl d_md_table_52 ?_
        refine PW.iald g rfl h.1 d_md_table_55 ?_
        have h := h.2
        refine PW.aload_n g rfl rfl d_md_table_56 ?_
        refine PW.getR (q := 124) g fi_md_16 rfl (hL 121 12 4 rfl (by decide)) d_md_table_57 ?_
        refine PW.aload_n g rfl rfl d_md_table_60 ?_
        refine PW.getI g fi_md_207 rfl d_md_table_61 ?_
        refine PW.iald g rfl h.1 d_md_table_64 ?_
        have h := h.2
        refine PW.aload_n g rfl rfl d_md_table_65 ?_
        refine PW.getI g fi_md_328 rfl d_md_table_66 ?_
        refine PX.cVv [.int (3 : Int32), .int (I 125 (I 121 7).toNatClampNeg), .int (I 124 (I 121 7).toNatClampNeg), .int (I 121 54)] [] g rfl ck_md (c_md_note d  hL h) cl_md_236 (by omega) (by decide) rfl rfl (Nat.le_of_ble_eq_true rfl) d_md_table_69 (fun I3 R2 hL h => ?_)
        refine PW.aload_n g rfl rfl d_md_table_72 ?_
        refine PW.getR (q := 157) g fi_md_115 rfl (hL 121 12 53 rfl (by decide)) d_md_table_73 ?_
        refine PW.aload_n g rfl rfl d_md_table_76 ?_
        refine PW.getI g fi_md_328 rfl d_md_table_77 ?_
        refine PW.aload_n g rfl rfl d_md_table_80 ?_
        refine PW.getR (q := 124) g fi_md_16 rfl (hL 121 12 4 rfl (by decide)) d_md_table_81 ?_
        refine PW.aload_n g rfl rfl d_md_table_84 ?_
        refine PW.getI g fi_md_207 rfl d_md_table_85 ?_
        refine PW.iald g rfl h.1 d_md_table_88 ?_
        have h := h.2
        refine PW.iast g rfl h.1 d_md_table_89 ?_
        refine PX.gI (fun I4 eI4 => ?_)
        have h := h.2 _ eI4
        refine PW.aload_n g rfl rfl d_md_table_90 ?_
        refine PW.dup g rfl d_md_table_91 ?_
        refine PW.getI g fi_md_328 rfl d_md_table_92 ?_
        refine PW.iconst g (1) (by decide) d_md_table_95 ?_
        refine PW.iadd g d_md_table_96 ?_
        refine PW.putI g fi_md_328 rfl rfl rfl d_md_table_97 ?_
        refine PX.gI (fun I5 eI5 => ?_)
        have h := h _ eI5
        refine PW.aload_n g rfl rfl d_md_table_100 ?_
        refine PW.dup g rfl d_md_table_101 ?_
        refine PW.getI g fi_md_207 rfl d_md_table_102 ?_
        refine PW.iconst g (1) (by decide) d_md_table_105 ?_
        refine PW.iadd g d_md_table_106 ?_
        refine PW.putI g fi_md_207 rfl rfl rfl d_md_table_107 ?_
        refine PX.gI (fun I6 eI6 => ?_)
        have h := h _ eI6
        refine PW.aload_n g rfl rfl d_md_table_110 ?_
        refine PX.cVz [] [] g rfl ck_md (c_md_isBar d  hL h) cl_md_331 (by omega) (by decide) rfl rfl (Nat.le_of_ble_eq_true rfl) d_md_table_111 (fun v3 I7 R3 hL hzv3 h => ?_)
        refine PW.istore_n g rfl (L' := [some (.ref 121), some (.int v3)]) (by decide) rfl rfl d_md_table_114 ?_
        refine PW.iload_n g rfl rfl d_md_table_115 ?_
        refine PW.if_eq g 23 (by decide) d_md_table_116 (fun c4 => ?_) (fun c4 => ?_)
        · have h := h.1 c4
          refine PX.sub [some (.ref 121), some (.int v3)] ⟨rfl, ⟨rfl, trivial⟩⟩ ?_
          exact ih _ _ _ hL h
        · have h := h.2 c4
          refine PW.aload_n g rfl rfl d_md_table_119 ?_
          refine PW.dup g rfl d_md_table_120 ?_
          refine PW.getI g fi_md_207 rfl d_md_table_121 ?_
          refine PW.iconst g (1) (by decide) d_md_table_124 ?_
          refine PW.iadd g d_md_table_125 ?_
          refine PW.putI g fi_md_207 rfl rfl rfl d_md_table_126 ?_
          refine PX.gI (fun I8 eI8 => ?_)
          have h := h _ eI8
          refine PW.goto g 23 (by decide) d_md_table_129 ?_
          refine PX.sub [some (.ref 121), some (.int v3)] ⟨rfl, ⟨rfl, trivial⟩⟩ ?_
          exact ih _ _ _ hL h
      · have h := h.2 c3
        refine PW.aload_n g rfl rfl d_md_table_40 ?_
        refine PX.cVz [] [] g rfl ck_md (c_md_fail d  hL h) cl_md_213 (by omega) (by decide) rfl rfl (Nat.le_of_ble_eq_true rfl) d_md_table_41 (fun v4 I9 R4 hL hzv4 h => ?_)
        exact PX.zret g hF rfl hzv4 d_md_table_44 hL h
def l_md_table_151 (K : pI → pR → Prop) (Q : Int32 → pI → pR → Prop) : Nat → pI → pR → Prop
  | 0, _, _ => False
  | n + 1, I, R => (vp_in (I 121 7) 128 ∧ ((¬ (I 123 (I 121 7).toNatClampNeg) = (59 : Int32) → K I R) ∧ ((I 123 (I 121 7).toNatClampNeg) = (59 : Int32) → (∀ I11, I11 = pw_wI I 121 7 ((I 121 7) + (1 : Int32)) → (w_md_tableRow  I11 R (fun v5 I12 R6 => ((¬ v5 = 0 → l_md_table_151 K Q n I12 R6) ∧ (v5 = 0 → Q (0 : Int32) I12 R6))))))))
set_option maxHeartbeats 4000000 in
set_option maxRecDepth 100000 in
theorem L_md_table_151 (d : Nat) {K : pI → pR → Prop} {Q : Int32 → pI → pR → Prop} {E : pE} {B : pB} (g : pw_G m_md_table (d + 6) 0 0 E B) (hF : pX (qz Q) E B) (hK : ∀ (I : pI) (R : pR), pw_Lay R → K  I R → PX E B m_md_table.2.2.1 184 [none, none] [] I R) : ∀ (n : Nat) (I : pI) (R : pR), pw_Lay R → l_md_table_151  K Q n I R → PX E B m_md_table.2.2.1 151 [some (.ref 121), none] [] I R := by
  intro n
  induction n with
  | zero => intro I R hL h; exact False.elim h
  | succ n ih =>
    intro I R hL h
    refine PW.aload_n g rfl rfl d_md_table_151 ?_
    refine PW.getR (q := 123) g fi_md_13 rfl (hL 121 12 3 rfl (by decide)) d_md_table_152 ?_
    refine PW.aload_n g rfl rfl d_md_table_155 ?_
    refine PW.getI g fi_md_207 rfl d_md_table_156 ?_
    refine PW.iald g rfl h.1 d_md_table_159 ?_
    have h := h.2
    refine PW.bipush g (59) (by decide) d_md_table_160 ?_
    refine PW.icmp_ne g 184 (by decide) d_md_table_162 (fun c6 => ?_) (fun c6 => ?_)
    · have h := h.1 c6
      refine PX.sub [none, none] trivial ?_
      exact hK _ _ hL h
    · have h := h.2 c6
      refine PW.aload_n g rfl rfl d_md_table_165 ?_
      refine PW.dup g rfl d_md_table_166 ?_
      refine PW.getI g fi_md_207 rfl d_md_table_167 ?_
      refine PW.iconst g (1) (by decide) d_md_table_170 ?_
      refine PW.iadd g d_md_table_171 ?_
      refine PW.putI g fi_md_207 rfl rfl rfl d_md_table_172 ?_
      refine PX.gI (fun I11 eI11 => ?_)
      have h := h _ eI11
      refine PW.aload_n g rfl rfl d_md_table_175 ?_
      refine PX.cVz [] [] g rfl ck_md (c_md_tableRow d  hL h) cl_md_334 (by omega) (by decide) rfl rfl (Nat.le_of_ble_eq_true rfl) d_md_table_176 (fun v5 I12 R6 hL hzv5 h => ?_)
      refine PW.if_ne g 151 (by decide) d_md_table_179 (fun c7 => ?_) (fun c7 => ?_)
      · have h := h.1 c7
        refine PX.sub [some (.ref 121), none] ⟨rfl, trivial⟩ ?_
        exact ih _ _ hL h
      · have h := h.2 c7
        refine PW.iconst g (0) (by decide) d_md_table_182 ?_
        exact PX.zret g hF rfl (Or.inl rfl) d_md_table_183 hL h
def w_md_table (I : pI) (R : pR) (Q : Int32 → pI → pR → Prop) : Prop := (∀ I1, I1 = pw_wI I 121 7 ((I 121 7) + (1 : Int32)) → (w_md_want (58 : Int32) I1 R (fun v1 I2 R1 => ((¬ v1 = 0 → (∃ n2, l_md_table_23 (fun I10 R5 => (vp_in (I10 121 7) 128 ∧ (((I10 123 (I10 121 7).toNatClampNeg) = (59 : Int32) → (∃ n1, l_md_table_151 (fun I13 R7 => Q (1 : Int32) I13 R7) Q n1 I10 R5)) ∧ (¬ (I10 123 (I10 121 7).toNatClampNeg) = (59 : Int32) → (w_md_fail I10 R5 (fun v6 I14 R8 => Q v6 I14 R8)))))) Q n2 (1 : Int32) I2 R1)) ∧ (v1 = 0 → Q (0 : Int32) I2 R1)))))
set_option maxHeartbeats 4000000 in
set_option maxRecDepth 100000 in
theorem c_md_table (d : Nat) {I : pI} {R : pR} {Q : Int32 → pI → pR → Prop} (hL : pw_Lay R) (h : w_md_table  I R Q) : Cm (d + 6) m_md_table [.ref 121] I R (qz Q) := by
  refine Cm.of [some (.ref 121), none] (by decide) rfl (Nat.le_of_ble_eq_true rfl) (by simp) (fun E B g hF => ?_)
  unfold w_md_table at h
  refine PW.aload_n g rfl rfl d_md_table_0 ?_
  refine PW.dup g rfl d_md_table_1 ?_
  refine PW.getI g fi_md_207 rfl d_md_table_2 ?_
  refine PW.iconst g (1) (by decide) d_md_table_5 ?_
  refine PW.iadd g d_md_table_6 ?_
  refine PW.putI g fi_md_207 rfl rfl rfl d_md_table_7 ?_
  refine PX.gI (fun I1 eI1 => ?_)
  have h := h _ eI1
  refine PW.aload_n g rfl rfl d_md_table_10 ?_
  refine PW.bipush g (58) (by decide) d_md_table_11 ?_
  refine PX.cVz [.int (58 : Int32)] [] g rfl ck_md (c_md_want d  hL h) cl_md_297 (by omega) (by decide) rfl rfl (Nat.le_of_ble_eq_true rfl) d_md_table_13 (fun v1 I2 R1 hL hzv1 h => ?_)
  refine PW.if_ne g 21 (by decide) d_md_table_16 (fun c1 => ?_) (fun c1 => ?_)
  · have h := h.1 c1
    refine PW.iconst g (1) (by decide) d_md_table_21 ?_
    refine PW.istore_n g rfl (L' := [some (.ref 121), some (.int (1 : Int32))]) (by decide) rfl rfl d_md_table_22 ?_
    refine PX.sub [some (.ref 121), some (.int (1 : Int32))] ⟨rfl, ⟨rfl, trivial⟩⟩ ?_
    obtain ⟨n2, h⟩ := h
    refine L_md_table_23 d g hF (fun I10 R5 hL h => ?_) n2 (1 : Int32) I2 R1 hL h
    refine PW.aload_n g rfl rfl d_md_table_132 ?_
    refine PW.getR (q := 123) g fi_md_13 rfl (hL 121 12 3 rfl (by decide)) d_md_table_133 ?_
    refine PW.aload_n g rfl rfl d_md_table_136 ?_
    refine PW.getI g fi_md_207 rfl d_md_table_137 ?_
    refine PW.iald g rfl h.1 d_md_table_140 ?_
    have h := h.2
    refine PW.bipush g (59) (by decide) d_md_table_141 ?_
    refine PW.icmp_eq g 151 (by decide) d_md_table_143 (fun c5 => ?_) (fun c5 => ?_)
    · have h := h.1 c5
      refine PX.sub [some (.ref 121), none] ⟨rfl, trivial⟩ ?_
      obtain ⟨n1, h⟩ := h
      refine L_md_table_151 d g hF (fun I13 R7 hL h => ?_) n1 I10 R5 hL h
      refine PW.iconst g (1) (by decide) d_md_table_184 ?_
      exact PX.zret g hF rfl (Or.inr rfl) d_md_table_185 hL h
    · have h := h.2 c5
      refine PW.aload_n g rfl rfl d_md_table_146 ?_
      refine PX.cVz [] [] g rfl ck_md (c_md_fail d  hL h) cl_md_213 (by omega) (by decide) rfl rfl (Nat.le_of_ble_eq_true rfl) d_md_table_147 (fun v6 I14 R8 hL hzv6 h => ?_)
      exact PX.zret g hF rfl hzv6 d_md_table_150 hL h
  · have h := h.2 c1
    refine PW.iconst g (0) (by decide) d_md_table_19 ?_
    exact PX.zret g hF rfl (Or.inl rfl) d_md_table_20 hL h
def j_md_feature_80 (K28 : Int32 → pI → pR → Prop) (Q : Int32 → pI → pR → Prop) (I : pI) (R : pR) : Prop := (∀ I3, I3 = pw_wI I 121 34 ((I 121 34) + (1 : Int32)) → (vp_in (I3 121 7) 128 ∧ (((I3 123 (I3 121 7).toNatClampNeg) = (69 : Int32) → K28 (1 : Int32) I3 R) ∧ (¬ (I3 123 (I3 121 7).toNatClampNeg) = (69 : Int32) → (vp_in (I3 121 7) 128 ∧ ((¬ (I3 123 (I3 121 7).toNatClampNeg) = (87 : Int32) → K28 (0 : Int32) I3 R) ∧ ((I3 123 (I3 121 7).toNatClampNeg) = (87 : Int32) → K28 (1 : Int32) I3 R)))))))
set_option maxHeartbeats 4000000 in
set_option maxRecDepth 100000 in
theorem J_md_feature_80 (d : Nat) {K28 : Int32 → pI → pR → Prop} {Q : Int32 → pI → pR → Prop} {E : pE} {B : pB} (g : pw_G m_md_feature (d + 9) 0 0 E B) (hF : pX (qz Q) E B) (hK28 : ∀ (y1 : Int32) (I : pI) (R : pR), pw_Lay R → K28 y1 I R → PX E B m_md_feature.2.2.1 28 [some (.ref 121), some (.int y1)] [] I R) {I : pI} {R : pR} (hL : pw_Lay R) (h : j_md_feature_80  K28 Q  I R) : PX E B m_md_feature.2.2.1 80 [some (.ref 121), none] [] I R := by
  unfold j_md_feature_80 at h
  refine PW.aload_n g rfl rfl d_md_feature_80 ?_
  refine PW.dup g rfl d_md_feature_81 ?_
  refine PW.getI g fi_md_281 rfl d_md_feature_82 ?_
  refine PW.iconst g (1) (by decide) d_md_feature_85 ?_
  refine PW.iadd g d_md_feature_86 ?_
  refine PW.putI g fi_md_281 rfl rfl rfl d_md_feature_87 ?_
  refine PX.gI (fun I3 eI3 => ?_)
  have h := h _ eI3
  refine PW.aload_n g rfl rfl d_md_feature_90 ?_
  refine PW.getR (q := 123) g fi_md_13 rfl (hL 121 12 3 rfl (by decide)) d_md_feature_91 ?_
  refine PW.aload_n g rfl rfl d_md_feature_94 ?_
  refine PW.getI g fi_md_207 rfl d_md_feature_95 ?_
  refine PW.iald g rfl h.1 d_md_feature_98 ?_
  have h := h.2
  refine PW.bipush g (69) (by decide) d_md_feature_99 ?_
  refine PW.icmp_eq g 118 (by decide) d_md_feature_101 (fun c6 => ?_) (fun c6 => ?_)
  · have h := h.1 c6
    refine PW.iconst g (1) (by decide) d_md_feature_118 ?_
    refine PW.goto g 123 (by decide) d_md_feature_119 ?_
    refine PW.istore_n g rfl (L' := [some (.ref 121), some (.int (1 : Int32))]) (by decide) rfl rfl d_md_feature_123 ?_
    refine PW.goto g 28 (by decide) d_md_feature_124 ?_
    refine PX.sub [some (.ref 121), some (.int (1 : Int32))] ⟨rfl, ⟨rfl, trivial⟩⟩ ?_
    exact hK28 _ _ _ hL h
  · have h := h.2 c6
    refine PW.aload_n g rfl rfl d_md_feature_104 ?_
    refine PW.getR (q := 123) g fi_md_13 rfl (hL 121 12 3 rfl (by decide)) d_md_feature_105 ?_
    refine PW.aload_n g rfl rfl d_md_feature_108 ?_
    refine PW.getI g fi_md_207 rfl d_md_feature_109 ?_
    refine PW.iald g rfl h.1 d_md_feature_112 ?_
    have h := h.2
    refine PW.bipush g (87) (by decide) d_md_feature_113 ?_
    refine PW.icmp_ne g 122 (by decide) d_md_feature_115 (fun c7 => ?_) (fun c7 => ?_)
    · have h := h.1 c7
      refine PW.iconst g (0) (by decide) d_md_feature_122 ?_
      refine PW.istore_n g rfl (L' := [some (.ref 121), some (.int (0 : Int32))]) (by decide) rfl rfl d_md_feature_123 ?_
      refine PW.goto g 28 (by decide) d_md_feature_124 ?_
      refine PX.sub [some (.ref 121), some (.int (0 : Int32))] ⟨rfl, ⟨rfl, trivial⟩⟩ ?_
      exact hK28 _ _ _ hL h
    · have h := h.2 c7
      refine PW.iconst g (1) (by decide) d_md_feature_118 ?_
      refine PW.goto g 123 (by decide) d_md_feature_119 ?_
      refine PW.istore_n g rfl (L' := [some (.ref 121), some (.int (1 : Int32))]) (by decide) rfl rfl d_md_feature_123 ?_
      refine PW.goto g 28 (by decide) d_md_feature_124 ?_
      refine PX.sub [some (.ref 121), some (.int (1 : Int32))] ⟨rfl, ⟨rfl, trivial⟩⟩ ?_
      exact hK28 _ _ _ hL h
def l_md_feature_28 (K : pI → pR → Prop) (Q : Int32 → pI → pR → Prop) : Nat → Int32 → pI → pR → Prop
  | 0, _, _, _ => False
  | n + 1, x1, I, R => ((x1 = 0 → K I R) ∧ (¬ x1 = 0 → (vp_in (I 121 7) 128 ∧ ((¬ (I 123 (I 121 7).toNatClampNeg) = (69 : Int32) → (w_md_block (87 : Int32) (3 : Int32) I R (fun v1 I1 R1 => ((v1 = 0 → Q (0 : Int32) I1 R1) ∧ (¬ v1 = 0 → (w_md_block (84 : Int32) (4 : Int32) I1 R1 (fun v2 I2 R2 => ((¬ v2 = 0 → (j_md_feature_80 (fun y1 I4 R3 => l_md_feature_28 K Q n y1 I4 R3) Q I2 R2)) ∧ (v2 = 0 → Q (0 : Int32) I2 R2))))))))) ∧ ((I 123 (I 121 7).toNatClampNeg) = (69 : Int32) → (w_md_block (69 : Int32) (2 : Int32) I R (fun v3 I5 R4 => ((¬ v3 = 0 → (j_md_feature_80 (fun y2 I6 R5 => l_md_feature_28 K Q n y2 I6 R5) Q I5 R4)) ∧ (v3 = 0 → Q (0 : Int32) I5 R4)))))))))
set_option maxHeartbeats 4000000 in
set_option maxRecDepth 100000 in
theorem L_md_feature_28 (d : Nat) {K : pI → pR → Prop} {Q : Int32 → pI → pR → Prop} {E : pE} {B : pB} (g : pw_G m_md_feature (d + 9) 0 0 E B) (hF : pX (qz Q) E B) (hK : ∀ (I : pI) (R : pR), pw_Lay R → K  I R → PX E B m_md_feature.2.2.1 127 [some (.ref 121), none] [] I R) : ∀ (n : Nat) (x1 : Int32) (I : pI) (R : pR), pw_Lay R → l_md_feature_28  K Q n x1 I R → PX E B m_md_feature.2.2.1 28 [some (.ref 121), some (.int x1)] [] I R := by
  intro n
  induction n with
  | zero => intro x1 I R hL h; exact False.elim h
  | succ n ih =>
    intro x1 I R hL h
    refine PW.iload_n g rfl rfl d_md_feature_28 ?_
    refine PW.if_eq g 127 (by decide) d_md_feature_29 (fun c2 => ?_) (fun c2 => ?_)
    · have h := h.1 c2
      refine PX.sub [some (.ref 121), none] ⟨rfl, trivial⟩ ?_
      exact hK _ _ hL h
    · have h := h.2 c2
      refine PW.aload_n g rfl rfl d_md_feature_32 ?_
      refine PW.getR (q := 123) g fi_md_13 rfl (hL 121 12 3 rfl (by decide)) d_md_feature_33 ?_
      refine PW.aload_n g rfl rfl d_md_feature_36 ?_
      refine PW.getI g fi_md_207 rfl d_md_feature_37 ?_
      refine PW.iald g rfl h.1 d_md_feature_40 ?_
      have h := h.2
      refine PW.bipush g (69) (by decide) d_md_feature_41 ?_
      refine PW.icmp_ne g 58 (by decide) d_md_feature_43 (fun c3 => ?_) (fun c3 => ?_)
      · have h := h.1 c3
        refine PW.aload_n g rfl rfl d_md_feature_58 ?_
        refine PW.bipush g (87) (by decide) d_md_feature_59 ?_
        refine PW.iconst g (3) (by decide) d_md_feature_61 ?_
        refine PX.cVz [.int (87 : Int32), .int (3 : Int32)] [] g rfl ck_md (c_md_block d  hL h) cl_md_337 (by omega) (by decide) rfl rfl (Nat.le_of_ble_eq_true rfl) d_md_feature_62 (fun v1 I1 R1 hL hzv1 h => ?_)
        refine PW.if_eq g 78 (by decide) d_md_feature_65 (fun c4 => ?_) (fun c4 => ?_)
        · have h := h.1 c4
          refine PW.iconst g (0) (by decide) d_md_feature_78 ?_
          exact PX.zret g hF rfl (Or.inl rfl) d_md_feature_79 hL h
        · have h := h.2 c4
          refine PW.aload_n g rfl rfl d_md_feature_68 ?_
          refine PW.bipush g (84) (by decide) d_md_feature_69 ?_
          refine PW.iconst g (4) (by decide) d_md_feature_71 ?_
          refine PX.cVz [.int (84 : Int32), .int (4 : Int32)] [] g rfl ck_md (c_md_block d  hL h) cl_md_337 (by omega) (by decide) rfl rfl (Nat.le_of_ble_eq_true rfl) d_md_feature_72 (fun v2 I2 R2 hL hzv2 h => ?_)
          refine PW.if_ne g 80 (by decide) d_md_feature_75 (fun c5 => ?_) (fun c5 => ?_)
          · have h := h.1 c5
            refine PX.sub [some (.ref 121), none] ⟨rfl, trivial⟩ ?_
            refine J_md_feature_80 d g hF (fun y1 I4 R3 hL h => ?_) hL h
            refine PX.sub [some (.ref 121), some (.int y1)] ⟨rfl, ⟨rfl, trivial⟩⟩ ?_
            exact ih _ _ _ hL h
          · have h := h.2 c5
            refine PW.iconst g (0) (by decide) d_md_feature_78 ?_
            exact PX.zret g hF rfl (Or.inl rfl) d_md_feature_79 hL h
      · have h := h.2 c3
        refine PW.aload_n g rfl rfl d_md_feature_46 ?_
        refine PW.bipush g (69) (by decide) d_md_feature_47 ?_
        refine PW.iconst g (2) (by decide) d_md_feature_49 ?_
        refine PX.cVz [.int (69 : Int32), .int (2 : Int32)] [] g rfl ck_md (c_md_block d  hL h) cl_md_337 (by omega) (by decide) rfl rfl (Nat.le_of_ble_eq_true rfl) d_md_feature_50 (fun v3 I5 R4 hL hzv3 h => ?_)
        refine PW.if_ne g 80 (by decide) d_md_feature_53 (fun c8 => ?_) (fun c8 => ?_)
        · have h := h.1 c8
          refine PX.sub [some (.ref 121), none] ⟨rfl, trivial⟩ ?_
          refine J_md_feature_80 d g hF (fun y2 I6 R5 hL h => ?_) hL h
          refine PX.sub [some (.ref 121), some (.int y2)] ⟨rfl, ⟨rfl, trivial⟩⟩ ?_
          exact ih _ _ _ hL h
        · have h := h.2 c8
          refine PW.iconst g (0) (by decide) d_md_feature_56 ?_
          exact PX.zret g hF rfl (Or.inl rfl) d_md_feature_57 hL h
def j_md_feature_154 (Q : Int32 → pI → pR → Prop) (I : pI) (R : pR) : Prop := (vp_in (I 121 7) 128 ∧ ((¬ (I 123 (I 121 7).toNatClampNeg) = (68 : Int32) → (w_md_want (0 : Int32) I R (fun v4 I8 R7 => Q v4 I8 R7))) ∧ ((I 123 (I 121 7).toNatClampNeg) = (68 : Int32) → (w_md_table  I R (fun v5 I9 R8 => ((¬ v5 = 0 → (w_md_want (0 : Int32) I9 R8 (fun v6 I10 R9 => Q v6 I10 R9))) ∧ (v5 = 0 → Q (0 : Int32) I9 R8)))))))
set_option maxHeartbeats 4000000 in
set_option maxRecDepth 100000 in
theorem J_md_feature_154 (d : Nat) {Q : Int32 → pI → pR → Prop} {E : pE} {B : pB} (g : pw_G m_md_feature (d + 9) 0 0 E B) (hF : pX (qz Q) E B) {I : pI} {R : pR} (hL : pw_Lay R) (h : j_md_feature_154  Q  I R) : PX E B m_md_feature.2.2.1 154 [some (.ref 121), none] [] I R := by
  unfold j_md_feature_154 at h
  refine PW.aload_n g rfl rfl d_md_feature_154 ?_
  refine PW.getR (q := 123) g fi_md_13 rfl (hL 121 12 3 rfl (by decide)) d_md_feature_155 ?_
  refine PW.aload_n g rfl rfl d_md_feature_158 ?_
  refine PW.getI g fi_md_207 rfl d_md_feature_159 ?_
  refine PW.iald g rfl h.1 d_md_feature_162 ?_
  have h := h.2
  refine PW.bipush g (68) (by decide) d_md_feature_163 ?_
  refine PW.icmp_ne g 177 (by decide) d_md_feature_165 (fun c10 => ?_) (fun c10 => ?_)
  · have h := h.1 c10
    refine PW.aload_n g rfl rfl d_md_feature_177 ?_
    refine PW.iconst g (0) (by decide) d_md_feature_178 ?_
    refine PX.cVz [.int (0 : Int32)] [] g rfl ck_md (c_md_want d  hL h) cl_md_297 (by omega) (by decide) rfl rfl (Nat.le_of_ble_eq_true rfl) d_md_feature_179 (fun v4 I8 R7 hL hzv4 h => ?_)
    exact PX.zret g hF rfl hzv4 d_md_feature_182 hL h
  · have h := h.2 c10
    refine PW.aload_n g rfl rfl d_md_feature_168 ?_
    refine PX.cVz [] [] g rfl ck_md (c_md_table d  hL h) cl_md_341 (by omega) (by decide) rfl rfl (Nat.le_of_ble_eq_true rfl) d_md_feature_169 (fun v5 I9 R8 hL hzv5 h => ?_)
    refine PW.if_ne g 177 (by decide) d_md_feature_172 (fun c11 => ?_) (fun c11 => ?_)
    · have h := h.1 c11
      refine PW.aload_n g rfl rfl d_md_feature_177 ?_
      refine PW.iconst g (0) (by decide) d_md_feature_178 ?_
      refine PX.cVz [.int (0 : Int32)] [] g rfl ck_md (c_md_want d  hL h) cl_md_297 (by omega) (by decide) rfl rfl (Nat.le_of_ble_eq_true rfl) d_md_feature_179 (fun v6 I10 R9 hL hzv6 h => ?_)
      exact PX.zret g hF rfl hzv6 d_md_feature_182 hL h
    · have h := h.2 c11
      refine PW.iconst g (0) (by decide) d_md_feature_175 ?_
      exact PX.zret g hF rfl (Or.inl rfl) d_md_feature_176 hL h
def w_md_feature (I : pI) (R : pR) (Q : Int32 → pI → pR → Prop) : Prop := (vp_in (I 121 7) 128 ∧ ((¬ (I 123 (I 121 7).toNatClampNeg) = (71 : Int32) → (∃ n1, l_md_feature_28 (fun I7 R6 => (vp_in (I7 121 7) 128 ∧ ((¬ (I7 123 (I7 121 7).toNatClampNeg) = (67 : Int32) → (j_md_feature_154 Q I7 R6)) ∧ ((I7 123 (I7 121 7).toNatClampNeg) = (67 : Int32) → (w_md_block (67 : Int32) (8 : Int32) I7 R6 (fun v7 I11 R10 => ((¬ v7 = 0 → (j_md_feature_154 Q I11 R10)) ∧ (v7 = 0 → Q (0 : Int32) I11 R10)))))))) Q n1 (1 : Int32) I R)) ∧ ((I 123 (I 121 7).toNatClampNeg) = (71 : Int32) → (w_md_block (71 : Int32) (1 : Int32) I R (fun v8 I12 R11 => ((¬ v8 = 0 → (∃ n2, l_md_feature_28 (fun I13 R12 => (vp_in (I13 121 7) 128 ∧ ((¬ (I13 123 (I13 121 7).toNatClampNeg) = (67 : Int32) → (j_md_feature_154 Q I13 R12)) ∧ ((I13 123 (I13 121 7).toNatClampNeg) = (67 : Int32) → (w_md_block (67 : Int32) (8 : Int32) I13 R12 (fun v9 I14 R13 => ((¬ v9 = 0 → (j_md_feature_154 Q I14 R13)) ∧ (v9 = 0 → Q (0 : Int32) I14 R13)))))))) Q n2 (1 : Int32) I12 R11)) ∧ (v8 = 0 → Q (0 : Int32) I12 R11)))))))
set_option maxHeartbeats 4000000 in
set_option maxRecDepth 100000 in
theorem c_md_feature (d : Nat) {I : pI} {R : pR} {Q : Int32 → pI → pR → Prop} (hL : pw_Lay R) (h : w_md_feature  I R Q) : Cm (d + 9) m_md_feature [.ref 121] I R (qz Q) := by
  refine Cm.of [some (.ref 121), none] (by decide) rfl (Nat.le_of_ble_eq_true rfl) (by simp) (fun E B g hF => ?_)
  unfold w_md_feature at h
  refine PW.aload_n g rfl rfl d_md_feature_0 ?_
  refine PW.getR (q := 123) g fi_md_13 rfl (hL 121 12 3 rfl (by decide)) d_md_feature_1 ?_
  refine PW.aload_n g rfl rfl d_md_feature_4 ?_
  refine PW.getI g fi_md_207 rfl d_md_feature_5 ?_
  refine PW.iald g rfl h.1 d_md_feature_8 ?_
  have h := h.2
  refine PW.bipush g (71) (by decide) d_md_feature_9 ?_
  refine PW.icmp_ne g 26 (by decide) d_md_feature_11 (fun c1 => ?_) (fun c1 => ?_)
  · have h := h.1 c1
    refine PW.iconst g (1) (by decide) d_md_feature_26 ?_
    refine PW.istore_n g rfl (L' := [some (.ref 121), some (.int (1 : Int32))]) (by decide) rfl rfl d_md_feature_27 ?_
    refine PX.sub [some (.ref 121), some (.int (1 : Int32))] ⟨rfl, ⟨rfl, trivial⟩⟩ ?_
    obtain ⟨n1, h⟩ := h
    refine L_md_feature_28 d g hF (fun I7 R6 hL h => ?_) n1 (1 : Int32) I R hL h
    refine PW.aload_n g rfl rfl d_md_feature_127 ?_
    refine PW.getR (q := 123) g fi_md_13 rfl (hL 121 12 3 rfl (by decide)) d_md_feature_128 ?_
    refine PW.aload_n g rfl rfl d_md_feature_131 ?_
    refine PW.getI g fi_md_207 rfl d_md_feature_132 ?_
    refine PW.iald g rfl h.1 d_md_feature_135 ?_
    have h := h.2
    refine PW.bipush g (67) (by decide) d_md_feature_136 ?_
    refine PW.icmp_ne g 154 (by decide) d_md_feature_138 (fun c9 => ?_) (fun c9 => ?_)
    · have h := h.1 c9
      refine PX.sub [some (.ref 121), none] ⟨rfl, trivial⟩ ?_
      exact J_md_feature_154 d g hF hL h
    · have h := h.2 c9
      refine PW.aload_n g rfl rfl d_md_feature_141 ?_
      refine PW.bipush g (67) (by decide) d_md_feature_142 ?_
      refine PW.bipush g (8) (by decide) d_md_feature_144 ?_
      refine PX.cVz [.int (67 : Int32), .int (8 : Int32)] [] g rfl ck_md (c_md_block d  hL h) cl_md_337 (by omega) (by decide) rfl rfl (Nat.le_of_ble_eq_true rfl) d_md_feature_146 (fun v7 I11 R10 hL hzv7 h => ?_)
      refine PW.if_ne g 154 (by decide) d_md_feature_149 (fun c12 => ?_) (fun c12 => ?_)
      · have h := h.1 c12
        refine PX.sub [some (.ref 121), none] ⟨rfl, trivial⟩ ?_
        exact J_md_feature_154 d g hF hL h
      · have h := h.2 c12
        refine PW.iconst g (0) (by decide) d_md_feature_152 ?_
        exact PX.zret g hF rfl (Or.inl rfl) d_md_feature_153 hL h
  · have h := h.2 c1
    refine PW.aload_n g rfl rfl d_md_feature_14 ?_
    refine PW.bipush g (71) (by decide) d_md_feature_15 ?_
    refine PW.iconst g (1) (by decide) d_md_feature_17 ?_
    refine PX.cVz [.int (71 : Int32), .int (1 : Int32)] [] g rfl ck_md (c_md_block d  hL h) cl_md_337 (by omega) (by decide) rfl rfl (Nat.le_of_ble_eq_true rfl) d_md_feature_18 (fun v8 I12 R11 hL hzv8 h => ?_)
    refine PW.if_ne g 26 (by decide) d_md_feature_21 (fun c13 => ?_) (fun c13 => ?_)
    · have h := h.1 c13
      refine PW.iconst g (1) (by decide) d_md_feature_26 ?_
      refine PW.istore_n g rfl (L' := [some (.ref 121), some (.int (1 : Int32))]) (by decide) rfl rfl d_md_feature_27 ?_
      refine PX.sub [some (.ref 121), some (.int (1 : Int32))] ⟨rfl, ⟨rfl, trivial⟩⟩ ?_
      obtain ⟨n2, h⟩ := h
      refine L_md_feature_28 d g hF (fun I13 R12 hL h => ?_) n2 (1 : Int32) I12 R11 hL h
      refine PW.aload_n g rfl rfl d_md_feature_127 ?_
      refine PW.getR (q := 123) g fi_md_13 rfl (hL 121 12 3 rfl (by decide)) d_md_feature_128 ?_
      refine PW.aload_n g rfl rfl d_md_feature_131 ?_
      refine PW.getI g fi_md_207 rfl d_md_feature_132 ?_
      refine PW.iald g rfl h.1 d_md_feature_135 ?_
      have h := h.2
      refine PW.bipush g (67) (by decide) d_md_feature_136 ?_
      refine PW.icmp_ne g 154 (by decide) d_md_feature_138 (fun c14 => ?_) (fun c14 => ?_)
      · have h := h.1 c14
        refine PX.sub [some (.ref 121), none] ⟨rfl, trivial⟩ ?_
        exact J_md_feature_154 d g hF hL h
      · have h := h.2 c14
        refine PW.aload_n g rfl rfl d_md_feature_141 ?_
        refine PW.bipush g (67) (by decide) d_md_feature_142 ?_
        refine PW.bipush g (8) (by decide) d_md_feature_144 ?_
        refine PX.cVz [.int (67 : Int32), .int (8 : Int32)] [] g rfl ck_md (c_md_block d  hL h) cl_md_337 (by omega) (by decide) rfl rfl (Nat.le_of_ble_eq_true rfl) d_md_feature_146 (fun v9 I14 R13 hL hzv9 h => ?_)
        refine PW.if_ne g 154 (by decide) d_md_feature_149 (fun c15 => ?_) (fun c15 => ?_)
        · have h := h.1 c15
          refine PX.sub [some (.ref 121), none] ⟨rfl, trivial⟩ ?_
          exact J_md_feature_154 d g hF hL h
        · have h := h.2 c15
          refine PW.iconst g (0) (by decide) d_md_feature_152 ?_
          exact PX.zret g hF rfl (Or.inl rfl) d_md_feature_153 hL h
    · have h := h.2 c13
      refine PW.iconst g (0) (by decide) d_md_feature_24 ?_
      exact PX.zret g hF rfl (Or.inl rfl) d_md_feature_25 hL h
def l_md_isData_5 (f1 : Int32) (f2 : Int32) (K : Int32 → pI → pR → Prop) (Q : Int32 → pI → pR → Prop) : Nat → Int32 → Int32 → pI → pR → Prop
  | 0, _, _, _, _ => False
  | n + 1, x3, x4, I, R => (((I 121 54) ≤ x4 → K x3 I R) ∧ (¬ (I 121 54) ≤ x4 → ((f2 ≤ x4 → K x3 I R) ∧ (¬ f2 ≤ x4 → ((¬ x3 = 0 → l_md_isData_5 f1 f2 K Q n (1 : Int32) (x4 + 1) I R) ∧ (x3 = 0 → (vp_in x4 80 ∧ ((¬ (I 157 x4.toNatClampNeg) = f1 → l_md_isData_5 f1 f2 K Q n (0 : Int32) (x4 + 1) I R) ∧ ((I 157 x4.toNatClampNeg) = f1 → l_md_isData_5 f1 f2 K Q n (1 : Int32) (x4 + 1) I R)))))))))
set_option maxHeartbeats 4000000 in
set_option maxRecDepth 100000 in
theorem L_md_isData_5 (d : Nat) {f1 : Int32} {f2 : Int32} {K : Int32 → pI → pR → Prop} {Q : Int32 → pI → pR → Prop} {E : pE} {B : pB} (g : pw_G m_md_isData (d + 1) 0 0 E B) (hF : pX (qz Q) E B) (hK : ∀ (y3 : Int32) (I : pI) (R : pR), pw_Lay R → K y3 I R → PX E B m_md_isData.2.2.1 47 [none, none, none, some (.int y3), none] [] I R) : ∀ (n : Nat) (x3 : Int32) (x4 : Int32) (I : pI) (R : pR), pw_Lay R → l_md_isData_5 f1 f2 K Q n x3 x4 I R → PX E B m_md_isData.2.2.1 5 [some (.ref 121), some (.int f1), some (.int f2), some (.int x3), some (.int x4)] [] I R := by
  intro n
  induction n with
  | zero => intro x3 x4 I R hL h; exact False.elim h
  | succ n ih =>
    intro x3 x4 I R hL h
    refine PW.iload g rfl d_md_isData_5 ?_
    refine PW.aload_n g rfl rfl d_md_isData_7 ?_
    refine PW.getI g fi_md_328 rfl d_md_isData_8 ?_
    refine PW.icmp_ge g 47 (by decide) d_md_isData_11 (fun c1 => ?_) (fun c1 => ?_)
    · have h := h.1 c1
      refine PX.sub [none, none, none, some (.int x3), none] ⟨rfl, trivial⟩ ?_
      exact hK _ _ _ hL h
    · have h := h.2 c1
      refine PW.iload g rfl d_md_isData_14 ?_
      refine PW.iload_n g rfl rfl d_md_isData_16 ?_
      refine PW.icmp_ge g 47 (by decide) d_md_isData_17 (fun c2 => ?_) (fun c2 => ?_)
      · have h := h.1 c2
        refine PX.sub [none, none, none, some (.int x3), none] ⟨rfl, trivial⟩ ?_
        exact hK _ _ _ hL h
      · have h := h.2 c2
        refine PW.iload_n g rfl rfl d_md_isData_20 ?_
        refine PW.if_ne g 35 (by decide) d_md_isData_21 (fun c3 => ?_) (fun c3 => ?_)
        · have h := h.1 c3
          refine PW.iconst g (1) (by decide) d_md_isData_35 ?_
          refine PW.goto g 40 (by decide) d_md_isData_36 ?_
          refine PW.istore_n g rfl (L' := [some (.ref 121), some (.int f1), some (.int f2), some (.int (1 : Int32)), some (.int x4)]) (by decide) rfl rfl d_md_isData_40 ?_
          refine PW.iinc g rfl (show x4 + Int32.ofInt (1) = (x4 + 1) from congrArg (HAdd.hAdd x4) (by decide)) (by decide) rfl (L' := [some (.ref 121), some (.int f1), some (.int f2), some (.int (1 : Int32)), some (.int (x4 + 1))]) rfl d_md_isData_41 ?_
          refine PW.goto g 5 (by decide) d_md_isData_44 ?_
          refine PX.sub [some (.ref 121), some (.int f1), some (.int f2), some (.int (1 : Int32)), some (.int (x4 + 1))] ⟨rfl, ⟨rfl, ⟨rfl, ⟨rfl, ⟨rfl, trivial⟩⟩⟩⟩⟩ ?_
          exact ih _ _ _ _ hL h
        · have h := h.2 c3
          refine PW.aload_n g rfl rfl d_md_isData_24 ?_
          refine PW.getR (q := 157) g fi_md_115 rfl (hL 121 12 53 rfl (by decide)) d_md_isData_25 ?_
          refine PW.iload g rfl d_md_isData_28 ?_
          refine PW.iald g rfl h.1 d_md_isData_30 ?_
          have h := h.2
          refine PW.iload_n g rfl rfl d_md_isData_31 ?_
          refine PW.icmp_ne g 39 (by decide) d_md_isData_32 (fun c4 => ?_) (fun c4 => ?_)
          · have h := h.1 c4
            refine PW.iconst g (0) (by decide) d_md_isData_39 ?_
            refine PW.istore_n g rfl (L' := [some (.ref 121), some (.int f1), some (.int f2), some (.int (0 : Int32)), some (.int x4)]) (by decide) rfl rfl d_md_isData_40 ?_
            refine PW.iinc g rfl (show x4 + Int32.ofInt (1) = (x4 + 1) from congrArg (HAdd.hAdd x4) (by decide)) (by decide) rfl (L' := [some (.ref 121), some (.int f1), some (.int f2), some (.int (0 : Int32)), some (.int (x4 + 1))]) rfl d_md_isData_41 ?_
            refine PW.goto g 5 (by decide) d_md_isData_44 ?_
            refine PX.sub [some (.ref 121), some (.int f1), some (.int f2), some (.int (0 : Int32)), some (.int (x4 + 1))] ⟨rfl, ⟨rfl, ⟨rfl, ⟨rfl, ⟨rfl, trivial⟩⟩⟩⟩⟩ ?_
            exact ih _ _ _ _ hL h
          · have h := h.2 c4
            refine PW.iconst g (1) (by decide) d_md_isData_35 ?_
            refine PW.goto g 40 (by decide) d_md_isData_36 ?_
            refine PW.istore_n g rfl (L' := [some (.ref 121), some (.int f1), some (.int f2), some (.int (1 : Int32)), some (.int x4)]) (by decide) rfl rfl d_md_isData_40 ?_
            refine PW.iinc g rfl (show x4 + Int32.ofInt (1) = (x4 + 1) from congrArg (HAdd.hAdd x4) (by decide)) (by decide) rfl (L' := [some (.ref 121), some (.int f1), some (.int f2), some (.int (1 : Int32)), some (.int (x4 + 1))]) rfl d_md_isData_41 ?_
            refine PW.goto g 5 (by decide) d_md_isData_44 ?_
            refine PX.sub [some (.ref 121), some (.int f1), some (.int f2), some (.int (1 : Int32)), some (.int (x4 + 1))] ⟨rfl, ⟨rfl, ⟨rfl, ⟨rfl, ⟨rfl, trivial⟩⟩⟩⟩⟩ ?_
            exact ih _ _ _ _ hL h
def w_md_isData (a1 : Int32) (a2 : Int32) (I : pI) (R : pR) (Q : Int32 → pI → pR → Prop) : Prop := (∃ n1, l_md_isData_5 a1 a2 (fun y1 I1 R1 => ((y1 = 0 ∨ y1 = 1) ∧ Q y1 I1 R1)) Q n1 (0 : Int32) (0 : Int32) I R)
set_option maxHeartbeats 4000000 in
set_option maxRecDepth 100000 in
theorem c_md_isData (d : Nat) {a1 : Int32} {a2 : Int32} {I : pI} {R : pR} {Q : Int32 → pI → pR → Prop} (hL : pw_Lay R) (h : w_md_isData a1 a2 I R Q) : Cm (d + 1) m_md_isData [.ref 121, .int a1, .int a2] I R (qz Q) := by
  refine Cm.of [some (.ref 121), some (.int a1), some (.int a2), none, none] (by decide) rfl (Nat.le_of_ble_eq_true rfl) (by simp) (fun E B g hF => ?_)
  unfold w_md_isData at h
  refine PW.iconst g (0) (by decide) d_md_isData_0 ?_
  refine PW.istore_n g rfl (L' := [some (.ref 121), some (.int a1), some (.int a2), some (.int (0 : Int32)), none]) (by decide) rfl rfl d_md_isData_1 ?_
  refine PW.iconst g (0) (by decide) d_md_isData_2 ?_
  refine PW.istore g (L' := [some (.ref 121), some (.int a1), some (.int a2), some (.int (0 : Int32)), some (.int (0 : Int32))]) (by decide) rfl rfl d_md_isData_3 ?_
  refine PX.sub [some (.ref 121), some (.int a1), some (.int a2), some (.int (0 : Int32)), some (.int (0 : Int32))] ⟨rfl, ⟨rfl, ⟨rfl, ⟨rfl, ⟨rfl, trivial⟩⟩⟩⟩⟩ ?_
  obtain ⟨n1, h⟩ := h
  refine L_md_isData_5 d g hF (fun y1 I1 R1 hL h => ?_) n1 (0 : Int32) (0 : Int32) I R hL h
  refine PW.iload_n g rfl rfl d_md_isData_47 ?_
  exact PX.zret g hF rfl h.1 d_md_isData_48 hL h.2
def j_md_look_184 (K4 : Int32 → Int32 → pI → pR → Prop) (Q : pI → pR → Prop) (x1 : Int32) (x2 : Int32) (x3 : Int32) (I : pI) (R : pR) : Prop := (vp_in x2 170 ∧ ((¬ (I 153 x2.toNatClampNeg) = (2 : Int32) → K4 x1 (x2 + 1) I R) ∧ ((I 153 x2.toNatClampNeg) = (2 : Int32) → K4 (x1 ||| ((1 : Int32) <<< (x3 &&& 31))) (x2 + 1) I R)))
set_option maxHeartbeats 4000000 in
set_option maxRecDepth 100000 in
theorem J_md_look_184 (d : Nat) {K4 : Int32 → Int32 → pI → pR → Prop} {Q : pI → pR → Prop} {x1 : Int32} {x2 : Int32} {x3 : Int32} {E : pE} {B : pB} (g : pw_G m_md_look (d + 2) 0 0 E B) (hF : pX (qv Q) E B) (hK4 : ∀ (y1 : Int32) (y2 : Int32) (I : pI) (R : pR), pw_Lay R → K4 y1 y2 I R → PX E B m_md_look.2.2.1 4 [some (.ref 121), some (.int y1), some (.int y2), none, none] [] I R) {I : pI} {R : pR} (hL : pw_Lay R) (h : j_md_look_184  K4 Q x1 x2 x3 I R) : PX E B m_md_look.2.2.1 184 [some (.ref 121), some (.int x1), some (.int x2), some (.int x3), none] [] I R := by
  unfold j_md_look_184 at h
  refine PW.aload_n g rfl rfl d_md_look_184 ?_
  refine PW.getR (q := 153) g fi_md_103 rfl (hL 121 12 48 rfl (by decide)) d_md_look_185 ?_
  refine PW.iload_n g rfl rfl d_md_look_188 ?_
  refine PW.iald g rfl h.1 d_md_look_189 ?_
  have h := h.2
  refine PW.iconst g (2) (by decide) d_md_look_190 ?_
  refine PW.icmp_ne g 202 (by decide) d_md_look_191 (fun c8 => ?_) (fun c8 => ?_)
  · have h := h.1 c8
    refine PW.iload_n g rfl rfl d_md_look_202 ?_
    refine PW.istore_n g rfl (L' := [some (.ref 121), some (.int x1), some (.int x2), some (.int x3), none]) (by decide) rfl rfl d_md_look_203 ?_
    refine PW.iinc g rfl (show x2 + Int32.ofInt (1) = (x2 + 1) from congrArg (HAdd.hAdd x2) (by decide)) (by decide) rfl (L' := [some (.ref 121), some (.int x1), some (.int (x2 + 1)), some (.int x3), none]) rfl d_md_look_204 ?_
    refine PW.goto g 4 (by decide) d_md_look_207 ?_
    refine PX.sub [some (.ref 121), some (.int x1), some (.int (x2 + 1)), none, none] ⟨rfl, ⟨rfl, ⟨rfl, trivial⟩⟩⟩ ?_
    exact hK4 _ _ _ _ hL h
  · have h := h.2 c8
    refine PW.iload_n g rfl rfl d_md_look_194 ?_
    refine PW.iconst g (1) (by decide) d_md_look_195 ?_
    refine PW.iload_n g rfl rfl d_md_look_196 ?_
    refine PW.ishl g d_md_look_197 ?_
    refine PW.ior g d_md_look_198 ?_
    refine PW.goto g 203 (by decide) d_md_look_199 ?_
    refine PW.istore_n g rfl (L' := [some (.ref 121), some (.int (x1 ||| ((1 : Int32) <<< (x3 &&& 31)))), some (.int x2), some (.int x3), none]) (by decide) rfl rfl d_md_look_203 ?_
    refine PW.iinc g rfl (show x2 + Int32.ofInt (1) = (x2 + 1) from congrArg (HAdd.hAdd x2) (by decide)) (by decide) rfl (L' := [some (.ref 121), some (.int (x1 ||| ((1 : Int32) <<< (x3 &&& 31)))), some (.int (x2 + 1)), some (.int x3), none]) rfl d_md_look_204 ?_
    refine PW.goto g 4 (by decide) d_md_look_207 ?_
    refine PX.sub [some (.ref 121), some (.int (x1 ||| ((1 : Int32) <<< (x3 &&& 31)))), some (.int (x2 + 1)), none, none] ⟨rfl, ⟨rfl, ⟨rfl, trivial⟩⟩⟩ ?_
    exact hK4 _ _ _ _ hL h
def j_md_look_153 (K4 : Int32 → Int32 → pI → pR → Prop) (Q : pI → pR → Prop) (x1 : Int32) (x2 : Int32) (x3 : Int32) (I : pI) (R : pR) : Prop := (vp_in x2 170 ∧ ((¬ (I 153 x2.toNatClampNeg) = (3 : Int32) → (j_md_look_184 (fun y1 y2 I1 R1 => K4 y1 y2 I1 R1) Q x1 x2 x3 I R)) ∧ ((I 153 x2.toNatClampNeg) = (3 : Int32) → (vp_in x2 170 ∧ ((¬ (I 156 x2.toNatClampNeg) = (4 : Int32) → (j_md_look_184 (fun y3 y4 I2 R2 => K4 y3 y4 I2 R2) Q x1 x2 x3 I R)) ∧ ((I 156 x2.toNatClampNeg) = (4 : Int32) → (vp_in x2 170 ∧ (w_md_found (4 : Int32) (I 154 x2.toNatClampNeg) I R (fun I3 R3 => (j_md_look_184 (fun y5 y6 I4 R4 => K4 y5 y6 I4 R4) Q x1 x2 x3 I3 R3))))))))))
set_option maxHeartbeats 4000000 in
set_option maxRecDepth 100000 in
theorem J_md_look_153 (d : Nat) {K4 : Int32 → Int32 → pI → pR → Prop} {Q : pI → pR → Prop} {x1 : Int32} {x2 : Int32} {x3 : Int32} {E : pE} {B : pB} (g : pw_G m_md_look (d + 2) 0 0 E B) (hF : pX (qv Q) E B) (hK4 : ∀ (y1 : Int32) (y2 : Int32) (I : pI) (R : pR), pw_Lay R → K4 y1 y2 I R → PX E B m_md_look.2.2.1 4 [some (.ref 121), some (.int y1), some (.int y2), none, none] [] I R) {I : pI} {R : pR} (hL : pw_Lay R) (h : j_md_look_153  K4 Q x1 x2 x3 I R) : PX E B m_md_look.2.2.1 153 [some (.ref 121), some (.int x1), some (.int x2), some (.int x3), none] [] I R := by
  unfold j_md_look_153 at h
  refine PW.aload_n g rfl rfl d_md_look_153 ?_
  refine PW.getR (q := 153) g fi_md_103 rfl (hL 121 12 48 rfl (by decide)) d_md_look_154 ?_
  refine PW.iload_n g rfl rfl d_md_look_157 ?_
  refine PW.iald g rfl h.1 d_md_look_158 ?_
  have h := h.2
  refine PW.iconst g (3) (by decide) d_md_look_159 ?_
  refine PW.icmp_ne g 184 (by decide) d_md_look_160 (fun c7 => ?_) (fun c7 => ?_)
  · have h := h.1 c7
    refine PX.sub [some (.ref 121), some (.int x1), some (.int x2), some (.int x3), none] ⟨rfl, ⟨rfl, ⟨rfl, ⟨rfl, trivial⟩⟩⟩⟩ ?_
    refine J_md_look_184 d g hF (fun y1 y2 I1 R1 hL h => ?_) hL h
    refine PX.sub [some (.ref 121), some (.int y1), some (.int y2), none, none] ⟨rfl, ⟨rfl, ⟨rfl, trivial⟩⟩⟩ ?_
    exact hK4 _ _ _ _ hL h
  · have h := h.2 c7
    refine PW.aload_n g rfl rfl d_md_look_163 ?_
    refine PW.getR (q := 156) g fi_md_112 rfl (hL 121 12 51 rfl (by decide)) d_md_look_164 ?_
    refine PW.iload_n g rfl rfl d_md_look_167 ?_
    refine PW.iald g rfl h.1 d_md_look_168 ?_
    have h := h.2
    refine PW.iconst g (4) (by decide) d_md_look_169 ?_
    refine PW.icmp_ne g 184 (by decide) d_md_look_170 (fun c9 => ?_) (fun c9 => ?_)
    · have h := h.1 c9
      refine PX.sub [some (.ref 121), some (.int x1), some (.int x2), some (.int x3), none] ⟨rfl, ⟨rfl, ⟨rfl, ⟨rfl, trivial⟩⟩⟩⟩ ?_
      refine J_md_look_184 d g hF (fun y3 y4 I2 R2 hL h => ?_) hL h
      refine PX.sub [some (.ref 121), some (.int y3), some (.int y4), none, none] ⟨rfl, ⟨rfl, ⟨rfl, trivial⟩⟩⟩ ?_
      exact hK4 _ _ _ _ hL h
    · have h := h.2 c9
      refine PW.aload_n g rfl rfl d_md_look_173 ?_
      refine PW.iconst g (4) (by decide) d_md_look_174 ?_
      refine PW.aload_n g rfl rfl d_md_look_175 ?_
      refine PW.getR (q := 154) g fi_md_106 rfl (hL 121 12 49 rfl (by decide)) d_md_look_176 ?_
      refine PW.iload_n g rfl rfl d_md_look_179 ?_
      refine PW.iald g rfl h.1 d_md_look_180 ?_
      have h := h.2
      refine PX.cVv [.int (4 : Int32), .int (I 154 x2.toNatClampNeg)] [] g rfl ck_md (c_md_found d  hL h) cl_md_306 (by omega) (by decide) rfl rfl (Nat.le_of_ble_eq_true rfl) d_md_look_181 (fun I3 R3 hL h => ?_)
      refine PX.sub [some (.ref 121), some (.int x1), some (.int x2), some (.int x3), none] ⟨rfl, ⟨rfl, ⟨rfl, ⟨rfl, trivial⟩⟩⟩⟩ ?_
      refine J_md_look_184 d g hF (fun y5 y6 I4 R4 hL h => ?_) hL h
      refine PX.sub [some (.ref 121), some (.int y5), some (.int y6), none, none] ⟨rfl, ⟨rfl, ⟨rfl, trivial⟩⟩⟩ ?_
      exact hK4 _ _ _ _ hL h
def j_md_look_142 (K4 : Int32 → Int32 → pI → pR → Prop) (Q : pI → pR → Prop) (x1 : Int32) (x2 : Int32) (x3 : Int32) (I : pI) (R : pR) : Prop := (vp_in x2 170 ∧ (w_md_found (3 : Int32) (I 154 x2.toNatClampNeg) I R (fun I8 R8 => (j_md_look_153 (fun y11 y12 I9 R9 => K4 y11 y12 I9 R9) Q x1 x2 x3 I8 R8))))
set_option maxHeartbeats 4000000 in
set_option maxRecDepth 100000 in
theorem J_md_look_142 (d : Nat) {K4 : Int32 → Int32 → pI → pR → Prop} {Q : pI → pR → Prop} {x1 : Int32} {x2 : Int32} {x3 : Int32} {E : pE} {B : pB} (g : pw_G m_md_look (d + 2) 0 0 E B) (hF : pX (qv Q) E B) (hK4 : ∀ (y1 : Int32) (y2 : Int32) (I : pI) (R : pR), pw_Lay R → K4 y1 y2 I R → PX E B m_md_look.2.2.1 4 [some (.ref 121), some (.int y1), some (.int y2), none, none] [] I R) {I : pI} {R : pR} (hL : pw_Lay R) (h : j_md_look_142  K4 Q x1 x2 x3 I R) : PX E B m_md_look.2.2.1 142 [some (.ref 121), some (.int x1), some (.int x2), some (.int x3), none] [] I R := by
  unfold j_md_look_142 at h
  refine PW.aload_n g rfl rfl d_md_look_142 ?_
  refine PW.iconst g (3) (by decide) d_md_look_143 ?_
  refine PW.aload_n g rfl rfl d_md_look_144 ?_
  refine PW.getR (q := 154) g fi_md_106 rfl (hL 121 12 49 rfl (by decide)) d_md_look_145 ?_
  refine PW.iload_n g rfl rfl d_md_look_148 ?_
  refine PW.iald g rfl h.1 d_md_look_149 ?_
  have h := h.2
  refine PX.cVv [.int (3 : Int32), .int (I 154 x2.toNatClampNeg)] [] g rfl ck_md (c_md_found d  hL h) cl_md_306 (by omega) (by decide) rfl rfl (Nat.le_of_ble_eq_true rfl) d_md_look_150 (fun I8 R8 hL h => ?_)
  refine PX.sub [some (.ref 121), some (.int x1), some (.int x2), some (.int x3), none] ⟨rfl, ⟨rfl, ⟨rfl, ⟨rfl, trivial⟩⟩⟩⟩ ?_
  refine J_md_look_153 d g hF (fun y11 y12 I9 R9 hL h => ?_) hL h
  refine PX.sub [some (.ref 121), some (.int y11), some (.int y12), none, none] ⟨rfl, ⟨rfl, ⟨rfl, trivial⟩⟩⟩ ?_
  exact hK4 _ _ _ _ hL h
def j_md_look_118 (K4 : Int32 → Int32 → pI → pR → Prop) (Q : pI → pR → Prop) (x1 : Int32) (x2 : Int32) (x3 : Int32) (I : pI) (R : pR) : Prop := (vp_in x2 170 ∧ ((¬ (I 153 x2.toNatClampNeg) = (3 : Int32) → (j_md_look_153 (fun y7 y8 I5 R5 => K4 y7 y8 I5 R5) Q x1 x2 x3 I R)) ∧ ((I 153 x2.toNatClampNeg) = (3 : Int32) → (vp_in x2 170 ∧ (w_md_isData x3 (I 156 x2.toNatClampNeg) I R (fun v2 I6 R6 => ((v2 = 0 → (j_md_look_153 (fun y9 y10 I7 R7 => K4 y9 y10 I7 R7) Q x1 x2 x3 I6 R6)) ∧ (¬ v2 = 0 → (j_md_look_142 (fun y13 y14 I10 R10 => K4 y13 y14 I10 R10) Q x1 x2 x3 I6 R6)))))))))
set_option maxHeartbeats 4000000 in
set_option maxRecDepth 100000 in
theorem J_md_look_118 (d : Nat) {K4 : Int32 → Int32 → pI → pR → Prop} {Q : pI → pR → Prop} {x1 : Int32} {x2 : Int32} {x3 : Int32} {E : pE} {B : pB} (g : pw_G m_md_look (d + 2) 0 0 E B) (hF : pX (qv Q) E B) (hK4 : ∀ (y1 : Int32) (y2 : Int32) (I : pI) (R : pR), pw_Lay R → K4 y1 y2 I R → PX E B m_md_look.2.2.1 4 [some (.ref 121), some (.int y1), some (.int y2), none, none] [] I R) {I : pI} {R : pR} (hL : pw_Lay R) (h : j_md_look_118  K4 Q x1 x2 x3 I R) : PX E B m_md_look.2.2.1 118 [some (.ref 121), some (.int x1), some (.int x2), some (.int x3), none] [] I R := by
  unfold j_md_look_118 at h
  refine PW.aload_n g rfl rfl d_md_look_118 ?_
  refine PW.getR (q := 153) g fi_md_103 rfl (hL 121 12 48 rfl (by decide)) d_md_look_119 ?_
  refine PW.iload_n g rfl rfl d_md_look_122 ?_
  refine PW.iald g rfl h.1 d_md_look_123 ?_
  have h := h.2
  refine PW.iconst g (3) (by decide) d_md_look_124 ?_
  refine PW.icmp_ne g 153 (by decide) d_md_look_125 (fun c6 => ?_) (fun c6 => ?_)
  · have h := h.1 c6
    refine PX.sub [some (.ref 121), some (.int x1), some (.int x2), some (.int x3), none] ⟨rfl, ⟨rfl, ⟨rfl, ⟨rfl, trivial⟩⟩⟩⟩ ?_
    refine J_md_look_153 d g hF (fun y7 y8 I5 R5 hL h => ?_) hL h
    refine PX.sub [some (.ref 121), some (.int y7), some (.int y8), none, none] ⟨rfl, ⟨rfl, ⟨rfl, trivial⟩⟩⟩ ?_
    exact hK4 _ _ _ _ hL h
  · have h := h.2 c6
    refine PW.aload_n g rfl rfl d_md_look_128 ?_
    refine PW.iload_n g rfl rfl d_md_look_129 ?_
    refine PW.aload_n g rfl rfl d_md_look_130 ?_
    refine PW.getR (q := 156) g fi_md_112 rfl (hL 121 12 51 rfl (by decide)) d_md_look_131 ?_
    refine PW.iload_n g rfl rfl d_md_look_134 ?_
    refine PW.iald g rfl h.1 d_md_look_135 ?_
    have h := h.2
    refine PX.cVz [.int x3, .int (I 156 x2.toNatClampNeg)] [] g rfl ck_md (c_md_isData d  hL h) cl_md_344 (by omega) (by decide) rfl rfl (Nat.le_of_ble_eq_true rfl) d_md_look_136 (fun v2 I6 R6 hL hzv2 h => ?_)
    refine PW.if_eq g 153 (by decide) d_md_look_139 (fun c10 => ?_) (fun c10 => ?_)
    · have h := h.1 c10
      refine PX.sub [some (.ref 121), some (.int x1), some (.int x2), some (.int x3), none] ⟨rfl, ⟨rfl, ⟨rfl, ⟨rfl, trivial⟩⟩⟩⟩ ?_
      refine J_md_look_153 d g hF (fun y9 y10 I7 R7 hL h => ?_) hL h
      refine PX.sub [some (.ref 121), some (.int y9), some (.int y10), none, none] ⟨rfl, ⟨rfl, ⟨rfl, trivial⟩⟩⟩ ?_
      exact hK4 _ _ _ _ hL h
    · have h := h.2 c10
      refine PX.sub [some (.ref 121), some (.int x1), some (.int x2), some (.int x3), none] ⟨rfl, ⟨rfl, ⟨rfl, ⟨rfl, trivial⟩⟩⟩⟩ ?_
      refine J_md_look_142 d g hF (fun y13 y14 I10 R10 hL h => ?_) hL h
      refine PX.sub [some (.ref 121), some (.int y13), some (.int y14), none, none] ⟨rfl, ⟨rfl, ⟨rfl, trivial⟩⟩⟩ ?_
      exact hK4 _ _ _ _ hL h
def j_md_look_96 (K4 : Int32 → Int32 → pI → pR → Prop) (Q : pI → pR → Prop) (x1 : Int32) (x2 : Int32) (x3 : Int32) (I : pI) (R : pR) : Prop := (vp_in x2 170 ∧ ((¬ (I 153 x2.toNatClampNeg) = (2 : Int32) → (j_md_look_118 (fun y15 y16 I11 R11 => K4 y15 y16 I11 R11) Q x1 x2 x3 I R)) ∧ ((I 153 x2.toNatClampNeg) = (2 : Int32) → (w_md_isData x3 (I 121 54) I R (fun v4 I12 R12 => ((¬ v4 = 0 → (j_md_look_142 (fun y17 y18 I13 R13 => K4 y17 y18 I13 R13) Q x1 x2 x3 I12 R12)) ∧ (v4 = 0 → (j_md_look_118 (fun y19 y20 I14 R14 => K4 y19 y20 I14 R14) Q x1 x2 x3 I12 R12))))))))
set_option maxHeartbeats 4000000 in
set_option maxRecDepth 100000 in
theorem J_md_look_96 (d : Nat) {K4 : Int32 → Int32 → pI → pR → Prop} {Q : pI → pR → Prop} {x1 : Int32} {x2 : Int32} {x3 : Int32} {E : pE} {B : pB} (g : pw_G m_md_look (d + 2) 0 0 E B) (hF : pX (qv Q) E B) (hK4 : ∀ (y1 : Int32) (y2 : Int32) (I : pI) (R : pR), pw_Lay R → K4 y1 y2 I R → PX E B m_md_look.2.2.1 4 [some (.ref 121), some (.int y1), some (.int y2), none, none] [] I R) {I : pI} {R : pR} (hL : pw_Lay R) (h : j_md_look_96  K4 Q x1 x2 x3 I R) : PX E B m_md_look.2.2.1 96 [some (.ref 121), some (.int x1), some (.int x2), some (.int x3), none] [] I R := by
  unfold j_md_look_96 at h
  refine PW.aload_n g rfl rfl d_md_look_96 ?_
  refine PW.getR (q := 153) g fi_md_103 rfl (hL 121 12 48 rfl (by decide)) d_md_look_97 ?_
  refine PW.iload_n g rfl rfl d_md_look_100 ?_
  refine PW.iald g rfl h.1 d_md_look_101 ?_
  have h := h.2
  refine PW.iconst g (2) (by decide) d_md_look_102 ?_
  refine PW.icmp_ne g 118 (by decide) d_md_look_103 (fun c5 => ?_) (fun c5 => ?_)
  · have h := h.1 c5
    refine PX.sub [some (.ref 121), some (.int x1), some (.int x2), some (.int x3), none] ⟨rfl, ⟨rfl, ⟨rfl, ⟨rfl, trivial⟩⟩⟩⟩ ?_
    refine J_md_look_118 d g hF (fun y15 y16 I11 R11 hL h => ?_) hL h
    refine PX.sub [some (.ref 121), some (.int y15), some (.int y16), none, none] ⟨rfl, ⟨rfl, ⟨rfl, trivial⟩⟩⟩ ?_
    exact hK4 _ _ _ _ hL h
  · have h := h.2 c5
    refine PW.aload_n g rfl rfl d_md_look_106 ?_
    refine PW.iload_n g rfl rfl d_md_look_107 ?_
    refine PW.aload_n g rfl rfl d_md_look_108 ?_
    refine PW.getI g fi_md_328 rfl d_md_look_109 ?_
    refine PX.cVz [.int x3, .int (I 121 54)] [] g rfl ck_md (c_md_isData d  hL h) cl_md_344 (by omega) (by decide) rfl rfl (Nat.le_of_ble_eq_true rfl) d_md_look_112 (fun v4 I12 R12 hL hzv4 h => ?_)
    refine PW.if_ne g 142 (by decide) d_md_look_115 (fun c11 => ?_) (fun c11 => ?_)
    · have h := h.1 c11
      refine PX.sub [some (.ref 121), some (.int x1), some (.int x2), some (.int x3), none] ⟨rfl, ⟨rfl, ⟨rfl, ⟨rfl, trivial⟩⟩⟩⟩ ?_
      refine J_md_look_142 d g hF (fun y17 y18 I13 R13 hL h => ?_) hL h
      refine PX.sub [some (.ref 121), some (.int y17), some (.int y18), none, none] ⟨rfl, ⟨rfl, ⟨rfl, trivial⟩⟩⟩ ?_
      exact hK4 _ _ _ _ hL h
    · have h := h.2 c11
      refine PX.sub [some (.ref 121), some (.int x1), some (.int x2), some (.int x3), none] ⟨rfl, ⟨rfl, ⟨rfl, ⟨rfl, trivial⟩⟩⟩⟩ ?_
      refine J_md_look_118 d g hF (fun y19 y20 I14 R14 hL h => ?_) hL h
      refine PX.sub [some (.ref 121), some (.int y19), some (.int y20), none, none] ⟨rfl, ⟨rfl, ⟨rfl, trivial⟩⟩⟩ ?_
      exact hK4 _ _ _ _ hL h
def j_md_look_85 (K4 : Int32 → Int32 → pI → pR → Prop) (Q : pI → pR → Prop) (x1 : Int32) (x2 : Int32) (x3 : Int32) (I : pI) (R : pR) : Prop := (vp_in x2 170 ∧ (w_md_found (2 : Int32) (I 154 x2.toNatClampNeg) I R (fun I18 R18 => (j_md_look_96 (fun y25 y26 I19 R19 => K4 y25 y26 I19 R19) Q x1 x2 x3 I18 R18))))
set_option maxHeartbeats 4000000 in
set_option maxRecDepth 100000 in
theorem J_md_look_85 (d : Nat) {K4 : Int32 → Int32 → pI → pR → Prop} {Q : pI → pR → Prop} {x1 : Int32} {x2 : Int32} {x3 : Int32} {E : pE} {B : pB} (g : pw_G m_md_look (d + 2) 0 0 E B) (hF : pX (qv Q) E B) (hK4 : ∀ (y1 : Int32) (y2 : Int32) (I : pI) (R : pR), pw_Lay R → K4 y1 y2 I R → PX E B m_md_look.2.2.1 4 [some (.ref 121), some (.int y1), some (.int y2), none, none] [] I R) {I : pI} {R : pR} (hL : pw_Lay R) (h : j_md_look_85  K4 Q x1 x2 x3 I R) : PX E B m_md_look.2.2.1 85 [some (.ref 121), some (.int x1), some (.int x2), some (.int x3), none] [] I R := by
  unfold j_md_look_85 at h
  refine PW.aload_n g rfl rfl d_md_look_85 ?_
  refine PW.iconst g (2) (by decide) d_md_look_86 ?_
  refine PW.aload_n g rfl rfl d_md_look_87 ?_
  refine PW.getR (q := 154) g fi_md_106 rfl (hL 121 12 49 rfl (by decide)) d_md_look_88 ?_
  refine PW.iload_n g rfl rfl d_md_look_91 ?_
  refine PW.iald g rfl h.1 d_md_look_92 ?_
  have h := h.2
  refine PX.cVv [.int (2 : Int32), .int (I 154 x2.toNatClampNeg)] [] g rfl ck_md (c_md_found d  hL h) cl_md_306 (by omega) (by decide) rfl rfl (Nat.le_of_ble_eq_true rfl) d_md_look_93 (fun I18 R18 hL h => ?_)
  refine PX.sub [some (.ref 121), some (.int x1), some (.int x2), some (.int x3), none] ⟨rfl, ⟨rfl, ⟨rfl, ⟨rfl, trivial⟩⟩⟩⟩ ?_
  refine J_md_look_96 d g hF (fun y25 y26 I19 R19 hL h => ?_) hL h
  refine PX.sub [some (.ref 121), some (.int y25), some (.int y26), none, none] ⟨rfl, ⟨rfl, ⟨rfl, trivial⟩⟩⟩ ?_
  exact hK4 _ _ _ _ hL h
def j_md_look_61 (K4 : Int32 → Int32 → pI → pR → Prop) (Q : pI → pR → Prop) (x1 : Int32) (x2 : Int32) (x3 : Int32) (I : pI) (R : pR) : Prop := (vp_in x2 170 ∧ ((¬ (I 153 x2.toNatClampNeg) = (1 : Int32) → (j_md_look_96 (fun y21 y22 I15 R15 => K4 y21 y22 I15 R15) Q x1 x2 x3 I R)) ∧ ((I 153 x2.toNatClampNeg) = (1 : Int32) → (vp_in x2 170 ∧ (w_md_isData x3 (I 156 x2.toNatClampNeg) I R (fun v5 I16 R16 => ((¬ v5 = 0 → (j_md_look_96 (fun y23 y24 I17 R17 => K4 y23 y24 I17 R17) Q x1 x2 x3 I16 R16)) ∧ (v5 = 0 → (j_md_look_85 (fun y27 y28 I20 R20 => K4 y27 y28 I20 R20) Q x1 x2 x3 I16 R16)))))))))
set_option maxHeartbeats 4000000 in
set_option maxRecDepth 100000 in
theorem J_md_look_61 (d : Nat) {K4 : Int32 → Int32 → pI → pR → Prop} {Q : pI → pR → Prop} {x1 : Int32} {x2 : Int32} {x3 : Int32} {E : pE} {B : pB} (g : pw_G m_md_look (d + 2) 0 0 E B) (hF : pX (qv Q) E B) (hK4 : ∀ (y1 : Int32) (y2 : Int32) (I : pI) (R : pR), pw_Lay R → K4 y1 y2 I R → PX E B m_md_look.2.2.1 4 [some (.ref 121), some (.int y1), some (.int y2), none, none] [] I R) {I : pI} {R : pR} (hL : pw_Lay R) (h : j_md_look_61  K4 Q x1 x2 x3 I R) : PX E B m_md_look.2.2.1 61 [some (.ref 121), some (.int x1), some (.int x2), some (.int x3), none] [] I R := by
  unfold j_md_look_61 at h
  refine PW.aload_n g rfl rfl d_md_look_61 ?_
  refine PW.getR (q := 153) g fi_md_103 rfl (hL 121 12 48 rfl (by decide)) d_md_look_62 ?_
  refine PW.iload_n g rfl rfl d_md_look_65 ?_
  refine PW.iald g rfl h.1 d_md_look_66 ?_
  have h := h.2
  refine PW.iconst g (1) (by decide) d_md_look_67 ?_
  refine PW.icmp_ne g 96 (by decide) d_md_look_68 (fun c4 => ?_) (fun c4 => ?_)
  · have h := h.1 c4
    refine PX.sub [some (.ref 121), some (.int x1), some (.int x2), some (.int x3), none] ⟨rfl, ⟨rfl, ⟨rfl, ⟨rfl, trivial⟩⟩⟩⟩ ?_
    refine J_md_look_96 d g hF (fun y21 y22 I15 R15 hL h => ?_) hL h
    refine PX.sub [some (.ref 121), some (.int y21), some (.int y22), none, none] ⟨rfl, ⟨rfl, ⟨rfl, trivial⟩⟩⟩ ?_
    exact hK4 _ _ _ _ hL h
  · have h := h.2 c4
    refine PW.aload_n g rfl rfl d_md_look_71 ?_
    refine PW.iload_n g rfl rfl d_md_look_72 ?_
    refine PW.aload_n g rfl rfl d_md_look_73 ?_
    refine PW.getR (q := 156) g fi_md_112 rfl (hL 121 12 51 rfl (by decide)) d_md_look_74 ?_
    refine PW.iload_n g rfl rfl d_md_look_77 ?_
    refine PW.iald g rfl h.1 d_md_look_78 ?_
    have h := h.2
    refine PX.cVz [.int x3, .int (I 156 x2.toNatClampNeg)] [] g rfl ck_md (c_md_isData d  hL h) cl_md_344 (by omega) (by decide) rfl rfl (Nat.le_of_ble_eq_true rfl) d_md_look_79 (fun v5 I16 R16 hL hzv5 h => ?_)
    refine PW.if_ne g 96 (by decide) d_md_look_82 (fun c12 => ?_) (fun c12 => ?_)
    · have h := h.1 c12
      refine PX.sub [some (.ref 121), some (.int x1), some (.int x2), some (.int x3), none] ⟨rfl, ⟨rfl, ⟨rfl, ⟨rfl, trivial⟩⟩⟩⟩ ?_
      refine J_md_look_96 d g hF (fun y23 y24 I17 R17 hL h => ?_) hL h
      refine PX.sub [some (.ref 121), some (.int y23), some (.int y24), none, none] ⟨rfl, ⟨rfl, ⟨rfl, trivial⟩⟩⟩ ?_
      exact hK4 _ _ _ _ hL h
    · have h := h.2 c12
      refine PX.sub [some (.ref 121), some (.int x1), some (.int x2), some (.int x3), none] ⟨rfl, ⟨rfl, ⟨rfl, ⟨rfl, trivial⟩⟩⟩⟩ ?_
      refine J_md_look_85 d g hF (fun y27 y28 I20 R20 hL h => ?_) hL h
      refine PX.sub [some (.ref 121), some (.int y27), some (.int y28), none, none] ⟨rfl, ⟨rfl, ⟨rfl, trivial⟩⟩⟩ ?_
      exact hK4 _ _ _ _ hL h
def j_md_look_45 (K4 : Int32 → Int32 → pI → pR → Prop) (Q : pI → pR → Prop) (x1 : Int32) (x2 : Int32) (x3 : Int32) (s0 : Int32) (I : pI) (R : pR) : Prop := (vp_in x2 170 ∧ ((¬ (I 153 x2.toNatClampNeg) = 0 → (j_md_look_61 (fun y29 y30 I21 R21 => K4 y29 y30 I21 R21) Q x1 x2 x3 I R)) ∧ ((I 153 x2.toNatClampNeg) = 0 → ((s0 = 0 → (j_md_look_85 (fun y31 y32 I22 R22 => K4 y31 y32 I22 R22) Q x1 x2 x3 I R)) ∧ (¬ s0 = 0 → (j_md_look_61 (fun y33 y34 I23 R23 => K4 y33 y34 I23 R23) Q x1 x2 x3 I R))))))
set_option maxHeartbeats 4000000 in
set_option maxRecDepth 100000 in
theorem J_md_look_45 (d : Nat) {K4 : Int32 → Int32 → pI → pR → Prop} {Q : pI → pR → Prop} {x1 : Int32} {x2 : Int32} {x3 : Int32} {s0 : Int32} {E : pE} {B : pB} (g : pw_G m_md_look (d + 2) 0 0 E B) (hF : pX (qv Q) E B) (hK4 : ∀ (y1 : Int32) (y2 : Int32) (I : pI) (R : pR), pw_Lay R → K4 y1 y2 I R → PX E B m_md_look.2.2.1 4 [some (.ref 121), some (.int y1), some (.int y2), none, none] [] I R) {I : pI} {R : pR} (hL : pw_Lay R) (h : j_md_look_45  K4 Q x1 x2 x3 s0 I R) : PX E B m_md_look.2.2.1 45 [some (.ref 121), some (.int x1), some (.int x2), some (.int x3), none] [.int s0] I R := by
  unfold j_md_look_45 at h
  refine PW.istore g (L' := [some (.ref 121), some (.int x1), some (.int x2), some (.int x3), some (.int s0)]) (by decide) rfl rfl d_md_look_45 ?_
  refine PW.aload_n g rfl rfl d_md_look_47 ?_
  refine PW.getR (q := 153) g fi_md_103 rfl (hL 121 12 48 rfl (by decide)) d_md_look_48 ?_
  refine PW.iload_n g rfl rfl d_md_look_51 ?_
  refine PW.iald g rfl h.1 d_md_look_52 ?_
  have h := h.2
  refine PW.if_ne g 61 (by decide) d_md_look_53 (fun c3 => ?_) (fun c3 => ?_)
  · have h := h.1 c3
    refine PX.sub [some (.ref 121), some (.int x1), some (.int x2), some (.int x3), none] ⟨rfl, ⟨rfl, ⟨rfl, ⟨rfl, trivial⟩⟩⟩⟩ ?_
    refine J_md_look_61 d g hF (fun y29 y30 I21 R21 hL h => ?_) hL h
    refine PX.sub [some (.ref 121), some (.int y29), some (.int y30), none, none] ⟨rfl, ⟨rfl, ⟨rfl, trivial⟩⟩⟩ ?_
    exact hK4 _ _ _ _ hL h
  · have h := h.2 c3
    refine PW.iload g rfl d_md_look_56 ?_
    refine PW.if_eq g 85 (by decide) d_md_look_58 (fun c13 => ?_) (fun c13 => ?_)
    · have h := h.1 c13
      refine PX.sub [some (.ref 121), some (.int x1), some (.int x2), some (.int x3), none] ⟨rfl, ⟨rfl, ⟨rfl, ⟨rfl, trivial⟩⟩⟩⟩ ?_
      refine J_md_look_85 d g hF (fun y31 y32 I22 R22 hL h => ?_) hL h
      refine PX.sub [some (.ref 121), some (.int y31), some (.int y32), none, none] ⟨rfl, ⟨rfl, ⟨rfl, trivial⟩⟩⟩ ?_
      exact hK4 _ _ _ _ hL h
    · have h := h.2 c13
      refine PX.sub [some (.ref 121), some (.int x1), some (.int x2), some (.int x3), none] ⟨rfl, ⟨rfl, ⟨rfl, ⟨rfl, trivial⟩⟩⟩⟩ ?_
      refine J_md_look_61 d g hF (fun y33 y34 I23 R23 hL h => ?_) hL h
      refine PX.sub [some (.ref 121), some (.int y33), some (.int y34), none, none] ⟨rfl, ⟨rfl, ⟨rfl, trivial⟩⟩⟩ ?_
      exact hK4 _ _ _ _ hL h
def j_md_look_40 (K4 : Int32 → Int32 → pI → pR → Prop) (Q : pI → pR → Prop) (x1 : Int32) (x2 : Int32) (x3 : Int32) (I : pI) (R : pR) : Prop := (j_md_look_45 (fun y35 y36 I24 R24 => K4 y35 y36 I24 R24) Q x1 x2 x3 (1 : Int32) I R)
set_option maxHeartbeats 4000000 in
set_option maxRecDepth 100000 in
theorem J_md_look_40 (d : Nat) {K4 : Int32 → Int32 → pI → pR → Prop} {Q : pI → pR → Prop} {x1 : Int32} {x2 : Int32} {x3 : Int32} {E : pE} {B : pB} (g : pw_G m_md_look (d + 2) 0 0 E B) (hF : pX (qv Q) E B) (hK4 : ∀ (y1 : Int32) (y2 : Int32) (I : pI) (R : pR), pw_Lay R → K4 y1 y2 I R → PX E B m_md_look.2.2.1 4 [some (.ref 121), some (.int y1), some (.int y2), none, none] [] I R) {I : pI} {R : pR} (hL : pw_Lay R) (h : j_md_look_40  K4 Q x1 x2 x3 I R) : PX E B m_md_look.2.2.1 40 [some (.ref 121), some (.int x1), some (.int x2), some (.int x3), none] [] I R := by
  unfold j_md_look_40 at h
  refine PW.iconst g (1) (by decide) d_md_look_40 ?_
  refine PW.goto g 45 (by decide) d_md_look_41 ?_
  refine PX.sub [some (.ref 121), some (.int x1), some (.int x2), some (.int x3), none] ⟨rfl, ⟨rfl, ⟨rfl, ⟨rfl, trivial⟩⟩⟩⟩ ?_
  refine J_md_look_45 d g hF (fun y35 y36 I24 R24 hL h => ?_) hL h
  refine PX.sub [some (.ref 121), some (.int y35), some (.int y36), none, none] ⟨rfl, ⟨rfl, ⟨rfl, trivial⟩⟩⟩ ?_
  exact hK4 _ _ _ _ hL h
def l_md_look_4 (K : pI → pR → Prop) (Q : pI → pR → Prop) : Nat → Int32 → Int32 → pI → pR → Prop
  | 0, _, _, _, _ => False
  | n + 1, x1, x2, I, R => (((I 121 47) ≤ x2 → K I R) ∧ (¬ (I 121 47) ≤ x2 → (vp_in x2 170 ∧ ((((x1 >>> ((I 155 x2.toNatClampNeg) &&& 31)) &&& (1 : Int32)) = (1 : Int32) → (j_md_look_40 (fun y37 y38 I25 R25 => l_md_look_4 K Q n y37 y38 I25 R25) Q x1 x2 (I 155 x2.toNatClampNeg) I R)) ∧ (¬ ((x1 >>> ((I 155 x2.toNatClampNeg) &&& 31)) &&& (1 : Int32)) = (1 : Int32) → (w_md_isData (I 155 x2.toNatClampNeg) (I 121 54) I R (fun v7 I26 R26 => ((v7 = 0 → (j_md_look_45 (fun y39 y40 I27 R27 => l_md_look_4 K Q n y39 y40 I27 R27) Q x1 x2 (I 155 x2.toNatClampNeg) (0 : Int32) I26 R26)) ∧ (¬ v7 = 0 → (j_md_look_40 (fun y41 y42 I28 R28 => l_md_look_4 K Q n y41 y42 I28 R28) Q x1 x2 (I 155 x2.toNatClampNeg) I26 R26))))))))))
set_option maxHeartbeats 4000000 in
set_option maxRecDepth 100000 in
theorem L_md_look_4 (d : Nat) {K : pI → pR → Prop} {Q : pI → pR → Prop} {E : pE} {B : pB} (g : pw_G m_md_look (d + 2) 0 0 E B) (hF : pX (qv Q) E B) (hK : ∀ (I : pI) (R : pR), pw_Lay R → K  I R → PX E B m_md_look.2.2.1 210 [none, none, none, none, none] [] I R) : ∀ (n : Nat) (x1 : Int32) (x2 : Int32) (I : pI) (R : pR), pw_Lay R → l_md_look_4  K Q n x1 x2 I R → PX E B m_md_look.2.2.1 4 [some (.ref 121), some (.int x1), some (.int x2), none, none] [] I R := by
  intro n
  induction n with
  | zero => intro x1 x2 I R hL h; exact False.elim h
  | succ n ih =>
    intro x1 x2 I R hL h
    refine PW.iload_n g rfl rfl d_md_look_4 ?_
    refine PW.aload_n g rfl rfl d_md_look_5 ?_
    refine PW.getI g fi_md_269 rfl d_md_look_6 ?_
    refine PW.icmp_ge g 210 (by decide) d_md_look_9 (fun c1 => ?_) (fun c1 => ?_)
    · have h := h.1 c1
      refine PX.sub [none, none, none, none, none] trivial ?_
      exact hK _ _ hL h
    · have h := h.2 c1
      refine PW.aload_n g rfl rfl d_md_look_12 ?_
      refine PW.getR (q := 155) g fi_md_109 rfl (hL 121 12 50 rfl (by decide)) d_md_look_13 ?_
      refine PW.iload_n g rfl rfl d_md_look_16 ?_
      refine PW.iald g rfl h.1 d_md_look_17 ?_
      have h := h.2
      refine PW.istore_n g rfl (L' := [some (.ref 121), some (.int x1), some (.int x2), some (.int (I 155 x2.toNatClampNeg)), none]) (by decide) rfl rfl d_md_look_18 ?_
      refine PW.iload_n g rfl rfl d_md_look_19 ?_
      refine PW.iload_n g rfl rfl d_md_look_20 ?_
      refine PW.ishr g d_md_look_21 ?_
      refine PW.iconst g (1) (by decide) d_md_look_22 ?_
      refine PW.iand g d_md_look_23 ?_
      refine PW.iconst g (1) (by decide) d_md_look_24 ?_
      refine PW.icmp_eq g 40 (by decide) d_md_look_25 (fun c2 => ?_) (fun c2 => ?_)
      · have h := h.1 c2
        refine PX.sub [some (.ref 121), some (.int x1), some (.int x2), some (.int (I 155 x2.toNatClampNeg)), none] ⟨rfl, ⟨rfl, ⟨rfl, ⟨rfl, trivial⟩⟩⟩⟩ ?_
        refine J_md_look_40 d g hF (fun y37 y38 I25 R25 hL h => ?_) hL h
        refine PX.sub [some (.ref 121), some (.int y37), some (.int y38), none, none] ⟨rfl, ⟨rfl, ⟨rfl, trivial⟩⟩⟩ ?_
        exact ih _ _ _ _ hL h
      · have h := h.2 c2
        refine PW.aload_n g rfl rfl d_md_look_28 ?_
        refine PW.iload_n g rfl rfl d_md_look_29 ?_
        refine PW.aload_n g rfl rfl d_md_look_30 ?_
        refine PW.getI g fi_md_328 rfl d_md_look_31 ?_
        refine PX.cVz [.int (I 155 x2.toNatClampNeg), .int (I 121 54)] [] g rfl ck_md (c_md_isData d  hL h) cl_md_344 (by omega) (by decide) rfl rfl (Nat.le_of_ble_eq_true rfl) d_md_look_34 (fun v7 I26 R26 hL hzv7 h => ?_)
        refine PW.if_eq g 44 (by decide) d_md_look_37 (fun c14 => ?_) (fun c14 => ?_)
        · have h := h.1 c14
          refine PW.iconst g (0) (by decide) d_md_look_44 ?_
          refine PX.sub [some (.ref 121), some (.int x1), some (.int x2), some (.int (I 155 x2.toNatClampNeg)), none] ⟨rfl, ⟨rfl, ⟨rfl, ⟨rfl, trivial⟩⟩⟩⟩ ?_
          refine J_md_look_45 d g hF (fun y39 y40 I27 R27 hL h => ?_) hL h
          refine PX.sub [some (.ref 121), some (.int y39), some (.int y40), none, none] ⟨rfl, ⟨rfl, ⟨rfl, trivial⟩⟩⟩ ?_
          exact ih _ _ _ _ hL h
        · have h := h.2 c14
          refine PX.sub [some (.ref 121), some (.int x1), some (.int x2), some (.int (I 155 x2.toNatClampNeg)), none] ⟨rfl, ⟨rfl, ⟨rfl, ⟨rfl, trivial⟩⟩⟩⟩ ?_
          refine J_md_look_40 d g hF (fun y41 y42 I28 R28 hL h => ?_) hL h
          refine PX.sub [some (.ref 121), some (.int y41), some (.int y42), none, none] ⟨rfl, ⟨rfl, ⟨rfl, trivial⟩⟩⟩ ?_
          exact ih _ _ _ _ hL h
def w_md_look (I : pI) (R : pR) (Q : pI → pR → Prop) : Prop := (∃ n1, l_md_look_4 (fun I29 R29 => Q I29 R29) Q n1 (0 : Int32) (0 : Int32) I R)
set_option maxHeartbeats 4000000 in
set_option maxRecDepth 100000 in
theorem c_md_look (d : Nat) {I : pI} {R : pR} {Q : pI → pR → Prop} (hL : pw_Lay R) (h : w_md_look  I R Q) : Cm (d + 2) m_md_look [.ref 121] I R (qv Q) := by
  refine Cm.of [some (.ref 121), none, none, none, none] (by decide) rfl (Nat.le_of_ble_eq_true rfl) (by simp) (fun E B g hF => ?_)
  unfold w_md_look at h
  refine PW.iconst g (0) (by decide) d_md_look_0 ?_
  refine PW.istore_n g rfl (L' := [some (.ref 121), some (.int (0 : Int32)), none, none, none]) (by decide) rfl rfl d_md_look_1 ?_
  refine PW.iconst g (0) (by decide) d_md_look_2 ?_
  refine PW.istore_n g rfl (L' := [some (.ref 121), some (.int (0 : Int32)), some (.int (0 : Int32)), none, none]) (by decide) rfl rfl d_md_look_3 ?_
  refine PX.sub [some (.ref 121), some (.int (0 : Int32)), some (.int (0 : Int32)), none, none] ⟨rfl, ⟨rfl, ⟨rfl, trivial⟩⟩⟩ ?_
  obtain ⟨n1, h⟩ := h
  refine L_md_look_4 d g hF (fun I29 R29 hL h => ?_) n1 (0 : Int32) (0 : Int32) I R hL h
  exact PX.vret g hF rfl d_md_look_210 hL h
