def w_ev_release (I : pI) (R : pR) (Q : pI → pR → Prop) : Prop := (∀ I1, I1 = pw_wI I 115 8 (0 : Int32) → (∀ I2, I2 = pw_wI I1 115 9 (0 : Int32) → Q I2 R))
set_option maxHeartbeats 4000000 in
set_option maxRecDepth 100000 in
theorem c_ev_release (d : Nat) {I : pI} {R : pR} {Q : pI → pR → Prop} (hL : pw_Lay R) (h : w_ev_release  I R Q) : Cm (d + 1) m_ev_release [.ref 115] I R (qv Q) := by
  refine Cm.of [some (.ref 115)] (by decide) rfl (Nat.le_of_ble_eq_true rfl) (by simp) (fun E B g hF => ?_)
  unfold w_ev_release at h
  refine PW.aload_n g rfl rfl d_ev_release_0 ?_
  refine PW.iconst g (0) (by decide) d_ev_release_1 ?_
  refine PW.putI g fi_ev_38 rfl rfl rfl d_ev_release_2 ?_
  refine PX.gI (fun I1 eI1 => ?_)
  have h := h _ eI1
  refine PW.aload_n g rfl rfl d_ev_release_5 ?_
  refine PW.iconst g (0) (by decide) d_ev_release_6 ?_
  refine PW.putI g fi_ev_42 rfl rfl rfl d_ev_release_7 ?_
  refine PX.gI (fun I2 eI2 => ?_)
  have h := h _ eI2
  exact PX.vret g hF rfl d_ev_release_10 hL h
def w_ev_begin (a1 : Nat) (a2 : Nat) (I : pI) (R : pR) (Q : pI → pR → Prop) : Prop := (∀ R1, R1 = pw_wR R 115 5 (some a1) → (∀ R2, R2 = pw_wR R1 115 6 (some a2) → (w_ev_release  I R2 (fun I1 R3 => Q I1 R3))))
set_option maxHeartbeats 4000000 in
set_option maxRecDepth 100000 in
theorem c_ev_begin (d : Nat) {a1 : Nat} {a2 : Nat} (ha1 : pSH[a1]? = some (0, 5)) (ha2 : pSH[a2]? = some (0, 6)) {I : pI} {R : pR} {Q : pI → pR → Prop} (hL : pw_Lay R) (h : w_ev_begin a1 a2 I R Q) : Cm (d + 2) m_ev_begin [.ref 115, .ref a1, .ref a2] I R (qv Q) := by
  refine Cm.of [some (.ref 115), some (.ref a1), some (.ref a2)] (by decide) rfl (Nat.le_of_ble_eq_true rfl) (by simp) (fun E B g hF => ?_)
  unfold w_ev_begin at h
  refine PW.aload_n g rfl rfl d_ev_begin_0 ?_
  refine PW.aload_n g rfl rfl d_ev_begin_1 ?_
  refine PW.putR g fi_ev_27 rfl rfl rfl d_ev_begin_2 ?_
  have hL := pw_Lay.put (k := 5) (q := some a1) hL (t := 115) (ci := 4) rfl (by decide)
  refine PX.gR (fun R1 eR1 => ?_)
  have h := h _ eR1
  rw [← eR1] at hL
  refine PW.aload_n g rfl rfl d_ev_begin_5 ?_
  refine PW.aload_n g rfl rfl d_ev_begin_6 ?_
  refine PW.putR g fi_ev_31 rfl rfl rfl d_ev_begin_7 ?_
  have hL := pw_Lay.put (k := 6) (q := some a2) hL (t := 115) (ci := 4) rfl (by decide)
  refine PX.gR (fun R2 eR2 => ?_)
  have h := h _ eR2
  rw [← eR2] at hL
  refine PW.aload_n g rfl rfl d_ev_begin_10 ?_
  refine PX.cVv [] [] g rfl ck_ev (c_ev_release d  hL h) cl_ev_35 (by omega) (by decide) rfl rfl (Nat.le_of_ble_eq_true rfl) d_ev_begin_11 (fun I1 R3 hL h => ?_)
  exact PX.vret g hF rfl d_ev_begin_14 hL h
def w_ev_push (a1 : Int32) (I : pI) (R : pR) (Q : pI → pR → Prop) : Prop := (((I 115 7) < 0 → Q I R) ∧ (¬ (I 115 7) < 0 → (((120 : Int32) ≤ (I 115 7) → Q I R) ∧ (¬ (120 : Int32) ≤ (I 115 7) → (vp_in (I 115 7) 120 ∧ ∀ I1, I1 = pw_wI I 116 (I 115 7).toNatClampNeg a1 → (∀ I2, I2 = pw_wI I1 115 7 ((I1 115 7) + (1 : Int32)) → Q I2 R))))))
set_option maxHeartbeats 4000000 in
set_option maxRecDepth 100000 in
theorem c_ev_push (d : Nat) {a1 : Int32} {I : pI} {R : pR} {Q : pI → pR → Prop} (hL : pw_Lay R) (h : w_ev_push a1 I R Q) : Cm (d + 1) m_ev_push [.ref 115, .int a1] I R (qv Q) := by
  refine Cm.of [some (.ref 115), some (.int a1)] (by decide) rfl (Nat.le_of_ble_eq_true rfl) (by simp) (fun E B g hF => ?_)
  unfold w_ev_push at h
  refine PW.aload_n g rfl rfl d_ev_push_0 ?_
  refine PW.getI g fi_ev_45 rfl d_ev_push_1 ?_
  refine PW.if_lt g 36 (by decide) d_ev_push_4 (fun c1 => ?_) (fun c1 => ?_)
  · have h := h.1 c1
    exact PX.vret g hF rfl d_ev_push_36 hL h
  · have h := h.2 c1
    refine PW.aload_n g rfl rfl d_ev_push_7 ?_
    refine PW.getI g fi_ev_45 rfl d_ev_push_8 ?_
    refine PW.bipush g (120) (by decide) d_ev_push_11 ?_
    refine PW.icmp_ge g 36 (by decide) d_ev_push_13 (fun c2 => ?_) (fun c2 => ?_)
    · have h := h.1 c2
      exact PX.vret g hF rfl d_ev_push_36 hL h
    · have h := h.2 c2
      refine PW.aload_n g rfl rfl d_ev_push_16 ?_
      refine PW.getR (q := 116) g fi_ev_9 rfl (hL 115 4 0 rfl (by decide)) d_ev_push_17 ?_
      refine PW.aload_n g rfl rfl d_ev_push_20 ?_
      refine PW.getI g fi_ev_45 rfl d_ev_push_21 ?_
      refine PW.iload_n g rfl rfl d_ev_push_24 ?_
      refine PW.iast g rfl h.1 d_ev_push_25 ?_
      refine PX.gI (fun I1 eI1 => ?_)
      have h := h.2 _ eI1
      refine PW.aload_n g rfl rfl d_ev_push_26 ?_
      refine PW.dup g rfl d_ev_push_27 ?_
      refine PW.getI g fi_ev_45 rfl d_ev_push_28 ?_
      refine PW.iconst g (1) (by decide) d_ev_push_31 ?_
      refine PW.iadd g d_ev_push_32 ?_
      refine PW.putI g fi_ev_45 rfl rfl rfl d_ev_push_33 ?_
      refine PX.gI (fun I2 eI2 => ?_)
      have h := h _ eI2
      exact PX.vret g hF rfl d_ev_push_36 hL h
def w_ev_note (a1 : Int32) (a2 : Int32) (I : pI) (R : pR) (Q : pI → pR → Prop) : Prop := (w_sr_put 117 120 a1 (1 : Int32) I R (fun I1 R1 => (w_sr_put 118 120 a1 a2 I1 R1 (fun I2 R2 => (w_ev_push a2 I2 R2 (fun I3 R3 => Q I3 R3))))))
set_option maxHeartbeats 4000000 in
set_option maxRecDepth 100000 in
theorem c_ev_note (d : Nat) {a1 : Int32} {a2 : Int32} {I : pI} {R : pR} {Q : pI → pR → Prop} (hL : pw_Lay R) (h : w_ev_note a1 a2 I R Q) : Cm (d + 2) m_ev_note [.ref 115, .int a1, .int a2] I R (qv Q) := by
  refine Cm.of [some (.ref 115), some (.int a1), some (.int a2)] (by decide) rfl (Nat.le_of_ble_eq_true rfl) (by simp) (fun E B g hF => ?_)
  unfold w_ev_note at h
  refine PW.aload_n g rfl rfl d_ev_note_0 ?_
  refine PW.getR (q := 117) g fi_ev_15 rfl (hL 115 4 1 rfl (by decide)) d_ev_note_1 ?_
  refine PW.iload_n g rfl rfl d_ev_note_4 ?_
  refine PW.iconst g (1) (by decide) d_ev_note_5 ?_
  refine PX.cSv [.ref 117, .int a1, .int (1 : Int32)] [] g (c_sr_put d rfl hL h) cl_ev_121 (by omega) (by decide) rfl rfl (Nat.le_of_ble_eq_true rfl) d_ev_note_6 (fun I1 R1 hL h => ?_)
  refine PW.aload_n g rfl rfl d_ev_note_9 ?_
  refine PW.getR (q := 118) g fi_ev_18 rfl (hL 115 4 2 rfl (by decide)) d_ev_note_10 ?_
  refine PW.iload_n g rfl rfl d_ev_note_13 ?_
  refine PW.iload_n g rfl rfl d_ev_note_14 ?_
  refine PX.cSv [.ref 118, .int a1, .int a2] [] g (c_sr_put d rfl hL h) cl_ev_121 (by omega) (by decide) rfl rfl (Nat.le_of_ble_eq_true rfl) d_ev_note_15 (fun I2 R2 hL h => ?_)
  refine PW.aload_n g rfl rfl d_ev_note_18 ?_
  refine PW.iload_n g rfl rfl d_ev_note_19 ?_
  refine PX.cVv [.int a2] [] g rfl ck_ev (c_ev_push d  hL h) cl_ev_83 (by omega) (by decide) rfl rfl (Nat.le_of_ble_eq_true rfl) d_ev_note_20 (fun I3 R3 hL h => ?_)
  exact PX.vret g hF rfl d_ev_note_23 hL h
def w_ev_pop (I : pI) (R : pR) (Q : Int32 → pI → pR → Prop) : Prop := (((I 115 7) ≤ 0 → Q (0 : Int32) I R) ∧ (¬ (I 115 7) ≤ 0 → (((I 115 7) ≤ (120 : Int32) → (∀ I1, I1 = pw_wI I 115 7 ((I 115 7) - (1 : Int32)) → (vp_in (I1 115 7) 120 ∧ Q (I1 116 (I1 115 7).toNatClampNeg) I1 R))) ∧ (¬ (I 115 7) ≤ (120 : Int32) → Q (0 : Int32) I R))))
set_option maxHeartbeats 4000000 in
set_option maxRecDepth 100000 in
theorem c_ev_pop (d : Nat) {I : pI} {R : pR} {Q : Int32 → pI → pR → Prop} (hL : pw_Lay R) (h : w_ev_pop  I R Q) : Cm (d + 1) m_ev_pop [.ref 115] I R (qi Q) := by
  refine Cm.of [some (.ref 115)] (by decide) rfl (Nat.le_of_ble_eq_true rfl) (by simp) (fun E B g hF => ?_)
  unfold w_ev_pop at h
  refine PW.aload_n g rfl rfl d_ev_pop_0 ?_
  refine PW.getI g fi_ev_45 rfl d_ev_pop_1 ?_
  refine PW.if_le g 16 (by decide) d_ev_pop_4 (fun c1 => ?_) (fun c1 => ?_)
  · have h := h.1 c1
    refine PW.iconst g (0) (by decide) d_ev_pop_16 ?_
    exact PX.iret g hF rfl d_ev_pop_17 hL h
  · have h := h.2 c1
    refine PW.aload_n g rfl rfl d_ev_pop_7 ?_
    refine PW.getI g fi_ev_45 rfl d_ev_pop_8 ?_
    refine PW.bipush g (120) (by decide) d_ev_pop_11 ?_
    refine PW.icmp_le g 18 (by decide) d_ev_pop_13 (fun c2 => ?_) (fun c2 => ?_)
    · have h := h.1 c2
      refine PW.aload_n g rfl rfl d_ev_pop_18 ?_
      refine PW.dup g rfl d_ev_pop_19 ?_
      refine PW.getI g fi_ev_45 rfl d_ev_pop_20 ?_
      refine PW.iconst g (1) (by decide) d_ev_pop_23 ?_
      refine PW.isub g d_ev_pop_24 ?_
      refine PW.putI g fi_ev_45 rfl rfl rfl d_ev_pop_25 ?_
      refine PX.gI (fun I1 eI1 => ?_)
      have h := h _ eI1
      refine PW.aload_n g rfl rfl d_ev_pop_28 ?_
      refine PW.getR (q := 116) g fi_ev_9 rfl (hL 115 4 0 rfl (by decide)) d_ev_pop_29 ?_
      refine PW.aload_n g rfl rfl d_ev_pop_32 ?_
      refine PW.getI g fi_ev_45 rfl d_ev_pop_33 ?_
      refine PW.iald g rfl h.1 d_ev_pop_36 ?_
      have h := h.2
      exact PX.iret g hF rfl d_ev_pop_37 hL h
    · have h := h.2 c2
      refine PW.iconst g (0) (by decide) d_ev_pop_16 ?_
      exact PX.iret g hF rfl d_ev_pop_17 hL h
def w_ev_stop (a1 : Int32) (a2 : Int32) (I : pI) (R : pR) (Q : pI → pR → Prop) : Prop := (∀ I1, I1 = pw_wI I 115 11 a1 → (∀ I2, I2 = pw_wI I1 115 12 a2 → Q I2 R))
set_option maxHeartbeats 4000000 in
set_option maxRecDepth 100000 in
theorem c_ev_stop (d : Nat) {a1 : Int32} {a2 : Int32} {I : pI} {R : pR} {Q : pI → pR → Prop} (hL : pw_Lay R) (h : w_ev_stop a1 a2 I R Q) : Cm (d + 1) m_ev_stop [.ref 115, .int a1, .int a2] I R (qv Q) := by
  refine Cm.of [some (.ref 115), some (.int a1), some (.int a2)] (by decide) rfl (Nat.le_of_ble_eq_true rfl) (by simp) (fun E B g hF => ?_)
  unfold w_ev_stop at h
  refine PW.aload_n g rfl rfl d_ev_stop_0 ?_
  refine PW.iload_n g rfl rfl d_ev_stop_1 ?_
  refine PW.putI g fi_ev_48 rfl rfl rfl d_ev_stop_2 ?_
  refine PX.gI (fun I1 eI1 => ?_)
  have h := h _ eI1
  refine PW.aload_n g rfl rfl d_ev_stop_5 ?_
  refine PW.iload_n g rfl rfl d_ev_stop_6 ?_
  refine PW.putI g fi_ev_152 rfl rfl rfl d_ev_stop_7 ?_
  refine PX.gI (fun I2 eI2 => ?_)
  have h := h _ eI2
  exact PX.vret g hF rfl d_ev_stop_10 hL h
def j_ev_answer_78 (K33 : Int32 → Int32 → pI → pR → Prop) (Q : Int32 → pI → pR → Prop) (f1 : Int32) (f2 : Int32) (f3 : Int32) (x4 : Int32) (x5 : Int32) (s0 : Int32) (I : pI) (R : pR) : Prop := (∃ q4, R 115 5 = some q4 ∧ pSH[q4]? = some (0, 5) ∧ (w_rl_isFor (q4 + 14) s0 f1 f2 I R (fun v4 I4 R4 => ((v4 = 0 → K33 x4 (x5 + 1) I4 R4) ∧ (¬ v4 = 0 → (w_sr_pick 120 22 s0 I4 R4 (fun v5 I5 R5 => (∃ q5, R5 115 5 = some q5 ∧ pSH[q5]? = some (0, 5) ∧ (w_sr_pick (q5 + 16) 22 s0 I5 R5 (fun v6 I6 R6 => ((v6 ≤ v5 → K33 (1 : Int32) (x5 + 1) I6 R6) ∧ (¬ v6 ≤ v5 → (w_sr_pick 120 22 s0 I6 R6 (fun v7 I7 R7 => (w_sr_put 120 22 s0 (v7 + (1 : Int32)) I7 R7 (fun I8 R8 => (∃ q6, R8 115 5 = some q6 ∧ pSH[q6]? = some (0, 5) ∧ (w_sr_pick 120 22 s0 I8 R8 (fun v9 I9 R9 => (w_rl_answerFor (q6 + 14) s0 v9 I9 R9 (fun v10 I10 R10 => Q v10 I10 R10)))))))))))))))))))))
set_option maxHeartbeats 4000000 in
set_option maxRecDepth 100000 in
theorem J_ev_answer_78 (d : Nat) {K33 : Int32 → Int32 → pI → pR → Prop} {Q : Int32 → pI → pR → Prop} {f1 : Int32} {f2 : Int32} {f3 : Int32} {x4 : Int32} {x5 : Int32} {s0 : Int32} {E : pE} {B : pB} (g : pw_G m_ev_answer (d + 2) 0 0 E B) (hF : pX (qi Q) E B) (hK33 : ∀ (y4 : Int32) (y5 : Int32) (I : pI) (R : pR), pw_Lay R → K33 y4 y5 I R → PX E B m_ev_answer.2.2.1 33 [some (.ref 115), some (.int f1), some (.int f2), some (.int f3), some (.int y4), some (.int y5), none] [] I R) {I : pI} {R : pR} (hL : pw_Lay R) (h : j_ev_answer_78  K33 Q f1 f2 f3 x4 x5 s0 I R) : PX E B m_ev_answer.2.2.1 78 [some (.ref 115), some (.int f1), some (.int f2), some (.int f3), some (.int x4), some (.int x5), none] [.int s0] I R := by
  unfold j_ev_answer_78 at h
  refine PW.istore g (L' := [some (.ref 115), some (.int f1), some (.int f2), some (.int f3), some (.int x4), some (.int x5), some (.int s0)]) (by decide) rfl rfl d_ev_answer_78 ?_
  refine PW.aload_n g rfl rfl d_ev_answer_80 ?_
  obtain ⟨q4, eq4, hq4, h⟩ := h
  refine PW.getR (q := q4) g fi_ev_27 rfl eq4 d_ev_answer_81 ?_
  refine PW.getR (q := (q4 + 14)) g fi_ev_135 hq4 (hL q4 5 3 hq4 (by decide)) d_ev_answer_84 ?_
  refine PW.iload g rfl d_ev_answer_87 ?_
  refine PW.iload_n g rfl rfl d_ev_answer_89 ?_
  refine PW.iload_n g rfl rfl d_ev_answer_90 ?_
  refine PX.cVz [.int s0, .int f1, .int f2] [] g (pw_shp hq4 3 (by decide)) ck_rl (c_rl_isFor d (pw_shp hq4 3 (by decide)) hL h) cl_ev_139 (by omega) (by decide) rfl rfl (Nat.le_of_ble_eq_true rfl) d_ev_answer_91 (fun v4 I4 R4 hL hzv4 h => ?_)
  refine PW.if_eq g 169 (by decide) d_ev_answer_94 (fun c3 => ?_) (fun c3 => ?_)
  · have h := h.1 c3
    refine PW.iinc g rfl (show x5 + Int32.ofInt (1) = (x5 + 1) from congrArg (HAdd.hAdd x5) (by decide)) (by decide) rfl (L' := [some (.ref 115), some (.int f1), some (.int f2), some (.int f3), some (.int x4), some (.int (x5 + 1)), some (.int s0)]) rfl d_ev_answer_169 ?_
    refine PW.goto g 33 (by decide) d_ev_answer_172 ?_
    refine PX.sub [some (.ref 115), some (.int f1), some (.int f2), some (.int f3), some (.int x4), some (.int (x5 + 1)), none] ⟨rfl, ⟨rfl, ⟨rfl, ⟨rfl, ⟨rfl, ⟨rfl, trivial⟩⟩⟩⟩⟩⟩ ?_
    exact hK33 _ _ _ _ hL h
  · have h := h.2 c3
    refine PW.iconst g (1) (by decide) d_ev_answer_97 ?_
    refine PW.istore g (L' := [some (.ref 115), some (.int f1), some (.int f2), some (.int f3), some (.int (1 : Int32)), some (.int x5), some (.int s0)]) (by decide) rfl rfl d_ev_answer_98 ?_
    refine PW.aload_n g rfl rfl d_ev_answer_100 ?_
    refine PW.getR (q := 120) g fi_ev_24 rfl (hL 115 4 4 rfl (by decide)) d_ev_answer_101 ?_
    refine PW.iload g rfl d_ev_answer_104 ?_
    refine PX.cSi [.ref 120, .int s0] [] g (c_sr_pick d rfl hL h) cl_ev_73 (by omega) (by decide) rfl rfl (Nat.le_of_ble_eq_true rfl) d_ev_answer_106 (fun v5 I5 R5 hL h => ?_)
    refine PW.aload_n g rfl rfl d_ev_answer_109 ?_
    obtain ⟨q5, eq5, hq5, h⟩ := h
    refine PW.getR (q := q5) g fi_ev_27 rfl eq5 d_ev_answer_110 ?_
    refine PW.getR (q := (q5 + 14)) g fi_ev_135 hq5 (hL q5 5 3 hq5 (by decide)) d_ev_answer_113 ?_
    refine PW.getR (q := (q5 + 16)) g fi_ev_145 (pw_shp hq5 3 (by decide)) (hL (q5 + 14) 8 1 (pw_shp hq5 3 (by decide)) (by decide)) d_ev_answer_116 ?_
    refine PW.iload g rfl d_ev_answer_119 ?_
    refine PX.cSi [.ref (q5 + 16), .int s0] [.int v5] g (c_sr_pick d (pw_shp (pw_shp hq5 3 (by decide)) 1 (by decide)) hL h) cl_ev_73 (by omega) (by decide) rfl rfl (Nat.le_of_ble_eq_true rfl) d_ev_answer_121 (fun v6 I6 R6 hL h => ?_)
    refine PW.icmp_ge g 169 (by decide) d_ev_answer_124 (fun c4 => ?_) (fun c4 => ?_)
    · have h := h.1 c4
      refine PW.iinc g rfl (show x5 + Int32.ofInt (1) = (x5 + 1) from congrArg (HAdd.hAdd x5) (by decide)) (by decide) rfl (L' := [some (.ref 115), some (.int f1), some (.int f2), some (.int f3), some (.int (1 : Int32)), some (.int (x5 + 1)), some (.int s0)]) rfl d_ev_answer_169 ?_
      refine PW.goto g 33 (by decide) d_ev_answer_172 ?_
      refine PX.sub [some (.ref 115), some (.int f1), some (.int f2), some (.int f3), some (.int (1 : Int32)), some (.int (x5 + 1)), none] ⟨rfl, ⟨rfl, ⟨rfl, ⟨rfl, ⟨rfl, ⟨rfl, trivial⟩⟩⟩⟩⟩⟩ ?_
      exact hK33 _ _ _ _ hL h
    · have h := h.2 c4
      refine PW.aload_n g rfl rfl d_ev_answer_127 ?_
      refine PW.getR (q := 120) g fi_ev_24 rfl (hL 115 4 4 rfl (by decide)) d_ev_answer_128 ?_
      refine PW.iload g rfl d_ev_answer_131 ?_
      refine PW.aload_n g rfl rfl d_ev_answer_133 ?_
      refine PW.getR (q := 120) g fi_ev_24 rfl (hL 115 4 4 rfl (by decide)) d_ev_answer_134 ?_
      refine PW.iload g rfl d_ev_answer_137 ?_
      refine PX.cSi [.ref 120, .int s0] [.int s0, .ref 120] g (c_sr_pick d rfl hL h) cl_ev_73 (by omega) (by decide) rfl rfl (Nat.le_of_ble_eq_true rfl) d_ev_answer_139 (fun v7 I7 R7 hL h => ?_)
      refine PW.iconst g (1) (by decide) d_ev_answer_142 ?_
      refine PW.iadd g d_ev_answer_143 ?_
      refine PX.cSv [.ref 120, .int s0, .int (v7 + (1 : Int32))] [] g (c_sr_put d rfl hL h) cl_ev_121 (by omega) (by decide) rfl rfl (Nat.le_of_ble_eq_true rfl) d_ev_answer_144 (fun I8 R8 hL h => ?_)
      refine PW.aload_n g rfl rfl d_ev_answer_147 ?_
      obtain ⟨q6, eq6, hq6, h⟩ := h
      refine PW.getR (q := q6) g fi_ev_27 rfl eq6 d_ev_answer_148 ?_
      refine PW.getR (q := (q6 + 14)) g fi_ev_135 hq6 (hL q6 5 3 hq6 (by decide)) d_ev_answer_151 ?_
      refine PW.iload g rfl d_ev_answer_154 ?_
      refine PW.aload_n g rfl rfl d_ev_answer_156 ?_
      refine PW.getR (q := 120) g fi_ev_24 rfl (hL 115 4 4 rfl (by decide)) d_ev_answer_157 ?_
      refine PW.iload g rfl d_ev_answer_160 ?_
      refine PX.cSi [.ref 120, .int s0] [.int s0, .ref (q6 + 14)] g (c_sr_pick d rfl hL h) cl_ev_73 (by omega) (by decide) rfl rfl (Nat.le_of_ble_eq_true rfl) d_ev_answer_162 (fun v9 I9 R9 hL h => ?_)
      refine PX.cVi [.int s0, .int v9] [] g (pw_shp hq6 3 (by decide)) ck_rl (c_rl_answerFor d (pw_shp hq6 3 (by decide)) hL h) cl_ev_148 (by omega) (by decide) rfl rfl (Nat.le_of_ble_eq_true rfl) d_ev_answer_165 (fun v10 I10 R10 hL h => ?_)
      exact PX.iret g hF rfl d_ev_answer_168 hL h
def l_ev_answer_33 (f1 : Int32) (f2 : Int32) (f3 : Int32) (K : Int32 → pI → pR → Prop) (Q : Int32 → pI → pR → Prop) : Nat → Int32 → Int32 → pI → pR → Prop
  | 0, _, _, _, _ => False
  | n + 1, x4, x5, I, R => (((I 115 9) ≤ x5 → K x4 I R) ∧ (¬ (I 115 9) ≤ x5 → (∃ q3, R 115 5 = some q3 ∧ pSH[q3]? = some (0, 5) ∧ (w_st_kindOf (q3 + 7) x5 I R (fun v3 I3 R3 => ((¬ v3 = (7 : Int32) → (j_ev_answer_78 (fun y1 y2 I11 R11 => l_ev_answer_33 f1 f2 f3 K Q n y1 y2 I11 R11) Q f1 f2 f3 x4 x5 (-1 : Int32) I3 R3)) ∧ (v3 = (7 : Int32) → (∃ q7, R3 115 5 = some q7 ∧ pSH[q7]? = some (0, 5) ∧ (w_sr_pick (q7 + 13) 61 x5 I3 R3 (fun v11 I12 R12 => (j_ev_answer_78 (fun y3 y4 I13 R13 => l_ev_answer_33 f1 f2 f3 K Q n y3 y4 I13 R13) Q f1 f2 f3 x4 x5 v11 I12 R12)))))))))))
set_option maxHeartbeats 4000000 in
set_option maxRecDepth 100000 in
theorem L_ev_answer_33 (d : Nat) {f1 : Int32} {f2 : Int32} {f3 : Int32} {K : Int32 → pI → pR → Prop} {Q : Int32 → pI → pR → Prop} {E : pE} {B : pB} (g : pw_G m_ev_answer (d + 2) 0 0 E B) (hF : pX (qi Q) E B) (hK : ∀ (y4 : Int32) (I : pI) (R : pR), pw_Lay R → K y4 I R → PX E B m_ev_answer.2.2.1 175 [some (.ref 115), none, none, some (.int f3), some (.int y4), none, none] [] I R) : ∀ (n : Nat) (x4 : Int32) (x5 : Int32) (I : pI) (R : pR), pw_Lay R → l_ev_answer_33 f1 f2 f3 K Q n x4 x5 I R → PX E B m_ev_answer.2.2.1 33 [some (.ref 115), some (.int f1), some (.int f2), some (.int f3), some (.int x4), some (.int x5), none] [] I R := by
  intro n
  induction n with
  | zero => intro x4 x5 I R hL h; exact False.elim h
  | succ n ih =>
    intro x4 x5 I R hL h
    refine PW.iload g rfl d_ev_answer_33 ?_
    refine PW.aload_n g rfl rfl d_ev_answer_35 ?_
    refine PW.getI g fi_ev_42 rfl d_ev_answer_36 ?_
    refine PW.icmp_ge g 175 (by decide) d_ev_answer_39 (fun c1 => ?_) (fun c1 => ?_)
    · have h := h.1 c1
      refine PX.sub [some (.ref 115), none, none, some (.int f3), some (.int x4), none, none] ⟨rfl, ⟨rfl, ⟨rfl, trivial⟩⟩⟩ ?_
      exact hK _ _ _ hL h
    · have h := h.2 c1
      refine PW.aload_n g rfl rfl d_ev_answer_42 ?_
      obtain ⟨q3, eq3, hq3, h⟩ := h
      refine PW.getR (q := q3) g fi_ev_27 rfl eq3 d_ev_answer_43 ?_
      refine PW.getR (q := (q3 + 7)) g fi_ev_125 hq3 (hL q3 5 2 hq3 (by decide)) d_ev_answer_46 ?_
      refine PW.iload g rfl d_ev_answer_49 ?_
      refine PX.cVi [.int x5] [] g (pw_shp hq3 2 (by decide)) ck_st (c_st_kindOf d (pw_shp hq3 2 (by decide)) hL h) cl_ev_129 (by omega) (by decide) rfl rfl (Nat.le_of_ble_eq_true rfl) d_ev_answer_51 (fun v3 I3 R3 hL h => ?_)
      refine PW.bipush g (7) (by decide) d_ev_answer_54 ?_
      refine PW.icmp_ne g 77 (by decide) d_ev_answer_56 (fun c2 => ?_) (fun c2 => ?_)
      · have h := h.1 c2
        refine PW.iconst g (-1) (by decide) d_ev_answer_77 ?_
        refine PX.sub [some (.ref 115), some (.int f1), some (.int f2), some (.int f3), some (.int x4), some (.int x5), none] ⟨rfl, ⟨rfl, ⟨rfl, ⟨rfl, ⟨rfl, ⟨rfl, trivial⟩⟩⟩⟩⟩⟩ ?_
        refine J_ev_answer_78 d g hF (fun y1 y2 I11 R11 hL h => ?_) hL h
        refine PX.sub [some (.ref 115), some (.int f1), some (.int f2), some (.int f3), some (.int y1), some (.int y2), none] ⟨rfl, ⟨rfl, ⟨rfl, ⟨rfl, ⟨rfl, ⟨rfl, trivial⟩⟩⟩⟩⟩⟩ ?_
        exact ih _ _ _ _ hL h
      · have h := h.2 c2
        refine PW.aload_n g rfl rfl d_ev_answer_59 ?_
        obtain ⟨q7, eq7, hq7, h⟩ := h
        refine PW.getR (q := q7) g fi_ev_27 rfl eq7 d_ev_answer_60 ?_
        refine PW.getR (q := (q7 + 7)) g fi_ev_125 hq7 (hL q7 5 2 hq7 (by decide)) d_ev_answer_63 ?_
        refine PW.getR (q := (q7 + 13)) g fi_ev_134 (pw_shp hq7 2 (by decide)) (hL (q7 + 7) 10 5 (pw_shp hq7 2 (by decide)) (by decide)) d_ev_answer_66 ?_
        refine PW.iload g rfl d_ev_answer_69 ?_
        refine PX.cSi [.ref (q7 + 13), .int x5] [] g (c_sr_pick d (pw_shp (pw_shp hq7 2 (by decide)) 5 (by decide)) hL h) cl_ev_73 (by omega) (by decide) rfl rfl (Nat.le_of_ble_eq_true rfl) d_ev_answer_71 (fun v11 I12 R12 hL h => ?_)
        refine PW.goto g 78 (by decide) d_ev_answer_74 ?_
        refine PX.sub [some (.ref 115), some (.int f1), some (.int f2), some (.int f3), some (.int x4), some (.int x5), none] ⟨rfl, ⟨rfl, ⟨rfl, ⟨rfl, ⟨rfl, ⟨rfl, trivial⟩⟩⟩⟩⟩⟩ ?_
        refine J_ev_answer_78 d g hF (fun y3 y4 I13 R13 hL h => ?_) hL h
        refine PX.sub [some (.ref 115), some (.int f1), some (.int f2), some (.int f3), some (.int y3), some (.int y4), none] ⟨rfl, ⟨rfl, ⟨rfl, ⟨rfl, ⟨rfl, ⟨rfl, trivial⟩⟩⟩⟩⟩⟩ ?_
        exact ih _ _ _ _ hL h
def w_ev_answer (a1 : Int32) (a2 : Int32) (a3 : Int32) (I : pI) (R : pR) (Q : Int32 → pI → pR → Prop) : Prop := (∃ q1, R 115 6 = some q1 ∧ pSH[q1]? = some (0, 6) ∧ (∃ q2, R 115 6 = some q2 ∧ pSH[q2]? = some (0, 6) ∧ (w_sr_pick (q2 + 2) 2 a1 I R (fun v1 I1 R1 => (w_sr_put (q1 + 2) 2 a1 (v1 + (1 : Int32)) I1 R1 (fun I2 R2 => (∃ n1, l_ev_answer_33 a1 a2 a3 (fun y5 I14 R14 => ((y5 = 0 → Q (0 : Int32) I14 R14) ∧ (¬ y5 = 0 → (w_ev_stop (2 : Int32) a3 I14 R14 (fun I15 R15 => Q (0 : Int32) I15 R15))))) Q n1 (0 : Int32) (I2 115 8) I2 R2)))))))
set_option maxHeartbeats 4000000 in
set_option maxRecDepth 100000 in
theorem c_ev_answer (d : Nat) {a1 : Int32} {a2 : Int32} {a3 : Int32} {I : pI} {R : pR} {Q : Int32 → pI → pR → Prop} (hL : pw_Lay R) (h : w_ev_answer a1 a2 a3 I R Q) : Cm (d + 2) m_ev_answer [.ref 115, .int a1, .int a2, .int a3] I R (qi Q) := by
  refine Cm.of [some (.ref 115), some (.int a1), some (.int a2), some (.int a3), none, none, none] (by decide) rfl (Nat.le_of_ble_eq_true rfl) (by simp) (fun E B g hF => ?_)
  unfold w_ev_answer at h
  refine PW.aload_n g rfl rfl d_ev_answer_0 ?_
  obtain ⟨q1, eq1, hq1, h⟩ := h
  refine PW.getR (q := q1) g fi_ev_31 rfl eq1 d_ev_answer_1 ?_
  refine PW.getR (q := (q1 + 2)) g fi_ev_118 hq1 (hL q1 6 1 hq1 (by decide)) d_ev_answer_4 ?_
  refine PW.iload_n g rfl rfl d_ev_answer_7 ?_
  refine PW.aload_n g rfl rfl d_ev_answer_8 ?_
  obtain ⟨q2, eq2, hq2, h⟩ := h
  refine PW.getR (q := q2) g fi_ev_31 rfl eq2 d_ev_answer_9 ?_
  refine PW.getR (q := (q2 + 2)) g fi_ev_118 hq2 (hL q2 6 1 hq2 (by decide)) d_ev_answer_12 ?_
  refine PW.iload_n g rfl rfl d_ev_answer_15 ?_
  refine PX.cSi [.ref (q2 + 2), .int a1] [.int a1, .ref (q1 + 2)] g (c_sr_pick d (pw_shp hq2 1 (by decide)) hL h) cl_ev_73 (by omega) (by decide) rfl rfl (Nat.le_of_ble_eq_true rfl) d_ev_answer_16 (fun v1 I1 R1 hL h => ?_)
  refine PW.iconst g (1) (by decide) d_ev_answer_19 ?_
  refine PW.iadd g d_ev_answer_20 ?_
  refine PX.cSv [.ref (q1 + 2), .int a1, .int (v1 + (1 : Int32))] [] g (c_sr_put d (pw_shp hq1 1 (by decide)) hL h) cl_ev_121 (by omega) (by decide) rfl rfl (Nat.le_of_ble_eq_true rfl) d_ev_answer_21 (fun I2 R2 hL h => ?_)
  refine PW.iconst g (0) (by decide) d_ev_answer_24 ?_
  refine PW.istore g (L' := [some (.ref 115), some (.int a1), some (.int a2), some (.int a3), some (.int (0 : Int32)), none, none]) (by decide) rfl rfl d_ev_answer_25 ?_
  refine PW.aload_n g rfl rfl d_ev_answer_27 ?_
  refine PW.getI g fi_ev_38 rfl d_ev_answer_28 ?_
  refine PW.istore g (L' := [some (.ref 115), some (.int a1), some (.int a2), some (.int a3), some (.int (0 : Int32)), some (.int (I2 115 8)), none]) (by decide) rfl rfl d_ev_answer_31 ?_
  refine PX.sub [some (.ref 115), some (.int a1), some (.int a2), some (.int a3), some (.int (0 : Int32)), some (.int (I2 115 8)), none] ⟨rfl, ⟨rfl, ⟨rfl, ⟨rfl, ⟨rfl, ⟨rfl, trivial⟩⟩⟩⟩⟩⟩ ?_
  obtain ⟨n1, h⟩ := h
  refine L_ev_answer_33 d g hF (fun y5 I14 R14 hL h => ?_) n1 (0 : Int32) (I2 115 8) I2 R2 hL h
  refine PW.iload g rfl d_ev_answer_175 ?_
  refine PW.if_eq g 186 (by decide) d_ev_answer_177 (fun c5 => ?_) (fun c5 => ?_)
  · have h := h.1 c5
    refine PW.iconst g (0) (by decide) d_ev_answer_186 ?_
    exact PX.iret g hF rfl d_ev_answer_187 hL h
  · have h := h.2 c5
    refine PW.aload_n g rfl rfl d_ev_answer_180 ?_
    refine PW.iconst g (2) (by decide) d_ev_answer_181 ?_
    refine PW.iload_n g rfl rfl d_ev_answer_182 ?_
    refine PX.cVv [.int (2 : Int32), .int a3] [] g rfl ck_ev (c_ev_stop d  hL h) cl_ev_115 (by omega) (by decide) rfl rfl (Nat.le_of_ble_eq_true rfl) d_ev_answer_183 (fun I15 R15 hL h => ?_)
    refine PW.iconst g (0) (by decide) d_ev_answer_186 ?_
    exact PX.iret g hF rfl d_ev_answer_187 hL h
def j_ev_isDecided_12 (Q : Int32 → pI → pR → Prop) (x1 : Int32) (s0 : Int32) (I : pI) (R : pR) : Prop := ((x1 = 0 → ((¬ s0 = (0 : Int32) → Q (0 : Int32) I R) ∧ (s0 = (0 : Int32) → Q (1 : Int32) I R))) ∧ (¬ x1 = 0 → ((¬ s0 = (1 : Int32) → Q (0 : Int32) I R) ∧ (s0 = (1 : Int32) → Q (1 : Int32) I R))))
set_option maxHeartbeats 4000000 in
set_option maxRecDepth 100000 in
theorem J_ev_isDecided_12 (d : Nat) {Q : Int32 → pI → pR → Prop} {x1 : Int32} {s0 : Int32} {E : pE} {B : pB} (g : pw_G m_ev_isDecided (d + 1) 0 0 E B) (hF : pX (qz Q) E B) {I : pI} {R : pR} (hL : pw_Lay R) (h : j_ev_isDecided_12  Q x1 s0 I R) : PX E B m_ev_isDecided.2.2.1 12 [none, some (.int x1)] [.int s0] I R := by
  unfold j_ev_isDecided_12 at h
  refine PW.iload_n g rfl rfl d_ev_isDecided_12 ?_
  refine PW.if_eq g 20 (by decide) d_ev_isDecided_13 (fun c2 => ?_) (fun c2 => ?_)
  · have h := h.1 c2
    refine PW.iconst g (0) (by decide) d_ev_isDecided_20 ?_
    refine PW.icmp_ne g 28 (by decide) d_ev_isDecided_21 (fun c3 => ?_) (fun c3 => ?_)
    · have h := h.1 c3
      refine PW.iconst g (0) (by decide) d_ev_isDecided_28 ?_
      exact PX.zret g hF rfl (Or.inl rfl) d_ev_isDecided_29 hL h
    · have h := h.2 c3
      refine PW.iconst g (1) (by decide) d_ev_isDecided_24 ?_
      refine PW.goto g 29 (by decide) d_ev_isDecided_25 ?_
      exact PX.zret g hF rfl (Or.inr rfl) d_ev_isDecided_29 hL h
  · have h := h.2 c2
    refine PW.iconst g (1) (by decide) d_ev_isDecided_16 ?_
    refine PW.goto g 21 (by decide) d_ev_isDecided_17 ?_
    refine PW.icmp_ne g 28 (by decide) d_ev_isDecided_21 (fun c4 => ?_) (fun c4 => ?_)
    · have h := h.1 c4
      refine PW.iconst g (0) (by decide) d_ev_isDecided_28 ?_
      exact PX.zret g hF rfl (Or.inl rfl) d_ev_isDecided_29 hL h
    · have h := h.2 c4
      refine PW.iconst g (1) (by decide) d_ev_isDecided_24 ?_
      refine PW.goto g 29 (by decide) d_ev_isDecided_25 ?_
      exact PX.zret g hF rfl (Or.inr rfl) d_ev_isDecided_29 hL h
def w_ev_isDecided (a1 : Int32) (a2 : Int32) (I : pI) (R : pR) (Q : Int32 → pI → pR → Prop) : Prop := ((¬ a1 = (265 : Int32) → (j_ev_isDecided_12 Q a2 (0 : Int32) I R)) ∧ (a1 = (265 : Int32) → (j_ev_isDecided_12 Q a2 (1 : Int32) I R)))
set_option maxHeartbeats 4000000 in
set_option maxRecDepth 100000 in
theorem c_ev_isDecided (d : Nat) {a1 : Int32} {a2 : Int32} {I : pI} {R : pR} {Q : Int32 → pI → pR → Prop} (hL : pw_Lay R) (h : w_ev_isDecided a1 a2 I R Q) : Cm (d + 1) m_ev_isDecided [.int a1, .int a2] I R (qz Q) := by
  refine Cm.of [some (.int a1), some (.int a2)] (by decide) rfl (Nat.le_of_ble_eq_true rfl) (by simp) (fun E B g hF => ?_)
  unfold w_ev_isDecided at h
  refine PW.iload_n g rfl rfl d_ev_isDecided_0 ?_
  refine PW.sipush g (265) (by decide) d_ev_isDecided_1 ?_
  refine PW.icmp_ne g 11 (by decide) d_ev_isDecided_4 (fun c1 => ?_) (fun c1 => ?_)
  · have h := h.1 c1
    refine PW.iconst g (0) (by decide) d_ev_isDecided_11 ?_
    refine PX.sub [none, some (.int a2)] ⟨rfl, trivial⟩ ?_
    exact J_ev_isDecided_12 d g hF hL h
  · have h := h.2 c1
    refine PW.iconst g (1) (by decide) d_ev_isDecided_7 ?_
    refine PW.goto g 12 (by decide) d_ev_isDecided_8 ?_
    refine PX.sub [none, some (.int a2)] ⟨rfl, trivial⟩ ?_
    exact J_ev_isDecided_12 d g hF hL h
def w_ev_operate (a1 : Int32) (a2 : Int32) (a3 : Int32) (a4 : Int32) (I : pI) (R : pR) (Q : Int32 → pI → pR → Prop) : Prop := ((a1 = (37 : Int32) → ((¬ a3 = 0 → ((¬ a1 = (47 : Int32) → (¬ a3 = 0 ∧ Q (a2 - a2 / a3 * a3) I R)) ∧ (a1 = (47 : Int32) → (¬ a3 = 0 ∧ Q (a2 / a3) I R)))) ∧ (a3 = 0 → (w_ev_stop (3 : Int32) a4 I R (fun I1 R1 => Q (0 : Int32) I1 R1))))) ∧ (¬ a1 = (37 : Int32) → ((a1 = (42 : Int32) → Q (a2 * a3) I R) ∧ (¬ a1 = (42 : Int32) → ((a1 = (43 : Int32) → Q (a2 + a3) I R) ∧ (¬ a1 = (43 : Int32) → ((a1 = (45 : Int32) → Q (a2 - a3) I R) ∧ (¬ a1 = (45 : Int32) → ((a1 = (47 : Int32) → ((¬ a3 = 0 → ((¬ a1 = (47 : Int32) → (¬ a3 = 0 ∧ Q (a2 - a2 / a3 * a3) I R)) ∧ (a1 = (47 : Int32) → (¬ a3 = 0 ∧ Q (a2 / a3) I R)))) ∧ (a3 = 0 → (w_ev_stop (3 : Int32) a4 I R (fun I2 R2 => Q (0 : Int32) I2 R2))))) ∧ (¬ a1 = (47 : Int32) → ((a1 = (60 : Int32) → ((a3 ≤ a2 → (w_sr_truth (0 : Int32) I R (fun v3 I3 R3 => Q v3 I3 R3))) ∧ (¬ a3 ≤ a2 → (w_sr_truth (1 : Int32) I R (fun v4 I4 R4 => Q v4 I4 R4))))) ∧ (¬ a1 = (60 : Int32) → ((a1 = (62 : Int32) → ((a2 ≤ a3 → (w_sr_truth (0 : Int32) I R (fun v5 I5 R5 => Q v5 I5 R5))) ∧ (¬ a2 ≤ a3 → (w_sr_truth (1 : Int32) I R (fun v6 I6 R6 => Q v6 I6 R6))))) ∧ (¬ a1 = (62 : Int32) → ((a1 = (260 : Int32) → ((¬ a2 = a3 → (w_sr_truth (0 : Int32) I R (fun v7 I7 R7 => Q v7 I7 R7))) ∧ (a2 = a3 → (w_sr_truth (1 : Int32) I R (fun v8 I8 R8 => Q v8 I8 R8))))) ∧ (¬ a1 = (260 : Int32) → ((a1 = (261 : Int32) → ((a2 = a3 → (w_sr_truth (0 : Int32) I R (fun v9 I9 R9 => Q v9 I9 R9))) ∧ (¬ a2 = a3 → (w_sr_truth (1 : Int32) I R (fun v10 I10 R10 => Q v10 I10 R10))))) ∧ (¬ a1 = (261 : Int32) → ((a1 = (262 : Int32) → ((a3 < a2 → (w_sr_truth (0 : Int32) I R (fun v11 I11 R11 => Q v11 I11 R11))) ∧ (¬ a3 < a2 → (w_sr_truth (1 : Int32) I R (fun v12 I12 R12 => Q v12 I12 R12))))) ∧ (¬ a1 = (262 : Int32) → ((a1 = (263 : Int32) → ((a2 < a3 → (w_sr_truth (0 : Int32) I R (fun v13 I13 R13 => Q v13 I13 R13))) ∧ (¬ a2 < a3 → (w_sr_truth (1 : Int32) I R (fun v14 I14 R14 => Q v14 I14 R14))))) ∧ (¬ a1 = (263 : Int32) → ((a3 = 0 → (w_sr_truth (0 : Int32) I R (fun v15 I15 R15 => Q v15 I15 R15))) ∧ (¬ a3 = 0 → (w_sr_truth (1 : Int32) I R (fun v16 I16 R16 => Q v16 I16 R16))))))))))))))))))))))))))
set_option maxHeartbeats 4000000 in
set_option maxRecDepth 100000 in
theorem c_ev_operate (d : Nat) {a1 : Int32} {a2 : Int32} {a3 : Int32} {a4 : Int32} {I : pI} {R : pR} {Q : Int32 → pI → pR → Prop} (hL : pw_Lay R) (h : w_ev_operate a1 a2 a3 a4 I R Q) : Cm (d + 2) m_ev_operate [.ref 115, .int a1, .int a2, .int a3, .int a4] I R (qi Q) := by
  refine Cm.of [some (.ref 115), some (.int a1), some (.int a2), some (.int a3), some (.int a4)] (by decide) rfl (Nat.le_of_ble_eq_true rfl) (by simp) (fun E B g hF => ?_)
  unfold w_ev_operate at h
  refine PW.iload_n g rfl rfl d_ev_operate_0 ?_
  by_cases c1 : a1 = (37 : Int32)
  · have h := h.1 c1
    refine PW.lookup g 112 (by decide) (show Op.lookupswitch.offset [(37, 111), (42, 107), (43, 99), (45, 103), (47, 111), (60, 140), (62, 154), (260, 196), (261, 210), (262, 168), (263, 182)] (224) a1.toInt = 111 from by rw [c1]; decide) (by decide) d_ev_operate_1 ?_
    refine PW.iload_n g rfl rfl d_ev_operate_112 ?_
    refine PW.if_ne g 125 (by decide) d_ev_operate_113 (fun c2 => ?_) (fun c2 => ?_)
    · have h := h.1 c2
      refine PW.iload_n g rfl rfl d_ev_operate_125 ?_
      refine PW.bipush g (47) (by decide) d_ev_operate_126 ?_
      refine PW.icmp_ne g 137 (by decide) d_ev_operate_128 (fun c3 => ?_) (fun c3 => ?_)
      · have h := h.1 c3
        refine PW.iload_n g rfl rfl d_ev_operate_137 ?_
        refine PW.iload_n g rfl rfl d_ev_operate_138 ?_
        refine PW.irem g h.1 d_ev_operate_139 ?_
        have h := h.2
        exact PX.iret g hF rfl d_ev_operate_140 hL h
      · have h := h.2 c3
        refine PW.iload_n g rfl rfl d_ev_operate_131 ?_
        refine PW.iload_n g rfl rfl d_ev_operate_132 ?_
        refine PW.idiv g h.1 d_ev_operate_133 ?_
        have h := h.2
        refine PW.goto g 140 (by decide) d_ev_operate_134 ?_
        exact PX.iret g hF rfl d_ev_operate_140 hL h
    · have h := h.2 c2
      refine PW.aload_n g rfl rfl d_ev_operate_116 ?_
      refine PW.iconst g (3) (by decide) d_ev_operate_117 ?_
      refine PW.iload g rfl d_ev_operate_118 ?_
      refine PX.cVv [.int (3 : Int32), .int a4] [] g rfl ck_ev (c_ev_stop d  hL h) cl_ev_115 (by omega) (by decide) rfl rfl (Nat.le_of_ble_eq_true rfl) d_ev_operate_120 (fun I1 R1 hL h => ?_)
      refine PW.iconst g (0) (by decide) d_ev_operate_123 ?_
      exact PX.iret g hF rfl d_ev_operate_124 hL h
  · have h := h.2 c1
    by_cases c4 : a1 = (42 : Int32)
    · have h := h.1 c4
      refine PW.lookup g 108 (by decide) (show Op.lookupswitch.offset [(37, 111), (42, 107), (43, 99), (45, 103), (47, 111), (60, 140), (62, 154), (260, 196), (261, 210), (262, 168), (263, 182)] (224) a1.toInt = 107 from by rw [c4]; decide) (by decide) d_ev_operate_1 ?_
      refine PW.iload_n g rfl rfl d_ev_operate_108 ?_
      refine PW.iload_n g rfl rfl d_ev_operate_109 ?_
      refine PW.imul g d_ev_operate_110 ?_
      exact PX.iret g hF rfl d_ev_operate_111 hL h
    · have h := h.2 c4
      by_cases c5 : a1 = (43 : Int32)
      · have h := h.1 c5
        refine PW.lookup g 100 (by decide) (show Op.lookupswitch.offset [(37, 111), (42, 107), (43, 99), (45, 103), (47, 111), (60, 140), (62, 154), (260, 196), (261, 210), (262, 168), (263, 182)] (224) a1.toInt = 99 from by rw [c5]; decide) (by decide) d_ev_operate_1 ?_
        refine PW.iload_n g rfl rfl d_ev_operate_100 ?_
        refine PW.iload_n g rfl rfl d_ev_operate_101 ?_
        refine PW.iadd g d_ev_operate_102 ?_
        exact PX.iret g hF rfl d_ev_operate_103 hL h
      · have h := h.2 c5
        by_cases c6 : a1 = (45 : Int32)
        · have h := h.1 c6
          refine PW.lookup g 104 (by decide) (show Op.lookupswitch.offset [(37, 111), (42, 107), (43, 99), (45, 103), (47, 111), (60, 140), (62, 154), (260, 196), (261, 210), (262, 168), (263, 182)] (224) a1.toInt = 103 from by rw [c6]; decide) (by decide) d_ev_operate_1 ?_
          refine PW.iload_n g rfl rfl d_ev_operate_104 ?_
          refine PW.iload_n g rfl rfl d_ev_operate_105 ?_
          refine PW.isub g d_ev_operate_106 ?_
          exact PX.iret g hF rfl d_ev_operate_107 hL h
        · have h := h.2 c6
          by_cases c7 : a1 = (47 : Int32)
          · have h := h.1 c7
            refine PW.lookup g 112 (by decide) (show Op.lookupswitch.offset [(37, 111), (42, 107), (43, 99), (45, 103), (47, 111), (60, 140), (62, 154), (260, 196), (261, 210), (262, 168), (263, 182)] (224) a1.toInt = 111 from by rw [c7]; decide) (by decide) d_ev_operate_1 ?_
            refine PW.iload_n g rfl rfl d_ev_operate_112 ?_
            refine PW.if_ne g 125 (by decide) d_ev_operate_113 (fun c8 => ?_) (fun c8 => ?_)
            · have h := h.1 c8
              refine PW.iload_n g rfl rfl d_ev_operate_125 ?_
              refine PW.bipush g (47) (by decide) d_ev_operate_126 ?_
              refine PW.icmp_ne g 137 (by decide) d_ev_operate_128 (fun c9 => ?_) (fun c9 => ?_)
              · have h := h.1 c9
                refine PW.iload_n g rfl rfl d_ev_operate_137 ?_
                refine PW.iload_n g rfl rfl d_ev_operate_138 ?_
                refine PW.irem g h.1 d_ev_operate_139 ?_
                have h := h.2
                exact PX.iret g hF rfl d_ev_operate_140 hL h
              · have h := h.2 c9
                refine PW.iload_n g rfl rfl d_ev_operate_131 ?_
                refine PW.iload_n g rfl rfl d_ev_operate_132 ?_
                refine PW.idiv g h.1 d_ev_operate_133 ?_
                have h := h.2
                refine PW.goto g 140 (by decide) d_ev_operate_134 ?_
                exact PX.iret g hF rfl d_ev_operate_140 hL h
            · have h := h.2 c8
              refine PW.aload_n g rfl rfl d_ev_operate_116 ?_
              refine PW.iconst g (3) (by decide) d_ev_operate_117 ?_
              refine PW.iload g rfl d_ev_operate_118 ?_
              refine PX.cVv [.int (3 : Int32), .int a4] [] g rfl ck_ev (c_ev_stop d  hL h) cl_ev_115 (by omega) (by decide) rfl rfl (Nat.le_of_ble_eq_true rfl) d_ev_operate_120 (fun I2 R2 hL h => ?_)
              refine PW.iconst g (0) (by decide) d_ev_operate_123 ?_
              exact PX.iret g hF rfl d_ev_operate_124 hL h
          · have h := h.2 c7
            by_cases c10 : a1 = (60 : Int32)
            · have h := h.1 c10
              refine PW.lookup g 141 (by decide) (show Op.lookupswitch.offset [(37, 111), (42, 107), (43, 99), (45, 103), (47, 111), (60, 140), (62, 154), (260, 196), (261, 210), (262, 168), (263, 182)] (224) a1.toInt = 140 from by rw [c10]; decide) (by decide) d_ev_operate_1 ?_
              refine PW.iload_n g rfl rfl d_ev_operate_141 ?_
              refine PW.iload_n g rfl rfl d_ev_operate_142 ?_
              refine PW.icmp_ge g 150 (by decide) d_ev_operate_143 (fun c11 => ?_) (fun c11 => ?_)
              · have h := h.1 c11
                refine PW.iconst g (0) (by decide) d_ev_operate_150 ?_
                refine PX.cSi [.int (0 : Int32)] [] g (c_sr_truth d  hL h) cl_ev_96 (by omega) (by decide) rfl rfl (Nat.le_of_ble_eq_true rfl) d_ev_operate_151 (fun v3 I3 R3 hL h => ?_)
                exact PX.iret g hF rfl d_ev_operate_154 hL h
              · have h := h.2 c11
                refine PW.iconst g (1) (by decide) d_ev_operate_146 ?_
                refine PW.goto g 151 (by decide) d_ev_operate_147 ?_
                refine PX.cSi [.int (1 : Int32)] [] g (c_sr_truth d  hL h) cl_ev_96 (by omega) (by decide) rfl rfl (Nat.le_of_ble_eq_true rfl) d_ev_operate_151 (fun v4 I4 R4 hL h => ?_)
                exact PX.iret g hF rfl d_ev_operate_154 hL h
            · have h := h.2 c10
              by_cases c12 : a1 = (62 : Int32)
              · have h := h.1 c12
                refine PW.lookup g 155 (by decide) (show Op.lookupswitch.offset [(37, 111), (42, 107), (43, 99), (45, 103), (47, 111), (60, 140), (62, 154), (260, 196), (261, 210), (262, 168), (263, 182)] (224) a1.toInt = 154 from by rw [c12]; decide) (by decide) d_ev_operate_1 ?_
                refine PW.iload_n g rfl rfl d_ev_operate_155 ?_
                refine PW.iload_n g rfl rfl d_ev_operate_156 ?_
                refine PW.icmp_le g 164 (by decide) d_ev_operate_157 (fun c13 => ?_) (fun c13 => ?_)
                · have h := h.1 c13
                  refine PW.iconst g (0) (by decide) d_ev_operate_164 ?_
                  refine PX.cSi [.int (0 : Int32)] [] g (c_sr_truth d  hL h) cl_ev_96 (by omega) (by decide) rfl rfl (Nat.le_of_ble_eq_true rfl) d_ev_operate_165 (fun v5 I5 R5 hL h => ?_)
                  exact PX.iret g hF rfl d_ev_operate_168 hL h
                · have h := h.2 c13
                  refine PW.iconst g (1) (by decide) d_ev_operate_160 ?_
                  refine PW.goto g 165 (by decide) d_ev_operate_161 ?_
                  refine PX.cSi [.int (1 : Int32)] [] g (c_sr_truth d  hL h) cl_ev_96 (by omega) (by decide) rfl rfl (Nat.le_of_ble_eq_true rfl) d_ev_operate_165 (fun v6 I6 R6 hL h => ?_)
                  exact PX.iret g hF rfl d_ev_operate_168 hL h
              · have h := h.2 c12
                by_cases c14 : a1 = (260 : Int32)
                · have h := h.1 c14
                  refine PW.lookup g 197 (by decide) (show Op.lookupswitch.offset [(37, 111), (42, 107), (43, 99), (45, 103), (47, 111), (60, 140), (62, 154), (260, 196), (261, 210), (262, 168), (263, 182)] (224) a1.toInt = 196 from by rw [c14]; decide) (by decide) d_ev_operate_1 ?_
                  refine PW.iload_n g rfl rfl d_ev_operate_197 ?_
                  refine PW.iload_n g rfl rfl d_ev_operate_198 ?_
                  refine PW.icmp_ne g 206 (by decide) d_ev_operate_199 (fun c15 => ?_) (fun c15 => ?_)
                  · have h := h.1 c15
                    refine PW.iconst g (0) (by decide) d_ev_operate_206 ?_
                    refine PX.cSi [.int (0 : Int32)] [] g (c_sr_truth d  hL h) cl_ev_96 (by omega) (by decide) rfl rfl (Nat.le_of_ble_eq_true rfl) d_ev_operate_207 (fun v7 I7 R7 hL h => ?_)
                    exact PX.iret g hF rfl d_ev_operate_210 hL h
                  · have h := h.2 c15
                    refine PW.iconst g (1) (by decide) d_ev_operate_202 ?_
                    refine PW.goto g 207 (by decide) d_ev_operate_203 ?_
                    refine PX.cSi [.int (1 : Int32)] [] g (c_sr_truth d  hL h) cl_ev_96 (by omega) (by decide) rfl rfl (Nat.le_of_ble_eq_true rfl) d_ev_operate_207 (fun v8 I8 R8 hL h => ?_)
                    exact PX.iret g hF rfl d_ev_operate_210 hL h
                · have h := h.2 c14
                  by_cases c16 : a1 = (261 : Int32)
                  · have h := h.1 c16
                    refine PW.lookup g 211 (by decide) (show Op.lookupswitch.offset [(37, 111), (42, 107), (43, 99), (45, 103), (47, 111), (60, 140), (62, 154), (260, 196), (261, 210), (262, 168), (263, 182)] (224) a1.toInt = 210 from by rw [c16]; decide) (by decide) d_ev_operate_1 ?_
                    refine PW.iload_n g rfl rfl d_ev_operate_211 ?_
                    refine PW.iload_n g rfl rfl d_ev_operate_212 ?_
                    refine PW.icmp_eq g 220 (by decide) d_ev_operate_213 (fun c17 => ?_) (fun c17 => ?_)
                    · have h := h.1 c17
                      refine PW.iconst g (0) (by decide) d_ev_operate_220 ?_
                      refine PX.cSi [.int (0 : Int32)] [] g (c_sr_truth d  hL h) cl_ev_96 (by omega) (by decide) rfl rfl (Nat.le_of_ble_eq_true rfl) d_ev_operate_221 (fun v9 I9 R9 hL h => ?_)
                      exact PX.iret g hF rfl d_ev_operate_224 hL h
                    · have h := h.2 c17
                      refine PW.iconst g (1) (by decide) d_ev_operate_216 ?_
                      refine PW.goto g 221 (by decide) d_ev_operate_217 ?_
                      refine PX.cSi [.int (1 : Int32)] [] g (c_sr_truth d  hL h) cl_ev_96 (by omega) (by decide) rfl rfl (Nat.le_of_ble_eq_true rfl) d_ev_operate_221 (fun v10 I10 R10 hL h => ?_)
                      exact PX.iret g hF rfl d_ev_operate_224 hL h
                  · have h := h.2 c16
                    by_cases c18 : a1 = (262 : Int32)
                    · have h := h.1 c18
                      refine PW.lookup g 169 (by decide) (show Op.lookupswitch.offset [(37, 111), (42, 107), (43, 99), (45, 103), (47, 111), (60, 140), (62, 154), (260, 196), (261, 210), (262, 168), (263, 182)] (224) a1.toInt = 168 from by rw [c18]; decide) (by decide) d_ev_operate_1 ?_
                      refine PW.iload_n g rfl rfl d_ev_operate_169 ?_
                      refine PW.iload_n g rfl rfl d_ev_operate_170 ?_
                      refine PW.icmp_gt g 178 (by decide) d_ev_operate_171 (fun c19 => ?_) (fun c19 => ?_)
                      · have h := h.1 c19
                        refine PW.iconst g (0) (by decide) d_ev_operate_178 ?_
                        refine PX.cSi [.int (0 : Int32)] [] g (c_sr_truth d  hL h) cl_ev_96 (by omega) (by decide) rfl rfl (Nat.le_of_ble_eq_true rfl) d_ev_operate_179 (fun v11 I11 R11 hL h => ?_)
                        exact PX.iret g hF rfl d_ev_operate_182 hL h
                      · have h := h.2 c19
                        refine PW.iconst g (1) (by decide) d_ev_operate_174 ?_
                        refine PW.goto g 179 (by decide) d_ev_operate_175 ?_
                        refine PX.cSi [.int (1 : Int32)] [] g (c_sr_truth d  hL h) cl_ev_96 (by omega) (by decide) rfl rfl (Nat.le_of_ble_eq_true rfl) d_ev_operate_179 (fun v12 I12 R12 hL h => ?_)
                        exact PX.iret g hF rfl d_ev_operate_182 hL h
                    · have h := h.2 c18
                      by_cases c20 : a1 = (263 : Int32)
                      · have h := h.1 c20
                        refine PW.lookup g 183 (by decide) (show Op.lookupswitch.offset [(37, 111), (42, 107), (43, 99), (45, 103), (47, 111), (60, 140), (62, 154), (260, 196), (261, 210), (262, 168), (263, 182)] (224) a1.toInt = 182 from by rw [c20]; decide) (by decide) d_ev_operate_1 ?_
                        refine PW.iload_n g rfl rfl d_ev_operate_183 ?_
                        refine PW.iload_n g rfl rfl d_ev_operate_184 ?_
                        refine PW.icmp_lt g 192 (by decide) d_ev_operate_185 (fun c21 => ?_) (fun c21 => ?_)
                        · have h := h.1 c21
                          refine PW.iconst g (0) (by decide) d_ev_operate_192 ?_
                          refine PX.cSi [.int (0 : Int32)] [] g (c_sr_truth d  hL h) cl_ev_96 (by omega) (by decide) rfl rfl (Nat.le_of_ble_eq_true rfl) d_ev_operate_193 (fun v13 I13 R13 hL h => ?_)
                          exact PX.iret g hF rfl d_ev_operate_196 hL h
                        · have h := h.2 c21
                          refine PW.iconst g (1) (by decide) d_ev_operate_188 ?_
                          refine PW.goto g 193 (by decide) d_ev_operate_189 ?_
                          refine PX.cSi [.int (1 : Int32)] [] g (c_sr_truth d  hL h) cl_ev_96 (by omega) (by decide) rfl rfl (Nat.le_of_ble_eq_true rfl) d_ev_operate_193 (fun v14 I14 R14 hL h => ?_)
                          exact PX.iret g hF rfl d_ev_operate_196 hL h
                      · have h := h.2 c20
                        refine PW.lookup g 225 (by decide) (show Op.lookupswitch.offset [(37, 111), (42, 107), (43, 99), (45, 103), (47, 111), (60, 140), (62, 154), (260, 196), (261, 210), (262, 168), (263, 182)] (224) a1.toInt = 224 from by rw [lv_osw c1 (by decide)]; rw [lv_osw c4 (by decide)]; rw [lv_osw c5 (by decide)]; rw [lv_osw c6 (by decide)]; rw [lv_osw c7 (by decide)]; rw [lv_osw c10 (by decide)]; rw [lv_osw c12 (by decide)]; rw [lv_osw c14 (by decide)]; rw [lv_osw c16 (by decide)]; rw [lv_osw c18 (by decide)]; rw [lv_osw c20 (by decide)]; rfl) (by decide) d_ev_operate_1 ?_
                        refine PW.iload_n g rfl rfl d_ev_operate_225 ?_
                        refine PW.if_eq g 233 (by decide) d_ev_operate_226 (fun c22 => ?_) (fun c22 => ?_)
                        · have h := h.1 c22
                          refine PW.iconst g (0) (by decide) d_ev_operate_233 ?_
                          refine PX.cSi [.int (0 : Int32)] [] g (c_sr_truth d  hL h) cl_ev_96 (by omega) (by decide) rfl rfl (Nat.le_of_ble_eq_true rfl) d_ev_operate_234 (fun v15 I15 R15 hL h => ?_)
                          exact PX.iret g hF rfl d_ev_operate_237 hL h
                        · have h := h.2 c22
                          refine PW.iconst g (1) (by decide) d_ev_operate_229 ?_
                          refine PW.goto g 234 (by decide) d_ev_operate_230 ?_
                          refine PX.cSi [.int (1 : Int32)] [] g (c_sr_truth d  hL h) cl_ev_96 (by omega) (by decide) rfl rfl (Nat.le_of_ble_eq_true rfl) d_ev_operate_234 (fun v16 I16 R16 hL h => ?_)
                          exact PX.iret g hF rfl d_ev_operate_237 hL h
def w_ev_perform (a1 : Int32) (I : pI) (R : pR) (Q : Int32 → pI → pR → Prop) : Prop := (∃ q1, R 115 5 = some q1 ∧ pSH[q1]? = some (0, 5) ∧ (w_sr_pick (q1 + 4) 120 a1 I R (fun v1 I1 R1 => (w_sr_pick (q1 + 6) 120 a1 I1 R1 (fun v2 I2 R2 => (w_sr_pick (q1 + 3) 120 a1 I2 R2 (fun v3 I3 R3 => ((v3 = (0 : Int32) → (w_ev_push v1 I3 R3 (fun I4 R4 => Q (a1 + (1 : Int32)) I4 R4))) ∧ (¬ v3 = (0 : Int32) → ((v3 = (1 : Int32) → (∃ q2, R3 115 6 = some q2 ∧ pSH[q2]? = some (0, 6) ∧ (w_sr_pick (q2 + 1) 26 v1 I3 R3 (fun v5 I5 R5 => (w_ev_note v2 v5 I5 R5 (fun I6 R6 => Q (a1 + (1 : Int32)) I6 R6)))))) ∧ (¬ v3 = (1 : Int32) → ((v3 = (2 : Int32) → (w_ev_pop  I3 R3 (fun v7 I7 R7 => (w_ev_note v2 (-v7) I7 R7 (fun I8 R8 => Q (a1 + (1 : Int32)) I8 R8))))) ∧ (¬ v3 = (2 : Int32) → ((v3 = (3 : Int32) → (w_ev_pop  I3 R3 (fun v9 I9 R9 => ((¬ v9 = 0 → (w_sr_truth (0 : Int32) I9 R9 (fun v10 I10 R10 => (w_ev_note v2 v10 I10 R10 (fun I11 R11 => Q (a1 + (1 : Int32)) I11 R11))))) ∧ (v9 = 0 → (w_sr_truth (1 : Int32) I9 R9 (fun v12 I12 R12 => (w_ev_note v2 v12 I12 R12 (fun I13 R13 => Q (a1 + (1 : Int32)) I13 R13))))))))) ∧ (¬ v3 = (3 : Int32) → ((v3 = (4 : Int32) → (w_ev_pop  I3 R3 (fun v14 I14 R14 => (w_ev_answer v1 v14 v2 I14 R14 (fun v15 I15 R15 => (w_ev_note v2 v15 I15 R15 (fun I16 R16 => Q (a1 + (1 : Int32)) I16 R16))))))) ∧ (¬ v3 = (4 : Int32) → ((v3 = (5 : Int32) → (w_sr_pick 119 120 a1 I3 R3 (fun v17 I17 R17 => (w_ev_note v2 v17 I17 R17 (fun I18 R18 => (w_sr_pick (q1 + 5) 120 a1 I18 R18 (fun v19 I19 R19 => Q v19 I19 R19))))))) ∧ (¬ v3 = (5 : Int32) → ((v3 = (6 : Int32) → (w_sr_pick 116 120 ((I3 115 7) - (1 : Int32)) I3 R3 (fun v20 I20 R20 => (w_ev_isDecided v1 v20 I20 R20 (fun v21 I21 R21 => ((v21 = 0 → Q (a1 + (1 : Int32)) I21 R21) ∧ (¬ v21 = 0 → (w_ev_pop  I21 R21 (fun v22 I22 R22 => ((v22 = 0 → (w_sr_truth (0 : Int32) I22 R22 (fun v23 I23 R23 => (w_ev_note v2 v23 I23 R23 (fun I24 R24 => (w_sr_pick (q1 + 5) 120 a1 I24 R24 (fun v25 I25 R25 => Q v25 I25 R25))))))) ∧ (¬ v22 = 0 → (w_sr_truth (1 : Int32) I22 R22 (fun v26 I26 R26 => (w_ev_note v2 v26 I26 R26 (fun I27 R27 => (w_sr_pick (q1 + 5) 120 a1 I27 R27 (fun v28 I28 R28 => Q v28 I28 R28))))))))))))))))) ∧ (¬ v3 = (6 : Int32) → (w_ev_pop  I3 R3 (fun v29 I29 R29 => (w_ev_pop  I29 R29 (fun v30 I30 R30 => (w_ev_operate v1 v30 v29 v2 I30 R30 (fun v31 I31 R31 => (w_ev_note v2 v31 I31 R31 (fun I32 R32 => Q (a1 + (1 : Int32)) I32 R32)))))))))))))))))))))))))))))
set_option maxHeartbeats 4000000 in
set_option maxRecDepth 100000 in
theorem c_ev_perform (d : Nat) {a1 : Int32} {I : pI} {R : pR} {Q : Int32 → pI → pR → Prop} (hL : pw_Lay R) (h : w_ev_perform a1 I R Q) : Cm (d + 3) m_ev_perform [.ref 115, .int a1] I R (qi Q) := by
  refine Cm.of [some (.ref 115), some (.int a1), none, none, none, none] (by decide) rfl (Nat.le_of_ble_eq_true rfl) (by simp) (fun E B g hF => ?_)
  unfold w_ev_perform at h
  refine PW.aload_n g rfl rfl d_ev_perform_0 ?_
  obtain ⟨q1, eq1, hq1, h⟩ := h
  refine PW.getR (q := q1) g fi_ev_27 rfl eq1 d_ev_perform_1 ?_
  refine PW.getR (q := (q1 + 2)) g fi_ev_62 hq1 (hL q1 5 1 hq1 (by decide)) d_ev_perform_4 ?_
  refine PW.astore_n g rfl (L' := [some (.ref 115), some (.int a1), some (.ref (q1 + 2)), none, none, none]) (by decide) rfl rfl d_ev_perform_7 ?_
  refine PW.aload_n g rfl rfl d_ev_perform_8 ?_
  refine PW.getR (q := (q1 + 4)) g fi_ev_68 (pw_shp hq1 1 (by decide)) (hL (q1 + 2) 2 1 (pw_shp hq1 1 (by decide)) (by decide)) d_ev_perform_9 ?_
  refine PW.iload_n g rfl rfl d_ev_perform_12 ?_
  refine PX.cSi [.ref (q1 + 4), .int a1] [] g (c_sr_pick d (pw_shp (pw_shp hq1 1 (by decide)) 1 (by decide)) hL h) cl_ev_73 (by omega) (by decide) rfl rfl (Nat.le_of_ble_eq_true rfl) d_ev_perform_13 (fun v1 I1 R1 hL h => ?_)
  refine PW.istore_n g rfl (L' := [some (.ref 115), some (.int a1), some (.ref (q1 + 2)), some (.int v1), none, none]) (by decide) rfl rfl d_ev_perform_16 ?_
  refine PW.aload_n g rfl rfl d_ev_perform_17 ?_
  refine PW.getR (q := (q1 + 6)) g fi_ev_77 (pw_shp hq1 1 (by decide)) (hL (q1 + 2) 2 3 (pw_shp hq1 1 (by decide)) (by decide)) d_ev_perform_18 ?_
  refine PW.iload_n g rfl rfl d_ev_perform_21 ?_
  refine PX.cSi [.ref (q1 + 6), .int a1] [] g (c_sr_pick d (pw_shp (pw_shp hq1 1 (by decide)) 3 (by decide)) hL h) cl_ev_73 (by omega) (by decide) rfl rfl (Nat.le_of_ble_eq_true rfl) d_ev_perform_22 (fun v2 I2 R2 hL h => ?_)
  refine PW.istore g (L' := [some (.ref 115), some (.int a1), some (.ref (q1 + 2)), some (.int v1), some (.int v2), none]) (by decide) rfl rfl d_ev_perform_25 ?_
  refine PW.aload_n g rfl rfl d_ev_perform_27 ?_
  refine PW.getR (q := (q1 + 3)) g fi_ev_80 (pw_shp hq1 1 (by decide)) (hL (q1 + 2) 2 0 (pw_shp hq1 1 (by decide)) (by decide)) d_ev_perform_28 ?_
  refine PW.iload_n g rfl rfl d_ev_perform_31 ?_
  refine PX.cSi [.ref (q1 + 3), .int a1] [] g (c_sr_pick d (pw_shp (pw_shp hq1 1 (by decide)) 0 (by decide)) hL h) cl_ev_73 (by omega) (by decide) rfl rfl (Nat.le_of_ble_eq_true rfl) d_ev_perform_32 (fun v3 I3 R3 hL h => ?_)
  by_cases c1 : v3 = (0 : Int32)
  · have h := h.1 c1
    refine PW.tableIn g 76 (by rw [c1]; decide) (by rw [c1]; decide) (show _ = some (41) from by rw [c1]; decide) (by decide) d_ev_perform_35 ?_
    refine PW.aload_n g rfl rfl d_ev_perform_76 ?_
    refine PW.iload_n g rfl rfl d_ev_perform_77 ?_
    refine PX.cVv [.int v1] [] g rfl ck_ev (c_ev_push d  hL h) cl_ev_83 (by omega) (by decide) rfl rfl (Nat.le_of_ble_eq_true rfl) d_ev_perform_78 (fun I4 R4 hL h => ?_)
    refine PW.goto g 260 (by decide) d_ev_perform_81 ?_
    refine PW.iload_n g rfl rfl d_ev_perform_260 ?_
    refine PW.iconst g (1) (by decide) d_ev_perform_261 ?_
    refine PW.iadd g d_ev_perform_262 ?_
    exact PX.iret g hF rfl d_ev_perform_263 hL h
  · have h := h.2 c1
    by_cases c2 : v3 = (1 : Int32)
    · have h := h.1 c2
      refine PW.tableIn g 84 (by rw [c2]; decide) (by rw [c2]; decide) (show _ = some (49) from by rw [c2]; decide) (by decide) d_ev_perform_35 ?_
      refine PW.aload_n g rfl rfl d_ev_perform_84 ?_
      refine PW.iload g rfl d_ev_perform_85 ?_
      refine PW.aload_n g rfl rfl d_ev_perform_87 ?_
      obtain ⟨q2, eq2, hq2, h⟩ := h
      refine PW.getR (q := q2) g fi_ev_31 rfl eq2 d_ev_perform_88 ?_
      refine PW.getR (q := (q2 + 1)) g fi_ev_87 hq2 (hL q2 6 0 hq2 (by decide)) d_ev_perform_91 ?_
      refine PW.iload_n g rfl rfl d_ev_perform_94 ?_
      refine PX.cSi [.ref (q2 + 1), .int v1] [.int v2, .ref 115] g (c_sr_pick d (pw_shp hq2 0 (by decide)) hL h) cl_ev_73 (by omega) (by decide) rfl rfl (Nat.le_of_ble_eq_true rfl) d_ev_perform_95 (fun v5 I5 R5 hL h => ?_)
      refine PX.cVv [.int v2, .int v5] [] g rfl ck_ev (c_ev_note d  hL h) cl_ev_92 (by omega) (by decide) rfl rfl (Nat.le_of_ble_eq_true rfl) d_ev_perform_98 (fun I6 R6 hL h => ?_)
      refine PW.goto g 260 (by decide) d_ev_perform_101 ?_
      refine PW.iload_n g rfl rfl d_ev_perform_260 ?_
      refine PW.iconst g (1) (by decide) d_ev_perform_261 ?_
      refine PW.iadd g d_ev_perform_262 ?_
      exact PX.iret g hF rfl d_ev_perform_263 hL h
    · have h := h.2 c2
      by_cases c3 : v3 = (2 : Int32)
      · have h := h.1 c3
        refine PW.tableIn g 104 (by rw [c3]; decide) (by rw [c3]; decide) (show _ = some (69) from by rw [c3]; decide) (by decide) d_ev_perform_35 ?_
        refine PW.aload_n g rfl rfl d_ev_perform_104 ?_
        refine PW.iload g rfl d_ev_perform_105 ?_
        refine PW.aload_n g rfl rfl d_ev_perform_107 ?_
        refine PX.cVi [] [.int v2, .ref 115] g rfl ck_ev (c_ev_pop d  hL h) cl_ev_55 (by omega) (by decide) rfl rfl (Nat.le_of_ble_eq_true rfl) d_ev_perform_108 (fun v7 I7 R7 hL h => ?_)
        refine PW.ineg g d_ev_perform_111 ?_
        refine PX.cVv [.int v2, .int (-v7)] [] g rfl ck_ev (c_ev_note d  hL h) cl_ev_92 (by omega) (by decide) rfl rfl (Nat.le_of_ble_eq_true rfl) d_ev_perform_112 (fun I8 R8 hL h => ?_)
        refine PW.goto g 260 (by decide) d_ev_perform_115 ?_
        refine PW.iload_n g rfl rfl d_ev_perform_260 ?_
        refine PW.iconst g (1) (by decide) d_ev_perform_261 ?_
        refine PW.iadd g d_ev_perform_262 ?_
        exact PX.iret g hF rfl d_ev_perform_263 hL h
      · have h := h.2 c3
        by_cases c4 : v3 = (3 : Int32)
        · have h := h.1 c4
          refine PW.tableIn g 118 (by rw [c4]; decide) (by rw [c4]; decide) (show _ = some (83) from by rw [c4]; decide) (by decide) d_ev_perform_35 ?_
          refine PW.aload_n g rfl rfl d_ev_perform_118 ?_
          refine PW.iload g rfl d_ev_perform_119 ?_
          refine PW.aload_n g rfl rfl d_ev_perform_121 ?_
          refine PX.cVi [] [.int v2, .ref 115] g rfl ck_ev (c_ev_pop d  hL h) cl_ev_55 (by omega) (by decide) rfl rfl (Nat.le_of_ble_eq_true rfl) d_ev_perform_122 (fun v9 I9 R9 hL h => ?_)
          refine PW.if_ne g 132 (by decide) d_ev_perform_125 (fun c5 => ?_) (fun c5 => ?_)
          · have h := h.1 c5
            refine PW.iconst g (0) (by decide) d_ev_perform_132 ?_
            refine PX.cSi [.int (0 : Int32)] [.int v2, .ref 115] g (c_sr_truth d  hL h) cl_ev_96 (by omega) (by decide) rfl rfl (Nat.le_of_ble_eq_true rfl) d_ev_perform_133 (fun v10 I10 R10 hL h => ?_)
            refine PX.cVv [.int v2, .int v10] [] g rfl ck_ev (c_ev_note d  hL h) cl_ev_92 (by omega) (by decide) rfl rfl (Nat.le_of_ble_eq_true rfl) d_ev_perform_136 (fun I11 R11 hL h => ?_)
            refine PW.goto g 260 (by decide) d_ev_perform_139 ?_
            refine PW.iload_n g rfl rfl d_ev_perform_260 ?_
            refine PW.iconst g (1) (by decide) d_ev_perform_261 ?_
            refine PW.iadd g d_ev_perform_262 ?_
            exact PX.iret g hF rfl d_ev_perform_263 hL h
          · have h := h.2 c5
            refine PW.iconst g (1) (by decide) d_ev_perform_128 ?_
            refine PW.goto g 133 (by decide) d_ev_perform_129 ?_
            refine PX.cSi [.int (1 : Int32)] [.int v2, .ref 115] g (c_sr_truth d  hL h) cl_ev_96 (by omega) (by decide) rfl rfl (Nat.le_of_ble_eq_true rfl) d_ev_perform_133 (fun v12 I12 R12 hL h => ?_)
            refine PX.cVv [.int v2, .int v12] [] g rfl ck_ev (c_ev_note d  hL h) cl_ev_92 (by omega) (by decide) rfl rfl (Nat.le_of_ble_eq_true rfl) d_ev_perform_136 (fun I13 R13 hL h => ?_)
            refine PW.goto g 260 (by decide) d_ev_perform_139 ?_
            refine PW.iload_n g rfl rfl d_ev_perform_260 ?_
            refine PW.iconst g (1) (by decide) d_ev_perform_261 ?_
            refine PW.iadd g d_ev_perform_262 ?_
            exact PX.iret g hF rfl d_ev_perform_263 hL h
        · have h := h.2 c4
          by_cases c6 : v3 = (4 : Int32)
          · have h := h.1 c6
            refine PW.tableIn g 142 (by rw [c6]; decide) (by rw [c6]; decide) (show _ = some (107) from by rw [c6]; decide) (by decide) d_ev_perform_35 ?_
            refine PW.aload_n g rfl rfl d_ev_perform_142 ?_
            refine PW.iload g rfl d_ev_perform_143 ?_
            refine PW.aload_n g rfl rfl d_ev_perform_145 ?_
            refine PW.iload_n g rfl rfl d_ev_perform_146 ?_
            refine PW.aload_n g rfl rfl d_ev_perform_147 ?_
            refine PX.cVi [] [.int v1, .ref 115, .int v2, .ref 115] g rfl ck_ev (c_ev_pop d  hL h) cl_ev_55 (by omega) (by decide) rfl rfl (Nat.le_of_ble_eq_true rfl) d_ev_perform_148 (fun v14 I14 R14 hL h => ?_)
            refine PW.iload g rfl d_ev_perform_151 ?_
            refine PX.cVi [.int v1, .int v14, .int v2] [.int v2, .ref 115] g rfl ck_ev (c_ev_answer d  hL h) cl_ev_100 (by omega) (by decide) rfl rfl (Nat.le_of_ble_eq_true rfl) d_ev_perform_153 (fun v15 I15 R15 hL h => ?_)
            refine PX.cVv [.int v2, .int v15] [] g rfl ck_ev (c_ev_note d  hL h) cl_ev_92 (by omega) (by decide) rfl rfl (Nat.le_of_ble_eq_true rfl) d_ev_perform_156 (fun I16 R16 hL h => ?_)
            refine PW.goto g 260 (by decide) d_ev_perform_159 ?_
            refine PW.iload_n g rfl rfl d_ev_perform_260 ?_
            refine PW.iconst g (1) (by decide) d_ev_perform_261 ?_
            refine PW.iadd g d_ev_perform_262 ?_
            exact PX.iret g hF rfl d_ev_perform_263 hL h
          · have h := h.2 c6
            by_cases c7 : v3 = (5 : Int32)
            · have h := h.1 c7
              refine PW.tableIn g 162 (by rw [c7]; decide) (by rw [c7]; decide) (show _ = some (127) from by rw [c7]; decide) (by decide) d_ev_perform_35 ?_
              refine PW.aload_n g rfl rfl d_ev_perform_162 ?_
              refine PW.iload g rfl d_ev_perform_163 ?_
              refine PW.aload_n g rfl rfl d_ev_perform_165 ?_
              refine PW.getR (q := 119) g fi_ev_21 rfl (hL 115 4 3 rfl (by decide)) d_ev_perform_166 ?_
              refine PW.iload_n g rfl rfl d_ev_perform_169 ?_
              refine PX.cSi [.ref 119, .int a1] [.int v2, .ref 115] g (c_sr_pick d rfl hL h) cl_ev_73 (by omega) (by decide) rfl rfl (Nat.le_of_ble_eq_true rfl) d_ev_perform_170 (fun v17 I17 R17 hL h => ?_)
              refine PX.cVv [.int v2, .int v17] [] g rfl ck_ev (c_ev_note d  hL h) cl_ev_92 (by omega) (by decide) rfl rfl (Nat.le_of_ble_eq_true rfl) d_ev_perform_173 (fun I18 R18 hL h => ?_)
              refine PW.aload_n g rfl rfl d_ev_perform_176 ?_
              refine PW.getR (q := (q1 + 5)) g fi_ev_104 (pw_shp hq1 1 (by decide)) (hL (q1 + 2) 2 2 (pw_shp hq1 1 (by decide)) (by decide)) d_ev_perform_177 ?_
              refine PW.iload_n g rfl rfl d_ev_perform_180 ?_
              refine PX.cSi [.ref (q1 + 5), .int a1] [] g (c_sr_pick d (pw_shp (pw_shp hq1 1 (by decide)) 2 (by decide)) hL h) cl_ev_73 (by omega) (by decide) rfl rfl (Nat.le_of_ble_eq_true rfl) d_ev_perform_181 (fun v19 I19 R19 hL h => ?_)
              exact PX.iret g hF rfl d_ev_perform_184 hL h
            · have h := h.2 c7
              by_cases c8 : v3 = (6 : Int32)
              · have h := h.1 c8
                refine PW.tableIn g 185 (by rw [c8]; decide) (by rw [c8]; decide) (show _ = some (150) from by rw [c8]; decide) (by decide) d_ev_perform_35 ?_
                refine PW.iload_n g rfl rfl d_ev_perform_185 ?_
                refine PW.aload_n g rfl rfl d_ev_perform_186 ?_
                refine PW.getR (q := 116) g fi_ev_9 rfl (hL 115 4 0 rfl (by decide)) d_ev_perform_187 ?_
                refine PW.aload_n g rfl rfl d_ev_perform_190 ?_
                refine PW.getI g fi_ev_45 rfl d_ev_perform_191 ?_
                refine PW.iconst g (1) (by decide) d_ev_perform_194 ?_
                refine PW.isub g d_ev_perform_195 ?_
                refine PX.cSi [.ref 116, .int ((I3 115 7) - (1 : Int32))] [.int v1] g (c_sr_pick d rfl hL h) cl_ev_73 (by omega) (by decide) rfl rfl (Nat.le_of_ble_eq_true rfl) d_ev_perform_196 (fun v20 I20 R20 hL h => ?_)
                refine PX.cSz [.int v1, .int v20] [] g (c_ev_isDecided d  hL h) cl_ev_107 (by omega) (by decide) rfl rfl (Nat.le_of_ble_eq_true rfl) d_ev_perform_199 (fun v21 I21 R21 hL hzv21 h => ?_)
                refine PW.if_eq g 260 (by decide) d_ev_perform_202 (fun c9 => ?_) (fun c9 => ?_)
                · have h := h.1 c9
                  refine PW.iload_n g rfl rfl d_ev_perform_260 ?_
                  refine PW.iconst g (1) (by decide) d_ev_perform_261 ?_
                  refine PW.iadd g d_ev_perform_262 ?_
                  exact PX.iret g hF rfl d_ev_perform_263 hL h
                · have h := h.2 c9
                  refine PW.aload_n g rfl rfl d_ev_perform_205 ?_
                  refine PW.iload g rfl d_ev_perform_206 ?_
                  refine PW.aload_n g rfl rfl d_ev_perform_208 ?_
                  refine PX.cVi [] [.int v2, .ref 115] g rfl ck_ev (c_ev_pop d  hL h) cl_ev_55 (by omega) (by decide) rfl rfl (Nat.le_of_ble_eq_true rfl) d_ev_perform_209 (fun v22 I22 R22 hL h => ?_)
                  refine PW.if_eq g 219 (by decide) d_ev_perform_212 (fun c10 => ?_) (fun c10 => ?_)
                  · have h := h.1 c10
                    refine PW.iconst g (0) (by decide) d_ev_perform_219 ?_
                    refine PX.cSi [.int (0 : Int32)] [.int v2, .ref 115] g (c_sr_truth d  hL h) cl_ev_96 (by omega) (by decide) rfl rfl (Nat.le_of_ble_eq_true rfl) d_ev_perform_220 (fun v23 I23 R23 hL h => ?_)
                    refine PX.cVv [.int v2, .int v23] [] g rfl ck_ev (c_ev_note d  hL h) cl_ev_92 (by omega) (by decide) rfl rfl (Nat.le_of_ble_eq_true rfl) d_ev_perform_223 (fun I24 R24 hL h => ?_)
                    refine PW.aload_n g rfl rfl d_ev_perform_226 ?_
                    refine PW.getR (q := (q1 + 5)) g fi_ev_104 (pw_shp hq1 1 (by decide)) (hL (q1 + 2) 2 2 (pw_shp hq1 1 (by decide)) (by decide)) d_ev_perform_227 ?_
                    refine PW.iload_n g rfl rfl d_ev_perform_230 ?_
                    refine PX.cSi [.ref (q1 + 5), .int a1] [] g (c_sr_pick d (pw_shp (pw_shp hq1 1 (by decide)) 2 (by decide)) hL h) cl_ev_73 (by omega) (by decide) rfl rfl (Nat.le_of_ble_eq_true rfl) d_ev_perform_231 (fun v25 I25 R25 hL h => ?_)
                    exact PX.iret g hF rfl d_ev_perform_234 hL h
                  · have h := h.2 c10
                    refine PW.iconst g (1) (by decide) d_ev_perform_215 ?_
                    refine PW.goto g 220 (by decide) d_ev_perform_216 ?_
                    refine PX.cSi [.int (1 : Int32)] [.int v2, .ref 115] g (c_sr_truth d  hL h) cl_ev_96 (by omega) (by decide) rfl rfl (Nat.le_of_ble_eq_true rfl) d_ev_perform_220 (fun v26 I26 R26 hL h => ?_)
                    refine PX.cVv [.int v2, .int v26] [] g rfl ck_ev (c_ev_note d  hL h) cl_ev_92 (by omega) (by decide) rfl rfl (Nat.le_of_ble_eq_true rfl) d_ev_perform_223 (fun I27 R27 hL h => ?_)
                    refine PW.aload_n g rfl rfl d_ev_perform_226 ?_
                    refine PW.getR (q := (q1 + 5)) g fi_ev_104 (pw_shp hq1 1 (by decide)) (hL (q1 + 2) 2 2 (pw_shp hq1 1 (by decide)) (by decide)) d_ev_perform_227 ?_
                    refine PW.iload_n g rfl rfl d_ev_perform_230 ?_
                    refine PX.cSi [.ref (q1 + 5), .int a1] [] g (c_sr_pick d (pw_shp (pw_shp hq1 1 (by decide)) 2 (by decide)) hL h) cl_ev_73 (by omega) (by decide) rfl rfl (Nat.le_of_ble_eq_true rfl) d_ev_perform_231 (fun v28 I28 R28 hL h => ?_)
                    exact PX.iret g hF rfl d_ev_perform_234 hL h
              · have h := h.2 c8
                refine PW.tableOut g 235 (by have b0 := lv_neT c1 (a := 0) (by decide); have b1 := lv_neT c2 (a := 1) (by decide); have b2 := lv_neT c3 (a := 2) (by decide); have b3 := lv_neT c4 (a := 3) (by decide); have b4 := lv_neT c6 (a := 4) (by decide); have b5 := lv_neT c7 (a := 5) (by decide); have b6 := lv_neT c8 (a := 6) (by decide); omega) (by decide) d_ev_perform_35 ?_
                refine PW.aload_n g rfl rfl d_ev_perform_235 ?_
                refine PX.cVi [] [] g rfl ck_ev (c_ev_pop d  hL h) cl_ev_55 (by omega) (by decide) rfl rfl (Nat.le_of_ble_eq_true rfl) d_ev_perform_236 (fun v29 I29 R29 hL h => ?_)
                refine PW.istore g (L' := [some (.ref 115), some (.int a1), some (.ref (q1 + 2)), some (.int v1), some (.int v2), some (.int v29)]) (by decide) rfl rfl d_ev_perform_239 ?_
                refine PW.aload_n g rfl rfl d_ev_perform_241 ?_
                refine PW.iload g rfl d_ev_perform_242 ?_
                refine PW.aload_n g rfl rfl d_ev_perform_244 ?_
                refine PW.iload_n g rfl rfl d_ev_perform_245 ?_
                refine PW.aload_n g rfl rfl d_ev_perform_246 ?_
                refine PX.cVi [] [.int v1, .ref 115, .int v2, .ref 115] g rfl ck_ev (c_ev_pop d  hL h) cl_ev_55 (by omega) (by decide) rfl rfl (Nat.le_of_ble_eq_true rfl) d_ev_perform_247 (fun v30 I30 R30 hL h => ?_)
                refine PW.iload g rfl d_ev_perform_250 ?_
                refine PW.iload g rfl d_ev_perform_252 ?_
                refine PX.cVi [.int v1, .int v30, .int v29, .int v2] [.int v2, .ref 115] g rfl ck_ev (c_ev_operate d  hL h) cl_ev_111 (by omega) (by decide) rfl rfl (Nat.le_of_ble_eq_true rfl) d_ev_perform_254 (fun v31 I31 R31 hL h => ?_)
                refine PX.cVv [.int v2, .int v31] [] g rfl ck_ev (c_ev_note d  hL h) cl_ev_92 (by omega) (by decide) rfl rfl (Nat.le_of_ble_eq_true rfl) d_ev_perform_257 (fun I32 R32 hL h => ?_)
                refine PW.iload_n g rfl rfl d_ev_perform_260 ?_
                refine PW.iconst g (1) (by decide) d_ev_perform_261 ?_
                refine PW.iadd g d_ev_perform_262 ?_
                exact PX.iret g hF rfl d_ev_perform_263 hL h
def l_ev_evaluate_15 (f2 : Int32) (K : pI → pR → Prop) (Q : Int32 → pI → pR → Prop) : Nat → Int32 → Int32 → pI → pR → Prop
  | 0, _, _, _, _ => False
  | n + 1, x3, x4, I, R => (((120 : Int32) ≤ x4 → K I R) ∧ (¬ (120 : Int32) ≤ x4 → ((f2 ≤ x3 → K I R) ∧ (¬ f2 ≤ x3 → ((¬ (I 115 11) = 0 → K I R) ∧ ((I 115 11) = 0 → (w_ev_perform x3 I R (fun v1 I3 R1 => l_ev_evaluate_15 f2 K Q n v1 (x4 + 1) I3 R1))))))))
set_option maxHeartbeats 4000000 in
set_option maxRecDepth 100000 in
theorem L_ev_evaluate_15 (d : Nat) {f2 : Int32} {K : pI → pR → Prop} {Q : Int32 → pI → pR → Prop} {E : pE} {B : pB} (g : pw_G m_ev_evaluate (d + 4) 0 0 E B) (hF : pX (qz Q) E B) (hK : ∀ (I : pI) (R : pR), pw_Lay R → K  I R → PX E B m_ev_evaluate.2.2.1 46 [some (.ref 115), none, none, none, none] [] I R) : ∀ (n : Nat) (x3 : Int32) (x4 : Int32) (I : pI) (R : pR), pw_Lay R → l_ev_evaluate_15 f2 K Q n x3 x4 I R → PX E B m_ev_evaluate.2.2.1 15 [some (.ref 115), none, some (.int f2), some (.int x3), some (.int x4)] [] I R := by
  intro n
  induction n with
  | zero => intro x3 x4 I R hL h; exact False.elim h
  | succ n ih =>
    intro x3 x4 I R hL h
    refine PW.iload g rfl d_ev_evaluate_15 ?_
    refine PW.bipush g (120) (by decide) d_ev_evaluate_17 ?_
    refine PW.icmp_ge g 46 (by decide) d_ev_evaluate_19 (fun c1 => ?_) (fun c1 => ?_)
    · have h := h.1 c1
      refine PX.sub [some (.ref 115), none, none, none, none] ⟨rfl, trivial⟩ ?_
      exact hK _ _ hL h
    · have h := h.2 c1
      refine PW.iload_n g rfl rfl d_ev_evaluate_22 ?_
      refine PW.iload_n g rfl rfl d_ev_evaluate_23 ?_
      refine PW.icmp_ge g 46 (by decide) d_ev_evaluate_24 (fun c2 => ?_) (fun c2 => ?_)
      · have h := h.1 c2
        refine PX.sub [some (.ref 115), none, none, none, none] ⟨rfl, trivial⟩ ?_
        exact hK _ _ hL h
      · have h := h.2 c2
        refine PW.aload_n g rfl rfl d_ev_evaluate_27 ?_
        refine PW.getI g fi_ev_48 rfl d_ev_evaluate_28 ?_
        refine PW.if_ne g 46 (by decide) d_ev_evaluate_31 (fun c3 => ?_) (fun c3 => ?_)
        · have h := h.1 c3
          refine PX.sub [some (.ref 115), none, none, none, none] ⟨rfl, trivial⟩ ?_
          exact hK _ _ hL h
        · have h := h.2 c3
          refine PW.aload_n g rfl rfl d_ev_evaluate_34 ?_
          refine PW.iload_n g rfl rfl d_ev_evaluate_35 ?_
          refine PX.cVi [.int x3] [] g rfl ck_ev (c_ev_perform d  hL h) cl_ev_51 (by omega) (by decide) rfl rfl (Nat.le_of_ble_eq_true rfl) d_ev_evaluate_36 (fun v1 I3 R1 hL h => ?_)
          refine PW.istore_n g rfl (L' := [some (.ref 115), none, some (.int f2), some (.int v1), some (.int x4)]) (by decide) rfl rfl d_ev_evaluate_39 ?_
          refine PW.iinc g rfl (show x4 + Int32.ofInt (1) = (x4 + 1) from congrArg (HAdd.hAdd x4) (by decide)) (by decide) rfl (L' := [some (.ref 115), none, some (.int f2), some (.int v1), some (.int (x4 + 1))]) rfl d_ev_evaluate_40 ?_
          refine PW.goto g 15 (by decide) d_ev_evaluate_43 ?_
          refine PX.sub [some (.ref 115), none, some (.int f2), some (.int v1), some (.int (x4 + 1))] ⟨rfl, ⟨rfl, ⟨rfl, ⟨rfl, trivial⟩⟩⟩⟩ ?_
          exact ih _ _ _ _ hL h
def w_ev_evaluate (a1 : Int32) (a2 : Int32) (I : pI) (R : pR) (Q : Int32 → pI → pR → Prop) : Prop := (∀ I1, I1 = pw_wI I 115 7 (0 : Int32) → (∀ I2, I2 = pw_wI I1 115 11 (0 : Int32) → (∃ n1, l_ev_evaluate_15 a2 (fun I4 R2 => (w_ev_pop I4 R2 (fun v2 I5 R3 => (∀ I6, I6 = pw_wI I5 115 10 v2 → ((¬ (I6 115 11) = 0 → Q (0 : Int32) I6 R3) ∧ ((I6 115 11) = 0 → Q (1 : Int32) I6 R3)))))) Q n1 a1 (0 : Int32) I2 R)))
set_option maxHeartbeats 4000000 in
set_option maxRecDepth 100000 in
theorem c_ev_evaluate (d : Nat) {a1 : Int32} {a2 : Int32} {I : pI} {R : pR} {Q : Int32 → pI → pR → Prop} (hL : pw_Lay R) (h : w_ev_evaluate a1 a2 I R Q) : Cm (d + 4) m_ev_evaluate [.ref 115, .int a1, .int a2] I R (qz Q) := by
  refine Cm.of [some (.ref 115), some (.int a1), some (.int a2), none, none] (by decide) rfl (Nat.le_of_ble_eq_true rfl) (by simp) (fun E B g hF => ?_)
  unfold w_ev_evaluate at h
  refine PW.aload_n g rfl rfl d_ev_evaluate_0 ?_
  refine PW.iconst g (0) (by decide) d_ev_evaluate_1 ?_
  refine PW.putI g fi_ev_45 rfl rfl rfl d_ev_evaluate_2 ?_
  refine PX.gI (fun I1 eI1 => ?_)
  have h := h _ eI1
  refine PW.aload_n g rfl rfl d_ev_evaluate_5 ?_
  refine PW.iconst g (0) (by decide) d_ev_evaluate_6 ?_
  refine PW.putI g fi_ev_48 rfl rfl rfl d_ev_evaluate_7 ?_
  refine PX.gI (fun I2 eI2 => ?_)
  have h := h _ eI2
  refine PW.iload_n g rfl rfl d_ev_evaluate_10 ?_
  refine PW.istore_n g rfl (L' := [some (.ref 115), some (.int a1), some (.int a2), some (.int a1), none]) (by decide) rfl rfl d_ev_evaluate_11 ?_
  refine PW.iconst g (0) (by decide) d_ev_evaluate_12 ?_
  refine PW.istore g (L' := [some (.ref 115), some (.int a1), some (.int a2), some (.int a1), some (.int (0 : Int32))]) (by decide) rfl rfl d_ev_evaluate_13 ?_
  refine PX.sub [some (.ref 115), none, some (.int a2), some (.int a1), some (.int (0 : Int32))] ⟨rfl, ⟨rfl, ⟨rfl, ⟨rfl, trivial⟩⟩⟩⟩ ?_
  obtain ⟨n1, h⟩ := h
  refine L_ev_evaluate_15 d g hF (fun I4 R2 hL h => ?_) n1 a1 (0 : Int32) I2 R hL h
  refine PW.aload_n g rfl rfl d_ev_evaluate_46 ?_
  refine PW.aload_n g rfl rfl d_ev_evaluate_47 ?_
  refine PX.cVi [] [.ref 115] g rfl ck_ev (c_ev_pop d  hL h) cl_ev_55 (by omega) (by decide) rfl rfl (Nat.le_of_ble_eq_true rfl) d_ev_evaluate_48 (fun v2 I5 R3 hL h => ?_)
  refine PW.putI g fi_ev_59 rfl rfl rfl d_ev_evaluate_51 ?_
  refine PX.gI (fun I6 eI6 => ?_)
  have h := h _ eI6
  refine PW.aload_n g rfl rfl d_ev_evaluate_54 ?_
  refine PW.getI g fi_ev_48 rfl d_ev_evaluate_55 ?_
  refine PW.if_ne g 65 (by decide) d_ev_evaluate_58 (fun c4 => ?_) (fun c4 => ?_)
  · have h := h.1 c4
    refine PW.iconst g (0) (by decide) d_ev_evaluate_65 ?_
    exact PX.zret g hF rfl (Or.inl rfl) d_ev_evaluate_66 hL h
  · have h := h.2 c4
    refine PW.iconst g (1) (by decide) d_ev_evaluate_61 ?_
    refine PW.goto g 66 (by decide) d_ev_evaluate_62 ?_
    exact PX.zret g hF rfl (Or.inr rfl) d_ev_evaluate_66 hL h
def l_ev_enforce_12 (K : pI → pR → Prop) (Q : pI → pR → Prop) : Nat → Int32 → pI → pR → Prop
  | 0, _, _, _ => False
  | n + 1, x3, I, R => (((22 : Int32) ≤ x3 → K I R) ∧ (¬ (22 : Int32) ≤ x3 → (vp_in x3 22 ∧ ∀ I3, I3 = pw_wI I 120 x3.toNatClampNeg (0 : Int32) → l_ev_enforce_12 K Q n (x3 + 1) I3 R)))
set_option maxHeartbeats 4000000 in
set_option maxRecDepth 100000 in
theorem L_ev_enforce_12 (d : Nat) {K : pI → pR → Prop} {Q : pI → pR → Prop} {E : pE} {B : pB} (g : pw_G m_ev_enforce (d + 1) 0 0 E B) (hF : pX (qv Q) E B) (hK : ∀ (I : pI) (R : pR), pw_Lay R → K  I R → PX E B m_ev_enforce.2.2.1 31 [none, none, none, none] [] I R) : ∀ (n : Nat) (x3 : Int32) (I : pI) (R : pR), pw_Lay R → l_ev_enforce_12  K Q n x3 I R → PX E B m_ev_enforce.2.2.1 12 [some (.ref 115), none, none, some (.int x3)] [] I R := by
  intro n
  induction n with
  | zero => intro x3 I R hL h; exact False.elim h
  | succ n ih =>
    intro x3 I R hL h
    refine PW.iload_n g rfl rfl d_ev_enforce_12 ?_
    refine PW.bipush g (22) (by decide) d_ev_enforce_13 ?_
    refine PW.icmp_ge g 31 (by decide) d_ev_enforce_15 (fun c1 => ?_) (fun c1 => ?_)
    · have h := h.1 c1
      refine PX.sub [none, none, none, none] trivial ?_
      exact hK _ _ hL h
    · have h := h.2 c1
      refine PW.aload_n g rfl rfl d_ev_enforce_18 ?_
      refine PW.getR (q := 120) g fi_ev_24 rfl (hL 115 4 4 rfl (by decide)) d_ev_enforce_19 ?_
      refine PW.iload_n g rfl rfl d_ev_enforce_22 ?_
      refine PW.iconst g (0) (by decide) d_ev_enforce_23 ?_
      refine PW.iast g rfl h.1 d_ev_enforce_24 ?_
      refine PX.gI (fun I3 eI3 => ?_)
      have h := h.2 _ eI3
      refine PW.iinc g rfl (show x3 + Int32.ofInt (1) = (x3 + 1) from congrArg (HAdd.hAdd x3) (by decide)) (by decide) rfl (L' := [some (.ref 115), none, none, some (.int (x3 + 1))]) rfl d_ev_enforce_25 ?_
      refine PW.goto g 12 (by decide) d_ev_enforce_28 ?_
      refine PX.sub [some (.ref 115), none, none, some (.int (x3 + 1))] ⟨rfl, ⟨rfl, trivial⟩⟩ ?_
      exact ih _ _ _ hL h
def w_ev_enforce (a1 : Int32) (a2 : Int32) (I : pI) (R : pR) (Q : pI → pR → Prop) : Prop := (∀ I1, I1 = pw_wI I 115 8 a1 → (∀ I2, I2 = pw_wI I1 115 9 a2 → (∃ n1, l_ev_enforce_12 (fun I4 R1 => Q I4 R1) Q n1 (0 : Int32) I2 R)))
set_option maxHeartbeats 4000000 in
set_option maxRecDepth 100000 in
theorem c_ev_enforce (d : Nat) {a1 : Int32} {a2 : Int32} {I : pI} {R : pR} {Q : pI → pR → Prop} (hL : pw_Lay R) (h : w_ev_enforce a1 a2 I R Q) : Cm (d + 1) m_ev_enforce [.ref 115, .int a1, .int a2] I R (qv Q) := by
  refine Cm.of [some (.ref 115), some (.int a1), some (.int a2), none] (by decide) rfl (Nat.le_of_ble_eq_true rfl) (by simp) (fun E B g hF => ?_)
  unfold w_ev_enforce at h
  refine PW.aload_n g rfl rfl d_ev_enforce_0 ?_
  refine PW.iload_n g rfl rfl d_ev_enforce_1 ?_
  refine PW.putI g fi_ev_38 rfl rfl rfl d_ev_enforce_2 ?_
  refine PX.gI (fun I1 eI1 => ?_)
  have h := h _ eI1
  refine PW.aload_n g rfl rfl d_ev_enforce_5 ?_
  refine PW.iload_n g rfl rfl d_ev_enforce_6 ?_
  refine PW.putI g fi_ev_42 rfl rfl rfl d_ev_enforce_7 ?_
  refine PX.gI (fun I2 eI2 => ?_)
  have h := h _ eI2
  refine PW.iconst g (0) (by decide) d_ev_enforce_10 ?_
  refine PW.istore_n g rfl (L' := [some (.ref 115), some (.int a1), some (.int a2), some (.int (0 : Int32))]) (by decide) rfl rfl d_ev_enforce_11 ?_
  refine PX.sub [some (.ref 115), none, none, some (.int (0 : Int32))] ⟨rfl, ⟨rfl, trivial⟩⟩ ?_
  obtain ⟨n1, h⟩ := h
  refine L_ev_enforce_12 d g hF (fun I4 R1 hL h => ?_) n1 (0 : Int32) I2 R hL h
  exact PX.vret g hF rfl d_ev_enforce_31 hL h
def l_ev_forgetNotes_2 (K : pI → pR → Prop) (Q : pI → pR → Prop) : Nat → Int32 → pI → pR → Prop
  | 0, _, _, _ => False
  | n + 1, x1, I, R => (((120 : Int32) ≤ x1 → K I R) ∧ (¬ (120 : Int32) ≤ x1 → (vp_in x1 120 ∧ ∀ I1, I1 = pw_wI I 117 x1.toNatClampNeg (0 : Int32) → l_ev_forgetNotes_2 K Q n (x1 + 1) I1 R)))
set_option maxHeartbeats 4000000 in
set_option maxRecDepth 100000 in
theorem L_ev_forgetNotes_2 (d : Nat) {K : pI → pR → Prop} {Q : pI → pR → Prop} {E : pE} {B : pB} (g : pw_G m_ev_forgetNotes (d + 1) 0 0 E B) (hF : pX (qv Q) E B) (hK : ∀ (I : pI) (R : pR), pw_Lay R → K  I R → PX E B m_ev_forgetNotes.2.2.1 21 [none, none] [] I R) : ∀ (n : Nat) (x1 : Int32) (I : pI) (R : pR), pw_Lay R → l_ev_forgetNotes_2  K Q n x1 I R → PX E B m_ev_forgetNotes.2.2.1 2 [some (.ref 115), some (.int x1)] [] I R := by
  intro n
  induction n with
  | zero => intro x1 I R hL h; exact False.elim h
  | succ n ih =>
    intro x1 I R hL h
    refine PW.iload_n g rfl rfl d_ev_forgetNotes_2 ?_
    refine PW.bipush g (120) (by decide) d_ev_forgetNotes_3 ?_
    refine PW.icmp_ge g 21 (by decide) d_ev_forgetNotes_5 (fun c1 => ?_) (fun c1 => ?_)
    · have h := h.1 c1
      refine PX.sub [none, none] trivial ?_
      exact hK _ _ hL h
    · have h := h.2 c1
      refine PW.aload_n g rfl rfl d_ev_forgetNotes_8 ?_
      refine PW.getR (q := 117) g fi_ev_15 rfl (hL 115 4 1 rfl (by decide)) d_ev_forgetNotes_9 ?_
      refine PW.iload_n g rfl rfl d_ev_forgetNotes_12 ?_
      refine PW.iconst g (0) (by decide) d_ev_forgetNotes_13 ?_
      refine PW.iast g rfl h.1 d_ev_forgetNotes_14 ?_
      refine PX.gI (fun I1 eI1 => ?_)
      have h := h.2 _ eI1
      refine PW.iinc g rfl (show x1 + Int32.ofInt (1) = (x1 + 1) from congrArg (HAdd.hAdd x1) (by decide)) (by decide) rfl (L' := [some (.ref 115), some (.int (x1 + 1))]) rfl d_ev_forgetNotes_15 ?_
      refine PW.goto g 2 (by decide) d_ev_forgetNotes_18 ?_
      refine PX.sub [some (.ref 115), some (.int (x1 + 1))] ⟨rfl, ⟨rfl, trivial⟩⟩ ?_
      exact ih _ _ _ hL h
def w_ev_forgetNotes (I : pI) (R : pR) (Q : pI → pR → Prop) : Prop := (∃ n1, l_ev_forgetNotes_2 (fun I2 R1 => Q I2 R1) Q n1 (0 : Int32) I R)
set_option maxHeartbeats 4000000 in
set_option maxRecDepth 100000 in
theorem c_ev_forgetNotes (d : Nat) {I : pI} {R : pR} {Q : pI → pR → Prop} (hL : pw_Lay R) (h : w_ev_forgetNotes  I R Q) : Cm (d + 1) m_ev_forgetNotes [.ref 115] I R (qv Q) := by
  refine Cm.of [some (.ref 115), none] (by decide) rfl (Nat.le_of_ble_eq_true rfl) (by simp) (fun E B g hF => ?_)
  unfold w_ev_forgetNotes at h
  refine PW.iconst g (0) (by decide) d_ev_forgetNotes_0 ?_
  refine PW.istore_n g rfl (L' := [some (.ref 115), some (.int (0 : Int32))]) (by decide) rfl rfl d_ev_forgetNotes_1 ?_
  refine PX.sub [some (.ref 115), some (.int (0 : Int32))] ⟨rfl, ⟨rfl, trivial⟩⟩ ?_
  obtain ⟨n1, h⟩ := h
  refine L_ev_forgetNotes_2 d g hF (fun I2 R1 hL h => ?_) n1 (0 : Int32) I R hL h
  exact PX.vret g hF rfl d_ev_forgetNotes_21 hL h
