def w_sr_clear (I : pI) (R : pR) (Q : pI → pR → Prop) : Prop := (∀ I1, I1 = pw_wI I 0 5 (0 : Int32) → Q I1 R)
set_option maxHeartbeats 4000000 in
set_option maxRecDepth 100000 in
theorem c_sr_clear (d : Nat) {I : pI} {R : pR} {Q : pI → pR → Prop} (hL : pw_Lay R) (h : w_sr_clear  I R Q) : Cm (d + 1) m_sr_clear [.ref 0] I R (qv Q) := by
  refine Cm.of [some (.ref 0)] (by decide) rfl (Nat.le_of_ble_eq_true rfl) (by simp) (fun E B g hF => ?_)
  unfold w_sr_clear at h
  refine PW.aload_n g rfl rfl d_sr_clear_0 ?_
  refine PW.iconst g (0) (by decide) d_sr_clear_1 ?_
  refine PW.putI g fi_sr_61 rfl rfl rfl d_sr_clear_2 ?_
  refine PX.gI (fun I1 eI1 => ?_)
  have h := h _ eI1
  exact PX.vret g hF rfl d_sr_clear_5 hL h
def w_sr_judge (I : pI) (R : pR) (Q : Int32 → pI → pR → Prop) : Prop := (∃ q1, R 0 6 = some q1 ∧ pSH[q1]? = some (0, 5) ∧ (w_ps_read 1 q1 (I 0 5) I R (fun v1 I1 R1 => ((v1 < 0 → (∃ q2, R1 0 6 = some q2 ∧ pSH[q2]? = some (0, 5) ∧ (w_ck_check q2 I1 R1 (fun I2 R2 => (((I2 2 2) = 0 → (∀ I3, I3 = pw_wI I2 0 9 (-1 : Int32) → (∃ q3, R2 0 7 = some q3 ∧ pSH[q3]? = some (0, 5) ∧ (∃ q4, R2 0 6 = some q4 ∧ pSH[q4]? = some (0, 5) ∧ (∀ R3, R3 = pw_wR R2 0 7 (some q4) → (∀ R4, R4 = pw_wR R3 0 6 (some q3) → (∀ I4, I4 = pw_wI I3 0 8 (1 : Int32) → Q (0 : Int32) I4 R4))))))) ∧ (¬ (I2 2 2) = 0 → (∀ I5, I5 = pw_wI I2 0 9 (I2 2 3) → Q (I5 2 2) I5 R2))))))) ∧ (¬ v1 < 0 → (∀ I6, I6 = pw_wI I1 0 9 v1 → Q (1 : Int32) I6 R1))))))
set_option maxHeartbeats 4000000 in
set_option maxRecDepth 100000 in
theorem c_sr_judge (d : Nat) {I : pI} {R : pR} {Q : Int32 → pI → pR → Prop} (hL : pw_Lay R) (h : w_sr_judge  I R Q) : Cm (d + 71) m_sr_judge [.ref 0] I R (qi Q) := by
  refine Cm.of [some (.ref 0), none, none] (by decide) rfl (Nat.le_of_ble_eq_true rfl) (by simp) (fun E B g hF => ?_)
  unfold w_sr_judge at h
  refine PW.aload_n g rfl rfl d_sr_judge_0 ?_
  refine PW.getR (q := 108) g fi_sr_48 rfl (hL 0 0 3 rfl (by decide)) d_sr_judge_1 ?_
  refine PW.aload_n g rfl rfl d_sr_judge_4 ?_
  refine PW.getR (q := 1) g fi_sr_11 rfl (hL 0 0 0 rfl (by decide)) d_sr_judge_5 ?_
  refine PW.aload_n g rfl rfl d_sr_judge_8 ?_
  refine PW.getI g fi_sr_61 rfl d_sr_judge_9 ?_
  refine PW.aload_n g rfl rfl d_sr_judge_12 ?_
  obtain ⟨q1, eq1, hq1, h⟩ := h
  refine PW.getR (q := q1) g fi_sr_36 rfl eq1 d_sr_judge_13 ?_
  refine PX.cVi [.ref 1, .int (I 0 5), .ref q1] [] g rfl ck_ps (c_ps_read d rfl hq1 hL h) cl_sr_72 (by omega) (by decide) rfl rfl (Nat.le_of_ble_eq_true rfl) d_sr_judge_16 (fun v1 I1 R1 hL h => ?_)
  refine PW.istore_n g rfl (L' := [some (.ref 0), some (.int v1), none]) (by decide) rfl rfl d_sr_judge_19 ?_
  refine PW.iload_n g rfl rfl d_sr_judge_20 ?_
  refine PW.if_lt g 31 (by decide) d_sr_judge_21 (fun c1 => ?_) (fun c1 => ?_)
  · have h := h.1 c1
    refine PW.aload_n g rfl rfl d_sr_judge_31 ?_
    refine PW.getR (q := 2) g fi_sr_18 rfl (hL 0 0 1 rfl (by decide)) d_sr_judge_32 ?_
    refine PW.aload_n g rfl rfl d_sr_judge_35 ?_
    obtain ⟨q2, eq2, hq2, h⟩ := h
    refine PW.getR (q := q2) g fi_sr_36 rfl eq2 d_sr_judge_36 ?_
    refine PX.cVv [.ref q2] [] g rfl ck_ck (c_ck_check d hq2 hL h) cl_sr_76 (by omega) (by decide) rfl rfl (Nat.le_of_ble_eq_true rfl) d_sr_judge_39 (fun I2 R2 hL h => ?_)
    refine PW.aload_n g rfl rfl d_sr_judge_42 ?_
    refine PW.getR (q := 2) g fi_sr_18 rfl (hL 0 0 1 rfl (by decide)) d_sr_judge_43 ?_
    refine PW.getI g fi_sr_79 rfl d_sr_judge_46 ?_
    refine PW.if_eq g 71 (by decide) d_sr_judge_49 (fun c2 => ?_) (fun c2 => ?_)
    · have h := h.1 c2
      refine PW.aload_n g rfl rfl d_sr_judge_71 ?_
      refine PW.iconst g (-1) (by decide) d_sr_judge_72 ?_
      refine PW.putI g fi_sr_28 rfl rfl rfl d_sr_judge_73 ?_
      refine PX.gI (fun I3 eI3 => ?_)
      have h := h _ eI3
      refine PW.aload_n g rfl rfl d_sr_judge_76 ?_
      obtain ⟨q3, eq3, hq3, h⟩ := h
      refine PW.getR (q := q3) g fi_sr_40 rfl eq3 d_sr_judge_77 ?_
      refine PW.astore_n g rfl (L' := [some (.ref 0), some (.int v1), some (.ref q3)]) (by decide) rfl rfl d_sr_judge_80 ?_
      refine PW.aload_n g rfl rfl d_sr_judge_81 ?_
      refine PW.aload_n g rfl rfl d_sr_judge_82 ?_
      obtain ⟨q4, eq4, hq4, h⟩ := h
      refine PW.getR (q := q4) g fi_sr_36 rfl eq4 d_sr_judge_83 ?_
      refine PW.putR g fi_sr_40 rfl rfl rfl d_sr_judge_86 ?_
      have hL := pw_Lay.put (k := 7) (q := some q4) hL (t := 0) (ci := 0) rfl (by decide)
      refine PX.gR (fun R3 eR3 => ?_)
      have h := h _ eR3
      rw [← eR3] at hL
      refine PW.aload_n g rfl rfl d_sr_judge_89 ?_
      refine PW.aload_n g rfl rfl d_sr_judge_90 ?_
      refine PW.putR g fi_sr_36 rfl rfl rfl d_sr_judge_91 ?_
      have hL := pw_Lay.put (k := 6) (q := some q3) hL (t := 0) (ci := 0) rfl (by decide)
      refine PX.gR (fun R4 eR4 => ?_)
      have h := h _ eR4
      rw [← eR4] at hL
      refine PW.aload_n g rfl rfl d_sr_judge_94 ?_
      refine PW.iconst g (1) (by decide) d_sr_judge_95 ?_
      refine PW.putI g fi_sr_85 rfl (pw_nb (Or.inr rfl)) (pw_fb (Or.inr rfl)) d_sr_judge_96 ?_
      refine PX.gI (fun I4 eI4 => ?_)
      have h := h _ eI4
      refine PW.iconst g (0) (by decide) d_sr_judge_99 ?_
      exact PX.iret g hF rfl d_sr_judge_100 hL h
    · have h := h.2 c2
      refine PW.aload_n g rfl rfl d_sr_judge_52 ?_
      refine PW.aload_n g rfl rfl d_sr_judge_53 ?_
      refine PW.getR (q := 2) g fi_sr_18 rfl (hL 0 0 1 rfl (by decide)) d_sr_judge_54 ?_
      refine PW.getI g fi_sr_82 rfl d_sr_judge_57 ?_
      refine PW.putI g fi_sr_28 rfl rfl rfl d_sr_judge_60 ?_
      refine PX.gI (fun I5 eI5 => ?_)
      have h := h _ eI5
      refine PW.aload_n g rfl rfl d_sr_judge_63 ?_
      refine PW.getR (q := 2) g fi_sr_18 rfl (hL 0 0 1 rfl (by decide)) d_sr_judge_64 ?_
      refine PW.getI g fi_sr_79 rfl d_sr_judge_67 ?_
      exact PX.iret g hF rfl d_sr_judge_70 hL h
  · have h := h.2 c1
    refine PW.aload_n g rfl rfl d_sr_judge_24 ?_
    refine PW.iload_n g rfl rfl d_sr_judge_25 ?_
    refine PW.putI g fi_sr_28 rfl rfl rfl d_sr_judge_26 ?_
    refine PX.gI (fun I6 eI6 => ?_)
    have h := h _ eI6
    refine PW.iconst g (1) (by decide) d_sr_judge_29 ?_
    exact PX.iret g hF rfl d_sr_judge_30 hL h
def w_sr_place (I : pI) (R : pR) (Q : Int32 → pI → pR → Prop) : Prop := Q (I 0 9) I R
set_option maxHeartbeats 4000000 in
set_option maxRecDepth 100000 in
theorem c_sr_place (d : Nat) {I : pI} {R : pR} {Q : Int32 → pI → pR → Prop} (hL : pw_Lay R) (h : w_sr_place  I R Q) : Cm (d + 1) m_sr_place [.ref 0] I R (qi Q) := by
  refine Cm.of [some (.ref 0)] (by decide) rfl (Nat.le_of_ble_eq_true rfl) (by simp) (fun E B g hF => ?_)
  unfold w_sr_place at h
  refine PW.aload_n g rfl rfl d_sr_place_0 ?_
  refine PW.getI g fi_sr_28 rfl d_sr_place_1 ?_
  exact PX.iret g hF rfl d_sr_place_4 hL h
def l_sr_run_43 (K : Int32 → pI → pR → Prop) (Q : Int32 → pI → pR → Prop) : Nat → Int32 → Int32 → pI → pR → Prop
  | 0, _, _, _, _ => False
  | n + 1, x1, x2, I, R => (((I 0 10) ≤ x2 → K x1 I R) ∧ (¬ (I 0 10) ≤ x2 → (((6 : Int32) ≤ x2 → K x1 I R) ∧ (¬ (6 : Int32) ≤ x2 → (∃ q3, R 0 7 = some q3 ∧ pSH[q3]? = some (0, 5) ∧ (vp_in x2 6 ∧ ∃ q4, R 5 x2.toNatClampNeg = some q4 ∧ pSH[q4]? = some (0, 6) ∧ (w_rn_iterate q3 q4 x2 I R (fun I2 R1 => (vp_in x2 6 ∧ ∃ q5, R1 5 x2.toNatClampNeg = some q5 ∧ pSH[q5]? = some (0, 6) ∧ (((I2 q5 3) = 0 → l_sr_run_43 K Q n x1 (x2 + 1) I2 R1) ∧ (¬ (I2 q5 3) = 0 → l_sr_run_43 K Q n (x1 + 1) (x2 + 1) I2 R1)))))))))))
set_option maxHeartbeats 4000000 in
set_option maxRecDepth 100000 in
theorem L_sr_run_43 (d : Nat) {K : Int32 → pI → pR → Prop} {Q : Int32 → pI → pR → Prop} {E : pE} {B : pB} (g : pw_G m_sr_run (d + 8) 0 0 E B) (hF : pX (qi Q) E B) (hK : ∀ (y1 : Int32) (I : pI) (R : pR), pw_Lay R → K y1 I R → PX E B m_sr_run.2.2.1 96 [none, some (.int y1), none] [] I R) : ∀ (n : Nat) (x1 : Int32) (x2 : Int32) (I : pI) (R : pR), pw_Lay R → l_sr_run_43  K Q n x1 x2 I R → PX E B m_sr_run.2.2.1 43 [some (.ref 0), some (.int x1), some (.int x2)] [] I R := by
  intro n
  induction n with
  | zero => intro x1 x2 I R hL h; exact False.elim h
  | succ n ih =>
    intro x1 x2 I R hL h
    refine PW.iload_n g rfl rfl d_sr_run_43 ?_
    refine PW.aload_n g rfl rfl d_sr_run_44 ?_
    refine PW.getI g fi_sr_98 rfl d_sr_run_45 ?_
    refine PW.icmp_ge g 96 (by decide) d_sr_run_48 (fun c3 => ?_) (fun c3 => ?_)
    · have h := h.1 c3
      refine PX.sub [none, some (.int x1), none] ⟨rfl, trivial⟩ ?_
      exact hK _ _ _ hL h
    · have h := h.2 c3
      refine PW.iload_n g rfl rfl d_sr_run_51 ?_
      refine PW.bipush g (6) (by decide) d_sr_run_52 ?_
      refine PW.icmp_ge g 96 (by decide) d_sr_run_54 (fun c4 => ?_) (fun c4 => ?_)
      · have h := h.1 c4
        refine PX.sub [none, some (.int x1), none] ⟨rfl, trivial⟩ ?_
        exact hK _ _ _ hL h
      · have h := h.2 c4
        refine PW.aload_n g rfl rfl d_sr_run_57 ?_
        refine PW.getR (q := 114) g fi_sr_57 rfl (hL 0 0 4 rfl (by decide)) d_sr_run_58 ?_
        refine PW.aload_n g rfl rfl d_sr_run_61 ?_
        obtain ⟨q3, eq3, hq3, h⟩ := h
        refine PW.getR (q := q3) g fi_sr_40 rfl eq3 d_sr_run_62 ?_
        refine PW.iload_n g rfl rfl d_sr_run_65 ?_
        refine PW.aload_n g rfl rfl d_sr_run_66 ?_
        refine PW.getR (q := 5) g fi_sr_24 rfl (hL 0 0 2 rfl (by decide)) d_sr_run_67 ?_
        refine PW.iload_n g rfl rfl d_sr_run_70 ?_
        obtain ⟨hin, q4, eq4, hq4, h⟩ := h
        refine PX.aald g rfl hin eq4 d_sr_run_71 ?_
        refine PX.cVv [.ref q3, .int x2, .ref q4] [] g rfl ck_rn (c_rn_iterate d hq3 hq4 hL h) cl_sr_101 (by omega) (by decide) rfl rfl (Nat.le_of_ble_eq_true rfl) d_sr_run_72 (fun I2 R1 hL h => ?_)
        refine PW.aload_n g rfl rfl d_sr_run_75 ?_
        refine PW.getR (q := 5) g fi_sr_24 rfl (hL 0 0 2 rfl (by decide)) d_sr_run_76 ?_
        refine PW.iload_n g rfl rfl d_sr_run_79 ?_
        obtain ⟨hin, q5, eq5, hq5, h⟩ := h
        refine PX.aald g rfl hin eq5 d_sr_run_80 ?_
        refine PW.getI g fi_sr_105 hq5 d_sr_run_81 ?_
        refine PW.if_eq g 90 (by decide) d_sr_run_84 (fun c5 => ?_) (fun c5 => ?_)
        · have h := h.1 c5
          refine PW.iinc g rfl (show x2 + Int32.ofInt (1) = (x2 + 1) from congrArg (HAdd.hAdd x2) (by decide)) (by decide) rfl (L' := [some (.ref 0), some (.int x1), some (.int (x2 + 1))]) rfl d_sr_run_90 ?_
          refine PW.goto g 43 (by decide) d_sr_run_93 ?_
          refine PX.sub [some (.ref 0), some (.int x1), some (.int (x2 + 1))] ⟨rfl, ⟨rfl, ⟨rfl, trivial⟩⟩⟩ ?_
          exact ih _ _ _ _ hL h
        · have h := h.2 c5
          refine PW.iinc g rfl (show x1 + Int32.ofInt (1) = (x1 + 1) from congrArg (HAdd.hAdd x1) (by decide)) (by decide) rfl (L' := [some (.ref 0), some (.int (x1 + 1)), some (.int x2)]) rfl d_sr_run_87 ?_
          refine PW.iinc g rfl (show x2 + Int32.ofInt (1) = (x2 + 1) from congrArg (HAdd.hAdd x2) (by decide)) (by decide) rfl (L' := [some (.ref 0), some (.int (x1 + 1)), some (.int (x2 + 1))]) rfl d_sr_run_90 ?_
          refine PW.goto g 43 (by decide) d_sr_run_93 ?_
          refine PX.sub [some (.ref 0), some (.int (x1 + 1)), some (.int (x2 + 1))] ⟨rfl, ⟨rfl, ⟨rfl, trivial⟩⟩⟩ ?_
          exact ih _ _ _ _ hL h
def w_sr_run (I : pI) (R : pR) (Q : Int32 → pI → pR → Prop) : Prop := ((¬ (I 0 8) = 0 → (∃ q1, R 0 7 = some q1 ∧ pSH[q1]? = some (0, 5) ∧ ((¬ (I q1 9) = 0 → (∃ q2, R 0 7 = some q2 ∧ pSH[q2]? = some (0, 5) ∧ (∀ I1, I1 = pw_wI I 0 10 (if (6 : Int32) < (I q2 9) then (6 : Int32) else (I q2 9)) → (∃ n1, l_sr_run_43 (fun y1 I3 R2 => Q y1 I3 R2) Q n1 (0 : Int32) (0 : Int32) I1 R)))) ∧ ((I q1 9) = 0 → (∀ I4, I4 = pw_wI I 0 10 (1 : Int32) → (∃ n2, l_sr_run_43 (fun y2 I5 R3 => Q y2 I5 R3) Q n2 (0 : Int32) (0 : Int32) I4 R)))))) ∧ ((I 0 8) = 0 → Q (-1 : Int32) I R))
set_option maxHeartbeats 4000000 in
set_option maxRecDepth 100000 in
theorem c_sr_run (d : Nat) {I : pI} {R : pR} {Q : Int32 → pI → pR → Prop} (hL : pw_Lay R) (h : w_sr_run  I R Q) : Cm (d + 8) m_sr_run [.ref 0] I R (qi Q) := by
  refine Cm.of [some (.ref 0), none, none] (by decide) rfl (Nat.le_of_ble_eq_true rfl) (by simp) (fun E B g hF => ?_)
  unfold w_sr_run at h
  refine PW.aload_n g rfl rfl d_sr_run_0 ?_
  refine PW.getI g fi_sr_85 rfl d_sr_run_1 ?_
  refine PW.if_ne g 9 (by decide) d_sr_run_4 (fun c1 => ?_) (fun c1 => ?_)
  · have h := h.1 c1
    refine PW.aload_n g rfl rfl d_sr_run_9 ?_
    refine PW.aload_n g rfl rfl d_sr_run_10 ?_
    obtain ⟨q1, eq1, hq1, h⟩ := h
    refine PW.getR (q := q1) g fi_sr_40 rfl eq1 d_sr_run_11 ?_
    refine PW.getI g fi_sr_89 hq1 d_sr_run_14 ?_
    refine PW.if_ne g 24 (by decide) d_sr_run_17 (fun c2 => ?_) (fun c2 => ?_)
    · have h := h.1 c2
      refine PW.aload_n g rfl rfl d_sr_run_24 ?_
      obtain ⟨q2, eq2, hq2, h⟩ := h
      refine PW.getR (q := q2) g fi_sr_40 rfl eq2 d_sr_run_25 ?_
      refine PW.getI g fi_sr_89 hq2 d_sr_run_28 ?_
      refine PW.bipush g (6) (by decide) d_sr_run_31 ?_
      refine PX.mmin g (pw_gw 897 (by decide +kernel) (by decide +kernel)) (by omega) rfl (Nat.le_of_ble_eq_true rfl) d_sr_run_33 ?_
      refine PW.putI g fi_sr_98 rfl rfl rfl d_sr_run_36 ?_
      refine PX.gI (fun I1 eI1 => ?_)
      have h := h _ eI1
      refine PW.iconst g (0) (by decide) d_sr_run_39 ?_
      refine PW.istore_n g rfl (L' := [some (.ref 0), some (.int (0 : Int32)), none]) (by decide) rfl rfl d_sr_run_40 ?_
      refine PW.iconst g (0) (by decide) d_sr_run_41 ?_
      refine PW.istore_n g rfl (L' := [some (.ref 0), some (.int (0 : Int32)), some (.int (0 : Int32))]) (by decide) rfl rfl d_sr_run_42 ?_
      refine PX.sub [some (.ref 0), some (.int (0 : Int32)), some (.int (0 : Int32))] ⟨rfl, ⟨rfl, ⟨rfl, trivial⟩⟩⟩ ?_
      obtain ⟨n1, h⟩ := h
      refine L_sr_run_43 d g hF (fun y1 I3 R2 hL h => ?_) n1 (0 : Int32) (0 : Int32) I1 R hL h
      refine PW.iload_n g rfl rfl d_sr_run_96 ?_
      exact PX.iret g hF rfl d_sr_run_97 hL h
    · have h := h.2 c2
      refine PW.iconst g (1) (by decide) d_sr_run_20 ?_
      refine PW.goto g 36 (by decide) d_sr_run_21 ?_
      refine PW.putI g fi_sr_98 rfl rfl rfl d_sr_run_36 ?_
      refine PX.gI (fun I4 eI4 => ?_)
      have h := h _ eI4
      refine PW.iconst g (0) (by decide) d_sr_run_39 ?_
      refine PW.istore_n g rfl (L' := [some (.ref 0), some (.int (0 : Int32)), none]) (by decide) rfl rfl d_sr_run_40 ?_
      refine PW.iconst g (0) (by decide) d_sr_run_41 ?_
      refine PW.istore_n g rfl (L' := [some (.ref 0), some (.int (0 : Int32)), some (.int (0 : Int32))]) (by decide) rfl rfl d_sr_run_42 ?_
      refine PX.sub [some (.ref 0), some (.int (0 : Int32)), some (.int (0 : Int32))] ⟨rfl, ⟨rfl, ⟨rfl, trivial⟩⟩⟩ ?_
      obtain ⟨n2, h⟩ := h
      refine L_sr_run_43 d g hF (fun y2 I5 R3 hL h => ?_) n2 (0 : Int32) (0 : Int32) I4 R hL h
      refine PW.iload_n g rfl rfl d_sr_run_96 ?_
      exact PX.iret g hF rfl d_sr_run_97 hL h
  · have h := h.2 c1
    refine PW.iconst g (-1) (by decide) d_sr_run_7 ?_
    exact PX.iret g hF rfl d_sr_run_8 hL h
def w_sr_iterations (I : pI) (R : pR) (Q : Int32 → pI → pR → Prop) : Prop := Q (I 0 10) I R
set_option maxHeartbeats 4000000 in
set_option maxRecDepth 100000 in
theorem c_sr_iterations (d : Nat) {I : pI} {R : pR} {Q : Int32 → pI → pR → Prop} (hL : pw_Lay R) (h : w_sr_iterations  I R Q) : Cm (d + 1) m_sr_iterations [.ref 0] I R (qi Q) := by
  refine Cm.of [some (.ref 0)] (by decide) rfl (Nat.le_of_ble_eq_true rfl) (by simp) (fun E B g hF => ?_)
  unfold w_sr_iterations at h
  refine PW.aload_n g rfl rfl d_sr_iterations_0 ?_
  refine PW.getI g fi_sr_98 rfl d_sr_iterations_1 ?_
  exact PX.iret g hF rfl d_sr_iterations_4 hL h
def w_sr_isIteration (a1 : Int32) (I : pI) (R : pR) (Q : Int32 → pI → pR → Prop) : Prop := ((a1 < 0 → Q (0 : Int32) I R) ∧ (¬ a1 < 0 → (((I 0 10) ≤ a1 → Q (0 : Int32) I R) ∧ (¬ (I 0 10) ≤ a1 → (((6 : Int32) ≤ a1 → Q (0 : Int32) I R) ∧ (¬ (6 : Int32) ≤ a1 → Q (1 : Int32) I R))))))
set_option maxHeartbeats 4000000 in
set_option maxRecDepth 100000 in
theorem c_sr_isIteration (d : Nat) {a1 : Int32} {I : pI} {R : pR} {Q : Int32 → pI → pR → Prop} (hL : pw_Lay R) (h : w_sr_isIteration a1 I R Q) : Cm (d + 1) m_sr_isIteration [.ref 0, .int a1] I R (qz Q) := by
  refine Cm.of [some (.ref 0), some (.int a1)] (by decide) rfl (Nat.le_of_ble_eq_true rfl) (by simp) (fun E B g hF => ?_)
  unfold w_sr_isIteration at h
  refine PW.iload_n g rfl rfl d_sr_isIteration_0 ?_
  refine PW.if_lt g 22 (by decide) d_sr_isIteration_1 (fun c1 => ?_) (fun c1 => ?_)
  · have h := h.1 c1
    refine PW.iconst g (0) (by decide) d_sr_isIteration_22 ?_
    exact PX.zret g hF rfl (Or.inl rfl) d_sr_isIteration_23 hL h
  · have h := h.2 c1
    refine PW.iload_n g rfl rfl d_sr_isIteration_4 ?_
    refine PW.aload_n g rfl rfl d_sr_isIteration_5 ?_
    refine PW.getI g fi_sr_98 rfl d_sr_isIteration_6 ?_
    refine PW.icmp_ge g 22 (by decide) d_sr_isIteration_9 (fun c2 => ?_) (fun c2 => ?_)
    · have h := h.1 c2
      refine PW.iconst g (0) (by decide) d_sr_isIteration_22 ?_
      exact PX.zret g hF rfl (Or.inl rfl) d_sr_isIteration_23 hL h
    · have h := h.2 c2
      refine PW.iload_n g rfl rfl d_sr_isIteration_12 ?_
      refine PW.bipush g (6) (by decide) d_sr_isIteration_13 ?_
      refine PW.icmp_ge g 22 (by decide) d_sr_isIteration_15 (fun c3 => ?_) (fun c3 => ?_)
      · have h := h.1 c3
        refine PW.iconst g (0) (by decide) d_sr_isIteration_22 ?_
        exact PX.zret g hF rfl (Or.inl rfl) d_sr_isIteration_23 hL h
      · have h := h.2 c3
        refine PW.iconst g (1) (by decide) d_sr_isIteration_18 ?_
        refine PW.goto g 23 (by decide) d_sr_isIteration_19 ?_
        exact PX.zret g hF rfl (Or.inr rfl) d_sr_isIteration_23 hL h
def w_sr_status (a1 : Int32) (I : pI) (R : pR) (Q : Int32 → pI → pR → Prop) : Prop := (w_sr_isIteration a1 I R (fun v1 I1 R1 => ((v1 = 0 → Q (-1 : Int32) I1 R1) ∧ (¬ v1 = 0 → (vp_in a1 6 ∧ ∃ q1, R1 5 a1.toNatClampNeg = some q1 ∧ pSH[q1]? = some (0, 6) ∧ Q (I1 q1 3) I1 R1)))))
set_option maxHeartbeats 4000000 in
set_option maxRecDepth 100000 in
theorem c_sr_status (d : Nat) {a1 : Int32} {I : pI} {R : pR} {Q : Int32 → pI → pR → Prop} (hL : pw_Lay R) (h : w_sr_status a1 I R Q) : Cm (d + 2) m_sr_status [.ref 0, .int a1] I R (qi Q) := by
  refine Cm.of [some (.ref 0), some (.int a1)] (by decide) rfl (Nat.le_of_ble_eq_true rfl) (by simp) (fun E B g hF => ?_)
  unfold w_sr_status at h
  refine PW.aload_n g rfl rfl d_sr_status_0 ?_
  refine PW.iload_n g rfl rfl d_sr_status_1 ?_
  refine PX.cVz [.int a1] [] g rfl ck_sr (c_sr_isIteration d  hL h) cl_sr_108 (by omega) (by decide) rfl rfl (Nat.le_of_ble_eq_true rfl) d_sr_status_2 (fun v1 I1 R1 hL hzv1 h => ?_)
  refine PW.if_eq g 20 (by decide) d_sr_status_5 (fun c1 => ?_) (fun c1 => ?_)
  · have h := h.1 c1
    refine PW.iconst g (-1) (by decide) d_sr_status_20 ?_
    exact PX.iret g hF rfl d_sr_status_21 hL h
  · have h := h.2 c1
    refine PW.aload_n g rfl rfl d_sr_status_8 ?_
    refine PW.getR (q := 5) g fi_sr_24 rfl (hL 0 0 2 rfl (by decide)) d_sr_status_9 ?_
    refine PW.iload_n g rfl rfl d_sr_status_12 ?_
    obtain ⟨hin, q1, eq1, hq1, h⟩ := h
    refine PX.aald g rfl hin eq1 d_sr_status_13 ?_
    refine PW.getI g fi_sr_105 hq1 d_sr_status_14 ?_
    refine PW.goto g 21 (by decide) d_sr_status_17 ?_
    exact PX.iret g hF rfl d_sr_status_21 hL h
def w_sr_failedAt (a1 : Int32) (I : pI) (R : pR) (Q : Int32 → pI → pR → Prop) : Prop := (w_sr_isIteration a1 I R (fun v1 I1 R1 => ((v1 = 0 → Q (-1 : Int32) I1 R1) ∧ (¬ v1 = 0 → (vp_in a1 6 ∧ ∃ q1, R1 5 a1.toNatClampNeg = some q1 ∧ pSH[q1]? = some (0, 6) ∧ Q (I1 q1 4) I1 R1)))))
set_option maxHeartbeats 4000000 in
set_option maxRecDepth 100000 in
theorem c_sr_failedAt (d : Nat) {a1 : Int32} {I : pI} {R : pR} {Q : Int32 → pI → pR → Prop} (hL : pw_Lay R) (h : w_sr_failedAt a1 I R Q) : Cm (d + 2) m_sr_failedAt [.ref 0, .int a1] I R (qi Q) := by
  refine Cm.of [some (.ref 0), some (.int a1)] (by decide) rfl (Nat.le_of_ble_eq_true rfl) (by simp) (fun E B g hF => ?_)
  unfold w_sr_failedAt at h
  refine PW.aload_n g rfl rfl d_sr_failedAt_0 ?_
  refine PW.iload_n g rfl rfl d_sr_failedAt_1 ?_
  refine PX.cVz [.int a1] [] g rfl ck_sr (c_sr_isIteration d  hL h) cl_sr_108 (by omega) (by decide) rfl rfl (Nat.le_of_ble_eq_true rfl) d_sr_failedAt_2 (fun v1 I1 R1 hL hzv1 h => ?_)
  refine PW.if_eq g 20 (by decide) d_sr_failedAt_5 (fun c1 => ?_) (fun c1 => ?_)
  · have h := h.1 c1
    refine PW.iconst g (-1) (by decide) d_sr_failedAt_20 ?_
    exact PX.iret g hF rfl d_sr_failedAt_21 hL h
  · have h := h.2 c1
    refine PW.aload_n g rfl rfl d_sr_failedAt_8 ?_
    refine PW.getR (q := 5) g fi_sr_24 rfl (hL 0 0 2 rfl (by decide)) d_sr_failedAt_9 ?_
    refine PW.iload_n g rfl rfl d_sr_failedAt_12 ?_
    obtain ⟨hin, q1, eq1, hq1, h⟩ := h
    refine PX.aald g rfl hin eq1 d_sr_failedAt_13 ?_
    refine PW.getI g fi_sr_112 hq1 d_sr_failedAt_14 ?_
    refine PW.goto g 21 (by decide) d_sr_failedAt_17 ?_
    exact PX.iret g hF rfl d_sr_failedAt_21 hL h
def w_sr_second (a1 : Int32) (I : pI) (R : pR) (Q : Int32 → pI → pR → Prop) : Prop := (w_sr_isIteration a1 I R (fun v1 I1 R1 => ((v1 = 0 → Q (0 : Int32) I1 R1) ∧ (¬ v1 = 0 → (vp_in a1 6 ∧ ∃ q1, R1 5 a1.toNatClampNeg = some q1 ∧ pSH[q1]? = some (0, 6) ∧ (((I1 q1 5) = 0 → Q (0 : Int32) I1 R1) ∧ (¬ (I1 q1 5) = 0 → Q (1 : Int32) I1 R1)))))))
set_option maxHeartbeats 4000000 in
set_option maxRecDepth 100000 in
theorem c_sr_second (d : Nat) {a1 : Int32} {I : pI} {R : pR} {Q : Int32 → pI → pR → Prop} (hL : pw_Lay R) (h : w_sr_second a1 I R Q) : Cm (d + 2) m_sr_second [.ref 0, .int a1] I R (qz Q) := by
  refine Cm.of [some (.ref 0), some (.int a1)] (by decide) rfl (Nat.le_of_ble_eq_true rfl) (by simp) (fun E B g hF => ?_)
  unfold w_sr_second at h
  refine PW.aload_n g rfl rfl d_sr_second_0 ?_
  refine PW.iload_n g rfl rfl d_sr_second_1 ?_
  refine PX.cVz [.int a1] [] g rfl ck_sr (c_sr_isIteration d  hL h) cl_sr_108 (by omega) (by decide) rfl rfl (Nat.le_of_ble_eq_true rfl) d_sr_second_2 (fun v1 I1 R1 hL hzv1 h => ?_)
  refine PW.if_eq g 24 (by decide) d_sr_second_5 (fun c1 => ?_) (fun c1 => ?_)
  · have h := h.1 c1
    refine PW.iconst g (0) (by decide) d_sr_second_24 ?_
    exact PX.zret g hF rfl (Or.inl rfl) d_sr_second_25 hL h
  · have h := h.2 c1
    refine PW.aload_n g rfl rfl d_sr_second_8 ?_
    refine PW.getR (q := 5) g fi_sr_24 rfl (hL 0 0 2 rfl (by decide)) d_sr_second_9 ?_
    refine PW.iload_n g rfl rfl d_sr_second_12 ?_
    obtain ⟨hin, q1, eq1, hq1, h⟩ := h
    refine PX.aald g rfl hin eq1 d_sr_second_13 ?_
    refine PW.getI g fi_sr_115 hq1 d_sr_second_14 ?_
    refine PW.if_eq g 24 (by decide) d_sr_second_17 (fun c2 => ?_) (fun c2 => ?_)
    · have h := h.1 c2
      refine PW.iconst g (0) (by decide) d_sr_second_24 ?_
      exact PX.zret g hF rfl (Or.inl rfl) d_sr_second_25 hL h
    · have h := h.2 c2
      refine PW.iconst g (1) (by decide) d_sr_second_20 ?_
      refine PW.goto g 25 (by decide) d_sr_second_21 ?_
      exact PX.zret g hF rfl (Or.inr rfl) d_sr_second_25 hL h
def w_sr_variable (a1 : Int32) (a2 : Int32) (I : pI) (R : pR) (Q : Int32 → pI → pR → Prop) : Prop := (w_sr_isIteration a1 I R (fun v1 I1 R1 => ((v1 = 0 → Q (0 : Int32) I1 R1) ∧ (¬ v1 = 0 → (vp_in a1 6 ∧ ∃ q1, R1 5 a1.toNatClampNeg = some q1 ∧ pSH[q1]? = some (0, 6) ∧ (w_sr_pick (q1 + 1) 26 a2 I1 R1 (fun v2 I2 R2 => Q v2 I2 R2)))))))
set_option maxHeartbeats 4000000 in
set_option maxRecDepth 100000 in
theorem c_sr_variable (d : Nat) {a1 : Int32} {a2 : Int32} {I : pI} {R : pR} {Q : Int32 → pI → pR → Prop} (hL : pw_Lay R) (h : w_sr_variable a1 a2 I R Q) : Cm (d + 2) m_sr_variable [.ref 0, .int a1, .int a2] I R (qi Q) := by
  refine Cm.of [some (.ref 0), some (.int a1), some (.int a2)] (by decide) rfl (Nat.le_of_ble_eq_true rfl) (by simp) (fun E B g hF => ?_)
  unfold w_sr_variable at h
  refine PW.aload_n g rfl rfl d_sr_variable_0 ?_
  refine PW.iload_n g rfl rfl d_sr_variable_1 ?_
  refine PX.cVz [.int a1] [] g rfl ck_sr (c_sr_isIteration d  hL h) cl_sr_108 (by omega) (by decide) rfl rfl (Nat.le_of_ble_eq_true rfl) d_sr_variable_2 (fun v1 I1 R1 hL hzv1 h => ?_)
  refine PW.if_eq g 24 (by decide) d_sr_variable_5 (fun c1 => ?_) (fun c1 => ?_)
  · have h := h.1 c1
    refine PW.iconst g (0) (by decide) d_sr_variable_24 ?_
    exact PX.iret g hF rfl d_sr_variable_25 hL h
  · have h := h.2 c1
    refine PW.aload_n g rfl rfl d_sr_variable_8 ?_
    refine PW.getR (q := 5) g fi_sr_24 rfl (hL 0 0 2 rfl (by decide)) d_sr_variable_9 ?_
    refine PW.iload_n g rfl rfl d_sr_variable_12 ?_
    obtain ⟨hin, q1, eq1, hq1, h⟩ := h
    refine PX.aald g rfl hin eq1 d_sr_variable_13 ?_
    refine PW.getR (q := (q1 + 1)) g fi_sr_118 hq1 (hL q1 6 0 hq1 (by decide)) d_sr_variable_14 ?_
    refine PW.iload_n g rfl rfl d_sr_variable_17 ?_
    refine PX.cSi [.ref (q1 + 1), .int a2] [] g (c_sr_pick d (pw_shp hq1 0 (by decide)) hL h) cl_sr_122 (by omega) (by decide) rfl rfl (Nat.le_of_ble_eq_true rfl) d_sr_variable_18 (fun v2 I2 R2 hL h => ?_)
    refine PW.goto g 25 (by decide) d_sr_variable_21 ?_
    exact PX.iret g hF rfl d_sr_variable_25 hL h
def w_sr_calls (a1 : Int32) (a2 : Int32) (I : pI) (R : pR) (Q : Int32 → pI → pR → Prop) : Prop := (w_sr_isIteration a1 I R (fun v1 I1 R1 => ((v1 = 0 → Q (0 : Int32) I1 R1) ∧ (¬ v1 = 0 → (vp_in a1 6 ∧ ∃ q1, R1 5 a1.toNatClampNeg = some q1 ∧ pSH[q1]? = some (0, 6) ∧ (w_sr_pick (q1 + 2) 2 a2 I1 R1 (fun v2 I2 R2 => Q v2 I2 R2)))))))
set_option maxHeartbeats 4000000 in
set_option maxRecDepth 100000 in
theorem c_sr_calls (d : Nat) {a1 : Int32} {a2 : Int32} {I : pI} {R : pR} {Q : Int32 → pI → pR → Prop} (hL : pw_Lay R) (h : w_sr_calls a1 a2 I R Q) : Cm (d + 2) m_sr_calls [.ref 0, .int a1, .int a2] I R (qi Q) := by
  refine Cm.of [some (.ref 0), some (.int a1), some (.int a2)] (by decide) rfl (Nat.le_of_ble_eq_true rfl) (by simp) (fun E B g hF => ?_)
  unfold w_sr_calls at h
  refine PW.aload_n g rfl rfl d_sr_calls_0 ?_
  refine PW.iload_n g rfl rfl d_sr_calls_1 ?_
  refine PX.cVz [.int a1] [] g rfl ck_sr (c_sr_isIteration d  hL h) cl_sr_108 (by omega) (by decide) rfl rfl (Nat.le_of_ble_eq_true rfl) d_sr_calls_2 (fun v1 I1 R1 hL hzv1 h => ?_)
  refine PW.if_eq g 24 (by decide) d_sr_calls_5 (fun c1 => ?_) (fun c1 => ?_)
  · have h := h.1 c1
    refine PW.iconst g (0) (by decide) d_sr_calls_24 ?_
    exact PX.iret g hF rfl d_sr_calls_25 hL h
  · have h := h.2 c1
    refine PW.aload_n g rfl rfl d_sr_calls_8 ?_
    refine PW.getR (q := 5) g fi_sr_24 rfl (hL 0 0 2 rfl (by decide)) d_sr_calls_9 ?_
    refine PW.iload_n g rfl rfl d_sr_calls_12 ?_
    obtain ⟨hin, q1, eq1, hq1, h⟩ := h
    refine PX.aald g rfl hin eq1 d_sr_calls_13 ?_
    refine PW.getR (q := (q1 + 2)) g fi_sr_126 hq1 (hL q1 6 1 hq1 (by decide)) d_sr_calls_14 ?_
    refine PW.iload_n g rfl rfl d_sr_calls_17 ?_
    refine PX.cSi [.ref (q1 + 2), .int a2] [] g (c_sr_pick d (pw_shp hq1 1 (by decide)) hL h) cl_sr_122 (by omega) (by decide) rfl rfl (Nat.le_of_ble_eq_true rfl) d_sr_calls_18 (fun v2 I2 R2 hL h => ?_)
    refine PW.goto g 25 (by decide) d_sr_calls_21 ?_
    exact PX.iret g hF rfl d_sr_calls_25 hL h
def w_sr_values (a1 : Int32) (I : pI) (R : pR) (Q : Int32 → pI → pR → Prop) : Prop := (w_sr_isIteration a1 I R (fun v1 I1 R1 => ((v1 = 0 → Q (0 : Int32) I1 R1) ∧ (¬ v1 = 0 → (vp_in a1 6 ∧ ∃ q1, R1 5 a1.toNatClampNeg = some q1 ∧ pSH[q1]? = some (0, 6) ∧ Q (I1 (q1 + 3) 5) I1 R1)))))
set_option maxHeartbeats 4000000 in
set_option maxRecDepth 100000 in
theorem c_sr_values (d : Nat) {a1 : Int32} {I : pI} {R : pR} {Q : Int32 → pI → pR → Prop} (hL : pw_Lay R) (h : w_sr_values a1 I R Q) : Cm (d + 2) m_sr_values [.ref 0, .int a1] I R (qi Q) := by
  refine Cm.of [some (.ref 0), some (.int a1)] (by decide) rfl (Nat.le_of_ble_eq_true rfl) (by simp) (fun E B g hF => ?_)
  unfold w_sr_values at h
  refine PW.aload_n g rfl rfl d_sr_values_0 ?_
  refine PW.iload_n g rfl rfl d_sr_values_1 ?_
  refine PX.cVz [.int a1] [] g rfl ck_sr (c_sr_isIteration d  hL h) cl_sr_108 (by omega) (by decide) rfl rfl (Nat.le_of_ble_eq_true rfl) d_sr_values_2 (fun v1 I1 R1 hL hzv1 h => ?_)
  refine PW.if_eq g 23 (by decide) d_sr_values_5 (fun c1 => ?_) (fun c1 => ?_)
  · have h := h.1 c1
    refine PW.iconst g (0) (by decide) d_sr_values_23 ?_
    exact PX.iret g hF rfl d_sr_values_24 hL h
  · have h := h.2 c1
    refine PW.aload_n g rfl rfl d_sr_values_8 ?_
    refine PW.getR (q := 5) g fi_sr_24 rfl (hL 0 0 2 rfl (by decide)) d_sr_values_9 ?_
    refine PW.iload_n g rfl rfl d_sr_values_12 ?_
    obtain ⟨hin, q1, eq1, hq1, h⟩ := h
    refine PX.aald g rfl hin eq1 d_sr_values_13 ?_
    refine PW.getR (q := (q1 + 3)) g fi_sr_129 hq1 (hL q1 6 2 hq1 (by decide)) d_sr_values_14 ?_
    refine PW.getI g fi_sr_133 (pw_shp hq1 2 (by decide)) d_sr_values_17 ?_
    refine PW.goto g 24 (by decide) d_sr_values_20 ?_
    exact PX.iret g hF rfl d_sr_values_24 hL h
def w_sr_column (a1 : Int32) (a2 : Int32) (I : pI) (R : pR) (Q : Int32 → pI → pR → Prop) : Prop := (w_sr_isIteration a1 I R (fun v1 I1 R1 => ((v1 = 0 → Q (-1 : Int32) I1 R1) ∧ (¬ v1 = 0 → (vp_in a1 6 ∧ ∃ q1, R1 5 a1.toNatClampNeg = some q1 ∧ pSH[q1]? = some (0, 6) ∧ (w_dr_columnOf (q1 + 3) a2 I1 R1 (fun v2 I2 R2 => Q v2 I2 R2)))))))
set_option maxHeartbeats 4000000 in
set_option maxRecDepth 100000 in
theorem c_sr_column (d : Nat) {a1 : Int32} {a2 : Int32} {I : pI} {R : pR} {Q : Int32 → pI → pR → Prop} (hL : pw_Lay R) (h : w_sr_column a1 a2 I R Q) : Cm (d + 2) m_sr_column [.ref 0, .int a1, .int a2] I R (qi Q) := by
  refine Cm.of [some (.ref 0), some (.int a1), some (.int a2)] (by decide) rfl (Nat.le_of_ble_eq_true rfl) (by simp) (fun E B g hF => ?_)
  unfold w_sr_column at h
  refine PW.aload_n g rfl rfl d_sr_column_0 ?_
  refine PW.iload_n g rfl rfl d_sr_column_1 ?_
  refine PX.cVz [.int a1] [] g rfl ck_sr (c_sr_isIteration d  hL h) cl_sr_108 (by omega) (by decide) rfl rfl (Nat.le_of_ble_eq_true rfl) d_sr_column_2 (fun v1 I1 R1 hL hzv1 h => ?_)
  refine PW.if_eq g 24 (by decide) d_sr_column_5 (fun c1 => ?_) (fun c1 => ?_)
  · have h := h.1 c1
    refine PW.iconst g (-1) (by decide) d_sr_column_24 ?_
    exact PX.iret g hF rfl d_sr_column_25 hL h
  · have h := h.2 c1
    refine PW.aload_n g rfl rfl d_sr_column_8 ?_
    refine PW.getR (q := 5) g fi_sr_24 rfl (hL 0 0 2 rfl (by decide)) d_sr_column_9 ?_
    refine PW.iload_n g rfl rfl d_sr_column_12 ?_
    obtain ⟨hin, q1, eq1, hq1, h⟩ := h
    refine PX.aald g rfl hin eq1 d_sr_column_13 ?_
    refine PW.getR (q := (q1 + 3)) g fi_sr_129 hq1 (hL q1 6 2 hq1 (by decide)) d_sr_column_14 ?_
    refine PW.iload_n g rfl rfl d_sr_column_17 ?_
    refine PX.cVi [.int a2] [] g (pw_shp hq1 2 (by decide)) ck_dr (c_dr_columnOf d (pw_shp hq1 2 (by decide)) hL h) cl_sr_138 (by omega) (by decide) rfl rfl (Nat.le_of_ble_eq_true rfl) d_sr_column_18 (fun v2 I2 R2 hL h => ?_)
    refine PW.goto g 25 (by decide) d_sr_column_21 ?_
    exact PX.iret g hF rfl d_sr_column_25 hL h
def w_sr_value (a1 : Int32) (a2 : Int32) (I : pI) (R : pR) (Q : Int32 → pI → pR → Prop) : Prop := (w_sr_isIteration a1 I R (fun v1 I1 R1 => ((v1 = 0 → Q (0 : Int32) I1 R1) ∧ (¬ v1 = 0 → (vp_in a1 6 ∧ ∃ q1, R1 5 a1.toNatClampNeg = some q1 ∧ pSH[q1]? = some (0, 6) ∧ (w_dr_valueOf (q1 + 3) a2 I1 R1 (fun v2 I2 R2 => Q v2 I2 R2)))))))
set_option maxHeartbeats 4000000 in
set_option maxRecDepth 100000 in
theorem c_sr_value (d : Nat) {a1 : Int32} {a2 : Int32} {I : pI} {R : pR} {Q : Int32 → pI → pR → Prop} (hL : pw_Lay R) (h : w_sr_value a1 a2 I R Q) : Cm (d + 2) m_sr_value [.ref 0, .int a1, .int a2] I R (qi Q) := by
  refine Cm.of [some (.ref 0), some (.int a1), some (.int a2)] (by decide) rfl (Nat.le_of_ble_eq_true rfl) (by simp) (fun E B g hF => ?_)
  unfold w_sr_value at h
  refine PW.aload_n g rfl rfl d_sr_value_0 ?_
  refine PW.iload_n g rfl rfl d_sr_value_1 ?_
  refine PX.cVz [.int a1] [] g rfl ck_sr (c_sr_isIteration d  hL h) cl_sr_108 (by omega) (by decide) rfl rfl (Nat.le_of_ble_eq_true rfl) d_sr_value_2 (fun v1 I1 R1 hL hzv1 h => ?_)
  refine PW.if_eq g 24 (by decide) d_sr_value_5 (fun c1 => ?_) (fun c1 => ?_)
  · have h := h.1 c1
    refine PW.iconst g (0) (by decide) d_sr_value_24 ?_
    exact PX.iret g hF rfl d_sr_value_25 hL h
  · have h := h.2 c1
    refine PW.aload_n g rfl rfl d_sr_value_8 ?_
    refine PW.getR (q := 5) g fi_sr_24 rfl (hL 0 0 2 rfl (by decide)) d_sr_value_9 ?_
    refine PW.iload_n g rfl rfl d_sr_value_12 ?_
    obtain ⟨hin, q1, eq1, hq1, h⟩ := h
    refine PX.aald g rfl hin eq1 d_sr_value_13 ?_
    refine PW.getR (q := (q1 + 3)) g fi_sr_129 hq1 (hL q1 6 2 hq1 (by decide)) d_sr_value_14 ?_
    refine PW.iload_n g rfl rfl d_sr_value_17 ?_
    refine PX.cVi [.int a2] [] g (pw_shp hq1 2 (by decide)) ck_dr (c_dr_valueOf d (pw_shp hq1 2 (by decide)) hL h) cl_sr_142 (by omega) (by decide) rfl rfl (Nat.le_of_ble_eq_true rfl) d_sr_value_18 (fun v2 I2 R2 hL h => ?_)
    refine PW.goto g 25 (by decide) d_sr_value_21 ?_
    exact PX.iret g hF rfl d_sr_value_25 hL h
def w_sr_lines (a1 : Int32) (I : pI) (R : pR) (Q : Int32 → pI → pR → Prop) : Prop := (w_sr_isIteration a1 I R (fun v1 I1 R1 => ((v1 = 0 → Q (0 : Int32) I1 R1) ∧ (¬ v1 = 0 → (vp_in a1 6 ∧ ∃ q1, R1 5 a1.toNatClampNeg = some q1 ∧ pSH[q1]? = some (0, 6) ∧ Q (I1 (q1 + 3) 6) I1 R1)))))
set_option maxHeartbeats 4000000 in
set_option maxRecDepth 100000 in
theorem c_sr_lines (d : Nat) {a1 : Int32} {I : pI} {R : pR} {Q : Int32 → pI → pR → Prop} (hL : pw_Lay R) (h : w_sr_lines a1 I R Q) : Cm (d + 2) m_sr_lines [.ref 0, .int a1] I R (qi Q) := by
  refine Cm.of [some (.ref 0), some (.int a1)] (by decide) rfl (Nat.le_of_ble_eq_true rfl) (by simp) (fun E B g hF => ?_)
  unfold w_sr_lines at h
  refine PW.aload_n g rfl rfl d_sr_lines_0 ?_
  refine PW.iload_n g rfl rfl d_sr_lines_1 ?_
  refine PX.cVz [.int a1] [] g rfl ck_sr (c_sr_isIteration d  hL h) cl_sr_108 (by omega) (by decide) rfl rfl (Nat.le_of_ble_eq_true rfl) d_sr_lines_2 (fun v1 I1 R1 hL hzv1 h => ?_)
  refine PW.if_eq g 23 (by decide) d_sr_lines_5 (fun c1 => ?_) (fun c1 => ?_)
  · have h := h.1 c1
    refine PW.iconst g (0) (by decide) d_sr_lines_23 ?_
    exact PX.iret g hF rfl d_sr_lines_24 hL h
  · have h := h.2 c1
    refine PW.aload_n g rfl rfl d_sr_lines_8 ?_
    refine PW.getR (q := 5) g fi_sr_24 rfl (hL 0 0 2 rfl (by decide)) d_sr_lines_9 ?_
    refine PW.iload_n g rfl rfl d_sr_lines_12 ?_
    obtain ⟨hin, q1, eq1, hq1, h⟩ := h
    refine PX.aald g rfl hin eq1 d_sr_lines_13 ?_
    refine PW.getR (q := (q1 + 3)) g fi_sr_129 hq1 (hL q1 6 2 hq1 (by decide)) d_sr_lines_14 ?_
    refine PW.getI g fi_sr_145 (pw_shp hq1 2 (by decide)) d_sr_lines_17 ?_
    refine PW.goto g 24 (by decide) d_sr_lines_20 ?_
    exact PX.iret g hF rfl d_sr_lines_24 hL h
def w_sr_drawn (a1 : Int32) (a2 : Int32) (a3 : Int32) (I : pI) (R : pR) (Q : Int32 → pI → pR → Prop) : Prop := (w_sr_isIteration a1 I R (fun v1 I1 R1 => ((v1 = 0 → Q (0 : Int32) I1 R1) ∧ (¬ v1 = 0 → (vp_in a1 6 ∧ ∃ q1, R1 5 a1.toNatClampNeg = some q1 ∧ pSH[q1]? = some (0, 6) ∧ (w_dr_characterAt (q1 + 3) a2 a3 I1 R1 (fun v2 I2 R2 => Q v2 I2 R2)))))))
set_option maxHeartbeats 4000000 in
set_option maxRecDepth 100000 in
theorem c_sr_drawn (d : Nat) {a1 : Int32} {a2 : Int32} {a3 : Int32} {I : pI} {R : pR} {Q : Int32 → pI → pR → Prop} (hL : pw_Lay R) (h : w_sr_drawn a1 a2 a3 I R Q) : Cm (d + 4) m_sr_drawn [.ref 0, .int a1, .int a2, .int a3] I R (qi Q) := by
  refine Cm.of [some (.ref 0), some (.int a1), some (.int a2), some (.int a3)] (by decide) rfl (Nat.le_of_ble_eq_true rfl) (by simp) (fun E B g hF => ?_)
  unfold w_sr_drawn at h
  refine PW.aload_n g rfl rfl d_sr_drawn_0 ?_
  refine PW.iload_n g rfl rfl d_sr_drawn_1 ?_
  refine PX.cVz [.int a1] [] g rfl ck_sr (c_sr_isIteration d  hL h) cl_sr_108 (by omega) (by decide) rfl rfl (Nat.le_of_ble_eq_true rfl) d_sr_drawn_2 (fun v1 I1 R1 hL hzv1 h => ?_)
  refine PW.if_eq g 25 (by decide) d_sr_drawn_5 (fun c1 => ?_) (fun c1 => ?_)
  · have h := h.1 c1
    refine PW.iconst g (0) (by decide) d_sr_drawn_25 ?_
    exact PX.iret g hF rfl d_sr_drawn_26 hL h
  · have h := h.2 c1
    refine PW.aload_n g rfl rfl d_sr_drawn_8 ?_
    refine PW.getR (q := 5) g fi_sr_24 rfl (hL 0 0 2 rfl (by decide)) d_sr_drawn_9 ?_
    refine PW.iload_n g rfl rfl d_sr_drawn_12 ?_
    obtain ⟨hin, q1, eq1, hq1, h⟩ := h
    refine PX.aald g rfl hin eq1 d_sr_drawn_13 ?_
    refine PW.getR (q := (q1 + 3)) g fi_sr_129 hq1 (hL q1 6 2 hq1 (by decide)) d_sr_drawn_14 ?_
    refine PW.iload_n g rfl rfl d_sr_drawn_17 ?_
    refine PW.iload_n g rfl rfl d_sr_drawn_18 ?_
    refine PX.cVi [.int a2, .int a3] [] g (pw_shp hq1 2 (by decide)) ck_dr (c_dr_characterAt d (pw_shp hq1 2 (by decide)) hL h) cl_sr_148 (by omega) (by decide) rfl rfl (Nat.le_of_ble_eq_true rfl) d_sr_drawn_19 (fun v2 I2 R2 hL h => ?_)
    refine PW.goto g 26 (by decide) d_sr_drawn_22 ?_
    exact PX.iret g hF rfl d_sr_drawn_26 hL h
