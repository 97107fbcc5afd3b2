def w_rn_lose (I : pI) (R : pR) (Q : Int32 → pI → pR → Prop) : Prop := (∃ q1, R 114 2 = some q1 ∧ pSH[q1]? = some (0, 6) ∧ (w_oc_fail q1 (I 115 11) (I 115 12) I R (fun I1 R1 => Q (0 : Int32) I1 R1)))
set_option maxHeartbeats 4000000 in
set_option maxRecDepth 100000 in
theorem c_rn_lose (d : Nat) {I : pI} {R : pR} {Q : Int32 → pI → pR → Prop} (hL : pw_Lay R) (h : w_rn_lose  I R Q) : Cm (d + 2) m_rn_lose [.ref 114] I R (qz Q) := by
  refine Cm.of [some (.ref 114)] (by decide) rfl (Nat.le_of_ble_eq_true rfl) (by simp) (fun E B g hF => ?_)
  unfold w_rn_lose at h
  refine PW.aload_n g rfl rfl d_rn_lose_0 ?_
  obtain ⟨q1, eq1, hq1, h⟩ := h
  refine PW.getR (q := q1) g fi_rn_15 rfl eq1 d_rn_lose_1 ?_
  refine PW.aload_n g rfl rfl d_rn_lose_4 ?_
  refine PW.getR (q := 115) g fi_rn_24 rfl (hL 114 9 0 rfl (by decide)) d_rn_lose_5 ?_
  refine PW.getI g fi_rn_128 rfl d_rn_lose_8 ?_
  refine PW.aload_n g rfl rfl d_rn_lose_11 ?_
  refine PW.getR (q := 115) g fi_rn_24 rfl (hL 114 9 0 rfl (by decide)) d_rn_lose_12 ?_
  refine PW.getI g fi_rn_204 rfl d_rn_lose_15 ?_
  refine PX.cVv [.int (I 115 11), .int (I 115 12)] [] g hq1 ck_oc (c_oc_fail d hq1 hL h) cl_rn_159 (by omega) (by decide) rfl rfl (Nat.le_of_ble_eq_true rfl) d_rn_lose_18 (fun I1 R1 hL h => ?_)
  refine PW.iconst g (0) (by decide) d_rn_lose_21 ?_
  exact PX.zret g hF rfl (Or.inl rfl) d_rn_lose_22 hL h
def l_rn_fill_23 (q2 : Nat) (f1 : Int32) (K : pI → pR → Prop) (Q : Int32 → pI → pR → Prop) : Nat → Int32 → pI → pR → Prop
  | 0, _, _, _ => False
  | n + 1, x3, I, R => (∃ q3, R 114 1 = some q3 ∧ pSH[q3]? = some (0, 5) ∧ (((I q3 10) ≤ x3 → K I R) ∧ (¬ (I q3 10) ≤ x3 → (∃ q4, R 114 1 = some q4 ∧ pSH[q4]? = some (0, 5) ∧ (w_sr_pick (q4 + 24) 61 f1 I R (fun v1 I1 R1 => (w_sr_pick (q2 + 11) 61 (v1 + x3) I1 R1 (fun v2 I2 R2 => (w_sr_pick (q2 + 12) 61 (v1 + x3) I2 R2 (fun v3 I3 R3 => (w_ev_evaluate v2 v3 I3 R3 (fun v4 I4 R4 => ((¬ v4 = 0 → (∃ q5, R4 114 2 = some q5 ∧ pSH[q5]? = some (0, 6) ∧ (∃ q6, R4 114 1 = some q6 ∧ pSH[q6]? = some (0, 5) ∧ (w_sr_pick (q6 + 25) 61 x3 I4 R4 (fun v5 I5 R5 => (w_sr_put (q5 + 1) 26 v5 (I5 115 10) I5 R5 (fun I6 R6 => l_rn_fill_23 q2 f1 K Q n (x3 + 1) I6 R6))))))) ∧ (v4 = 0 → (w_rn_lose  I4 R4 (fun v7 I7 R7 => Q v7 I7 R7))))))))))))))))
set_option maxHeartbeats 4000000 in
set_option maxRecDepth 100000 in
theorem L_rn_fill_23 (d : Nat) {q2 : Nat} (hq2 : pSH[q2]? = some (0, 5)) {f1 : Int32} {K : pI → pR → Prop} {Q : Int32 → pI → pR → Prop} {E : pE} {B : pB} (g : pw_G m_rn_fill (d + 5) 0 0 E B) (hF : pX (qz Q) E B) (hK : ∀ (I : pI) (R : pR), pw_Lay R → K  I R → PX E B m_rn_fill.2.2.1 116 [none, none, none, none, none] [] I R) : ∀ (n : Nat) (x3 : Int32) (I : pI) (R : pR), pw_Lay R → l_rn_fill_23 q2 f1 K Q n x3 I R → PX E B m_rn_fill.2.2.1 23 [some (.ref 114), some (.int f1), some (.ref (q2 + 7)), some (.int x3), none] [] I R := by
  intro n
  induction n with
  | zero => intro x3 I R hL h; exact False.elim h
  | succ n ih =>
    intro x3 I R hL h
    refine PW.iload_n g rfl rfl d_rn_fill_23 ?_
    refine PW.aload_n g rfl rfl d_rn_fill_24 ?_
    obtain ⟨q3, eq3, hq3, h⟩ := h
    refine PW.getR (q := q3) g fi_rn_9 rfl eq3 d_rn_fill_25 ?_
    refine PW.getI g fi_rn_84 hq3 d_rn_fill_28 ?_
    refine PW.icmp_ge g 116 (by decide) d_rn_fill_31 (fun c2 => ?_) (fun c2 => ?_)
    · have h := h.1 c2
      refine PX.sub [none, none, none, none, none] trivial ?_
      exact hK _ _ hL h
    · have h := h.2 c2
      refine PW.aload_n g rfl rfl d_rn_fill_34 ?_
      obtain ⟨q4, eq4, hq4, h⟩ := h
      refine PW.getR (q := q4) g fi_rn_9 rfl eq4 d_rn_fill_35 ?_
      refine PW.getR (q := (q4 + 24)) g fi_rn_87 hq4 (hL q4 5 5 hq4 (by decide)) d_rn_fill_38 ?_
      refine PW.iload_n g rfl rfl d_rn_fill_41 ?_
      refine PX.cSi [.ref (q4 + 24), .int f1] [] g (c_sr_pick d (pw_shp hq4 5 (by decide)) hL h) cl_rn_45 (by omega) (by decide) rfl rfl (Nat.le_of_ble_eq_true rfl) d_rn_fill_42 (fun v1 I1 R1 hL h => ?_)
      refine PW.iload_n g rfl rfl d_rn_fill_45 ?_
      refine PW.iadd g d_rn_fill_46 ?_
      refine PW.istore g (L' := [some (.ref 114), some (.int f1), some (.ref (q2 + 7)), some (.int x3), some (.int (v1 + x3))]) (by decide) rfl rfl d_rn_fill_47 ?_
      refine PW.aload_n g rfl rfl d_rn_fill_49 ?_
      refine PW.getR (q := 115) g fi_rn_24 rfl (hL 114 9 0 rfl (by decide)) d_rn_fill_50 ?_
      refine PW.aload_n g rfl rfl d_rn_fill_53 ?_
      refine PW.getR (q := (q2 + 11)) g fi_rn_90 (pw_shp hq2 2 (by decide)) (hL (q2 + 7) 10 3 (pw_shp hq2 2 (by decide)) (by decide)) d_rn_fill_54 ?_
      refine PW.iload g rfl d_rn_fill_57 ?_
      refine PX.cSi [.ref (q2 + 11), .int (v1 + x3)] [.ref 115] g (c_sr_pick d (pw_shp (pw_shp hq2 2 (by decide)) 3 (by decide)) hL h) cl_rn_45 (by omega) (by decide) rfl rfl (Nat.le_of_ble_eq_true rfl) d_rn_fill_59 (fun v2 I2 R2 hL h => ?_)
      refine PW.aload_n g rfl rfl d_rn_fill_62 ?_
      refine PW.getR (q := (q2 + 12)) g fi_rn_93 (pw_shp hq2 2 (by decide)) (hL (q2 + 7) 10 4 (pw_shp hq2 2 (by decide)) (by decide)) d_rn_fill_63 ?_
      refine PW.iload g rfl d_rn_fill_66 ?_
      refine PX.cSi [.ref (q2 + 12), .int (v1 + x3)] [.int v2, .ref 115] g (c_sr_pick d (pw_shp (pw_shp hq2 2 (by decide)) 4 (by decide)) hL h) cl_rn_45 (by omega) (by decide) rfl rfl (Nat.le_of_ble_eq_true rfl) d_rn_fill_68 (fun v3 I3 R3 hL h => ?_)
      refine PX.cVz [.int v2, .int v3] [] g rfl ck_ev (c_ev_evaluate d  hL h) cl_rn_96 (by omega) (by decide) rfl rfl (Nat.le_of_ble_eq_true rfl) d_rn_fill_71 (fun v4 I4 R4 hL hzv4 h => ?_)
      refine PW.if_ne g 82 (by decide) d_rn_fill_74 (fun c3 => ?_) (fun c3 => ?_)
      · have h := h.1 c3
        refine PW.aload_n g rfl rfl d_rn_fill_82 ?_
        obtain ⟨q5, eq5, hq5, h⟩ := h
        refine PW.getR (q := q5) g fi_rn_15 rfl eq5 d_rn_fill_83 ?_
        refine PW.getR (q := (q5 + 1)) g fi_rn_99 hq5 (hL q5 6 0 hq5 (by decide)) d_rn_fill_86 ?_
        refine PW.aload_n g rfl rfl d_rn_fill_89 ?_
        obtain ⟨q6, eq6, hq6, h⟩ := h
        refine PW.getR (q := q6) g fi_rn_9 rfl eq6 d_rn_fill_90 ?_
        refine PW.getR (q := (q6 + 25)) g fi_rn_102 hq6 (hL q6 5 6 hq6 (by decide)) d_rn_fill_93 ?_
        refine PW.iload_n g rfl rfl d_rn_fill_96 ?_
        refine PX.cSi [.ref (q6 + 25), .int x3] [.ref (q5 + 1)] g (c_sr_pick d (pw_shp hq6 6 (by decide)) hL h) cl_rn_45 (by omega) (by decide) rfl rfl (Nat.le_of_ble_eq_true rfl) d_rn_fill_97 (fun v5 I5 R5 hL h => ?_)
        refine PW.aload_n g rfl rfl d_rn_fill_100 ?_
        refine PW.getR (q := 115) g fi_rn_24 rfl (hL 114 9 0 rfl (by decide)) d_rn_fill_101 ?_
        refine PW.getI g fi_rn_105 rfl d_rn_fill_104 ?_
        refine PX.cSv [.ref (q5 + 1), .int v5, .int (I5 115 10)] [] g (c_sr_put d (pw_shp hq5 0 (by decide)) hL h) cl_rn_108 (by omega) (by decide) rfl rfl (Nat.le_of_ble_eq_true rfl) d_rn_fill_107 (fun I6 R6 hL h => ?_)
        refine PW.iinc g rfl (show x3 + Int32.ofInt (1) = (x3 + 1) from congrArg (HAdd.hAdd x3) (by decide)) (by decide) rfl (L' := [some (.ref 114), some (.int f1), some (.ref (q2 + 7)), some (.int (x3 + 1)), some (.int (v1 + x3))]) rfl d_rn_fill_110 ?_
        refine PW.goto g 23 (by decide) d_rn_fill_113 ?_
        refine PX.sub [some (.ref 114), some (.int f1), some (.ref (q2 + 7)), some (.int (x3 + 1)), none] ⟨rfl, ⟨rfl, ⟨rfl, ⟨rfl, trivial⟩⟩⟩⟩ ?_
        exact ih _ _ _ hL h
      · have h := h.2 c3
        refine PW.aload_n g rfl rfl d_rn_fill_77 ?_
        refine PX.cVz [] [] g rfl ck_rn (c_rn_lose d  hL h) cl_rn_53 (by omega) (by decide) rfl rfl (Nat.le_of_ble_eq_true rfl) d_rn_fill_78 (fun v7 I7 R7 hL hzv7 h => ?_)
        exact PX.zret g hF rfl hzv7 d_rn_fill_81 hL h
def w_rn_fill (a1 : Int32) (I : pI) (R : pR) (Q : Int32 → pI → pR → Prop) : Prop := (∃ q1, R 114 1 = some q1 ∧ pSH[q1]? = some (0, 5) ∧ ((a1 < (I q1 9) → (∃ q2, R 114 1 = some q2 ∧ pSH[q2]? = some (0, 5) ∧ (∃ n1, l_rn_fill_23 q2 a1 (fun I8 R8 => Q (1 : Int32) I8 R8) Q n1 (0 : Int32) I R))) ∧ (¬ a1 < (I q1 9) → Q (1 : Int32) I R)))
set_option maxHeartbeats 4000000 in
set_option maxRecDepth 100000 in
theorem c_rn_fill (d : Nat) {a1 : Int32} {I : pI} {R : pR} {Q : Int32 → pI → pR → Prop} (hL : pw_Lay R) (h : w_rn_fill a1 I R Q) : Cm (d + 5) m_rn_fill [.ref 114, .int a1] I R (qz Q) := by
  refine Cm.of [some (.ref 114), some (.int a1), none, none, none] (by decide) rfl (Nat.le_of_ble_eq_true rfl) (by simp) (fun E B g hF => ?_)
  unfold w_rn_fill at h
  refine PW.iload_n g rfl rfl d_rn_fill_0 ?_
  refine PW.aload_n g rfl rfl d_rn_fill_1 ?_
  obtain ⟨q1, eq1, hq1, h⟩ := h
  refine PW.getR (q := q1) g fi_rn_9 rfl eq1 d_rn_fill_2 ?_
  refine PW.getI g fi_rn_81 hq1 d_rn_fill_5 ?_
  refine PW.icmp_lt g 13 (by decide) d_rn_fill_8 (fun c1 => ?_) (fun c1 => ?_)
  · have h := h.1 c1
    refine PW.aload_n g rfl rfl d_rn_fill_13 ?_
    obtain ⟨q2, eq2, hq2, h⟩ := h
    refine PW.getR (q := q2) g fi_rn_9 rfl eq2 d_rn_fill_14 ?_
    refine PW.getR (q := (q2 + 7)) g fi_rn_61 hq2 (hL q2 5 2 hq2 (by decide)) d_rn_fill_17 ?_
    refine PW.astore_n g rfl (L' := [some (.ref 114), some (.int a1), some (.ref (q2 + 7)), none, none]) (by decide) rfl rfl d_rn_fill_20 ?_
    refine PW.iconst g (0) (by decide) d_rn_fill_21 ?_
    refine PW.istore_n g rfl (L' := [some (.ref 114), some (.int a1), some (.ref (q2 + 7)), some (.int (0 : Int32)), none]) (by decide) rfl rfl d_rn_fill_22 ?_
    refine PX.sub [some (.ref 114), some (.int a1), some (.ref (q2 + 7)), some (.int (0 : Int32)), none] ⟨rfl, ⟨rfl, ⟨rfl, ⟨rfl, trivial⟩⟩⟩⟩ ?_
    obtain ⟨n1, h⟩ := h
    refine L_rn_fill_23 d hq2 g hF (fun I8 R8 hL h => ?_) n1 (0 : Int32) I R hL h
    refine PW.iconst g (1) (by decide) d_rn_fill_116 ?_
    exact PX.zret g hF rfl (Or.inr rfl) d_rn_fill_117 hL h
  · have h := h.2 c1
    refine PW.iconst g (1) (by decide) d_rn_fill_11 ?_
    exact PX.zret g hF rfl (Or.inr rfl) d_rn_fill_12 hL h
def l_rn_steps_12 (q1 : Nat) (f1 : Int32) (f3 : Int32) (K : pI → pR → Prop) (Q : Int32 → pI → pR → Prop) : Nat → Int32 → pI → pR → Prop
  | 0, _, _, _ => False
  | n + 1, x5, I, R => ((f3 ≤ x5 → K I R) ∧ (¬ f3 ≤ x5 → (w_st_kindOf (q1 + 7) x5 I R (fun v1 I1 R1 => ((¬ v1 = f1 → l_rn_steps_12 q1 f1 f3 K Q n (x5 + 1) I1 R1) ∧ (v1 = f1 → (w_sr_pick (q1 + 11) 61 x5 I1 R1 (fun v2 I2 R2 => (w_sr_pick (q1 + 12) 61 x5 I2 R2 (fun v3 I3 R3 => (w_ev_evaluate v2 v3 I3 R3 (fun v4 I4 R4 => ((¬ v4 = 0 → (∃ q2, R4 114 2 = some q2 ∧ pSH[q2]? = some (0, 6) ∧ (w_sr_pick (q1 + 13) 61 x5 I4 R4 (fun v5 I5 R5 => (w_sr_put (q2 + 1) 26 v5 (I5 115 10) I5 R5 (fun I6 R6 => l_rn_steps_12 q1 f1 f3 K Q n (x5 + 1) I6 R6)))))) ∧ (v4 = 0 → Q (0 : Int32) I4 R4))))))))))))))
set_option maxHeartbeats 4000000 in
set_option maxRecDepth 100000 in
theorem L_rn_steps_12 (d : Nat) {q1 : Nat} (hq1 : pSH[q1]? = some (0, 5)) {f1 : Int32} {f3 : Int32} {K : pI → pR → Prop} {Q : Int32 → pI → pR → Prop} {E : pE} {B : pB} (g : pw_G m_rn_steps (d + 5) 0 0 E B) (hF : pX (qz Q) E B) (hK : ∀ (I : pI) (R : pR), pw_Lay R → K  I R → PX E B m_rn_steps.2.2.1 94 [none, none, none, none, none, none] [] I R) : ∀ (n : Nat) (x5 : Int32) (I : pI) (R : pR), pw_Lay R → l_rn_steps_12 q1 f1 f3 K Q n x5 I R → PX E B m_rn_steps.2.2.1 12 [some (.ref 114), some (.int f1), none, some (.int f3), some (.ref (q1 + 7)), some (.int x5)] [] I R := by
  intro n
  induction n with
  | zero => intro x5 I R hL h; exact False.elim h
  | succ n ih =>
    intro x5 I R hL h
    refine PW.iload g rfl d_rn_steps_12 ?_
    refine PW.iload_n g rfl rfl d_rn_steps_14 ?_
    refine PW.icmp_ge g 94 (by decide) d_rn_steps_15 (fun c1 => ?_) (fun c1 => ?_)
    · have h := h.1 c1
      refine PX.sub [none, none, none, none, none, none] trivial ?_
      exact hK _ _ hL h
    · have h := h.2 c1
      refine PW.aload g rfl d_rn_steps_18 ?_
      refine PW.iload g rfl d_rn_steps_20 ?_
      refine PX.cVi [.int x5] [] g (pw_shp hq1 2 (by decide)) ck_st (c_st_kindOf d (pw_shp hq1 2 (by decide)) hL h) cl_rn_65 (by omega) (by decide) rfl rfl (Nat.le_of_ble_eq_true rfl) d_rn_steps_22 (fun v1 I1 R1 hL h => ?_)
      refine PW.iload_n g rfl rfl d_rn_steps_25 ?_
      refine PW.icmp_ne g 88 (by decide) d_rn_steps_26 (fun c2 => ?_) (fun c2 => ?_)
      · have h := h.1 c2
        refine PW.iinc g rfl (show x5 + Int32.ofInt (1) = (x5 + 1) from congrArg (HAdd.hAdd x5) (by decide)) (by decide) rfl (L' := [some (.ref 114), some (.int f1), none, some (.int f3), some (.ref (q1 + 7)), some (.int (x5 + 1))]) rfl d_rn_steps_88 ?_
        refine PW.goto g 12 (by decide) d_rn_steps_91 ?_
        refine PX.sub [some (.ref 114), some (.int f1), none, some (.int f3), some (.ref (q1 + 7)), some (.int (x5 + 1))] ⟨rfl, ⟨rfl, ⟨rfl, ⟨rfl, ⟨rfl, trivial⟩⟩⟩⟩⟩ ?_
        exact ih _ _ _ hL h
      · have h := h.2 c2
        refine PW.aload_n g rfl rfl d_rn_steps_29 ?_
        refine PW.getR (q := 115) g fi_rn_24 rfl (hL 114 9 0 rfl (by decide)) d_rn_steps_30 ?_
        refine PW.aload g rfl d_rn_steps_33 ?_
        refine PW.getR (q := (q1 + 11)) g fi_rn_90 (pw_shp hq1 2 (by decide)) (hL (q1 + 7) 10 3 (pw_shp hq1 2 (by decide)) (by decide)) d_rn_steps_35 ?_
        refine PW.iload g rfl d_rn_steps_38 ?_
        refine PX.cSi [.ref (q1 + 11), .int x5] [.ref 115] g (c_sr_pick d (pw_shp (pw_shp hq1 2 (by decide)) 3 (by decide)) hL h) cl_rn_45 (by omega) (by decide) rfl rfl (Nat.le_of_ble_eq_true rfl) d_rn_steps_40 (fun v2 I2 R2 hL h => ?_)
        refine PW.aload g rfl d_rn_steps_43 ?_
        refine PW.getR (q := (q1 + 12)) g fi_rn_93 (pw_shp hq1 2 (by decide)) (hL (q1 + 7) 10 4 (pw_shp hq1 2 (by decide)) (by decide)) d_rn_steps_45 ?_
        refine PW.iload g rfl d_rn_steps_48 ?_
        refine PX.cSi [.ref (q1 + 12), .int x5] [.int v2, .ref 115] g (c_sr_pick d (pw_shp (pw_shp hq1 2 (by decide)) 4 (by decide)) hL h) cl_rn_45 (by omega) (by decide) rfl rfl (Nat.le_of_ble_eq_true rfl) d_rn_steps_50 (fun v3 I3 R3 hL h => ?_)
        refine PX.cVz [.int v2, .int v3] [] g rfl ck_ev (c_ev_evaluate d  hL h) cl_rn_96 (by omega) (by decide) rfl rfl (Nat.le_of_ble_eq_true rfl) d_rn_steps_53 (fun v4 I4 R4 hL hzv4 h => ?_)
        refine PW.if_ne g 61 (by decide) d_rn_steps_56 (fun c3 => ?_) (fun c3 => ?_)
        · have h := h.1 c3
          refine PW.aload_n g rfl rfl d_rn_steps_61 ?_
          obtain ⟨q2, eq2, hq2, h⟩ := h
          refine PW.getR (q := q2) g fi_rn_15 rfl eq2 d_rn_steps_62 ?_
          refine PW.getR (q := (q2 + 1)) g fi_rn_99 hq2 (hL q2 6 0 hq2 (by decide)) d_rn_steps_65 ?_
          refine PW.aload g rfl d_rn_steps_68 ?_
          refine PW.getR (q := (q1 + 13)) g fi_rn_112 (pw_shp hq1 2 (by decide)) (hL (q1 + 7) 10 5 (pw_shp hq1 2 (by decide)) (by decide)) d_rn_steps_70 ?_
          refine PW.iload g rfl d_rn_steps_73 ?_
          refine PX.cSi [.ref (q1 + 13), .int x5] [.ref (q2 + 1)] g (c_sr_pick d (pw_shp (pw_shp hq1 2 (by decide)) 5 (by decide)) hL h) cl_rn_45 (by omega) (by decide) rfl rfl (Nat.le_of_ble_eq_true rfl) d_rn_steps_75 (fun v5 I5 R5 hL h => ?_)
          refine PW.aload_n g rfl rfl d_rn_steps_78 ?_
          refine PW.getR (q := 115) g fi_rn_24 rfl (hL 114 9 0 rfl (by decide)) d_rn_steps_79 ?_
          refine PW.getI g fi_rn_105 rfl d_rn_steps_82 ?_
          refine PX.cSv [.ref (q2 + 1), .int v5, .int (I5 115 10)] [] g (c_sr_put d (pw_shp hq2 0 (by decide)) hL h) cl_rn_108 (by omega) (by decide) rfl rfl (Nat.le_of_ble_eq_true rfl) d_rn_steps_85 (fun I6 R6 hL h => ?_)
          refine PW.iinc g rfl (show x5 + Int32.ofInt (1) = (x5 + 1) from congrArg (HAdd.hAdd x5) (by decide)) (by decide) rfl (L' := [some (.ref 114), some (.int f1), none, some (.int f3), some (.ref (q1 + 7)), some (.int (x5 + 1))]) rfl d_rn_steps_88 ?_
          refine PW.goto g 12 (by decide) d_rn_steps_91 ?_
          refine PX.sub [some (.ref 114), some (.int f1), none, some (.int f3), some (.ref (q1 + 7)), some (.int (x5 + 1))] ⟨rfl, ⟨rfl, ⟨rfl, ⟨rfl, ⟨rfl, trivial⟩⟩⟩⟩⟩ ?_
          exact ih _ _ _ hL h
        · have h := h.2 c3
          refine PW.iconst g (0) (by decide) d_rn_steps_59 ?_
          exact PX.zret g hF rfl (Or.inl rfl) d_rn_steps_60 hL h
def w_rn_steps (a1 : Int32) (a2 : Int32) (a3 : Int32) (I : pI) (R : pR) (Q : Int32 → pI → pR → Prop) : Prop := (∃ q1, R 114 1 = some q1 ∧ pSH[q1]? = some (0, 5) ∧ (∃ n1, l_rn_steps_12 q1 a1 a3 (fun I7 R7 => Q (1 : Int32) I7 R7) Q n1 a2 I R))
set_option maxHeartbeats 4000000 in
set_option maxRecDepth 100000 in
theorem c_rn_steps (d : Nat) {a1 : Int32} {a2 : Int32} {a3 : Int32} {I : pI} {R : pR} {Q : Int32 → pI → pR → Prop} (hL : pw_Lay R) (h : w_rn_steps a1 a2 a3 I R Q) : Cm (d + 5) m_rn_steps [.ref 114, .int a1, .int a2, .int a3] I R (qz Q) := by
  refine Cm.of [some (.ref 114), some (.int a1), some (.int a2), some (.int a3), none, none] (by decide) rfl (Nat.le_of_ble_eq_true rfl) (by simp) (fun E B g hF => ?_)
  unfold w_rn_steps at h
  refine PW.aload_n g rfl rfl d_rn_steps_0 ?_
  obtain ⟨q1, eq1, hq1, h⟩ := h
  refine PW.getR (q := q1) g fi_rn_9 rfl eq1 d_rn_steps_1 ?_
  refine PW.getR (q := (q1 + 7)) g fi_rn_61 hq1 (hL q1 5 2 hq1 (by decide)) d_rn_steps_4 ?_
  refine PW.astore g (L' := [some (.ref 114), some (.int a1), some (.int a2), some (.int a3), some (.ref (q1 + 7)), none]) (by decide) rfl rfl d_rn_steps_7 ?_
  refine PW.iload_n g rfl rfl d_rn_steps_9 ?_
  refine PW.istore g (L' := [some (.ref 114), some (.int a1), some (.int a2), some (.int a3), some (.ref (q1 + 7)), some (.int a2)]) (by decide) rfl rfl d_rn_steps_10 ?_
  refine PX.sub [some (.ref 114), some (.int a1), none, some (.int a3), some (.ref (q1 + 7)), some (.int a2)] ⟨rfl, ⟨rfl, ⟨rfl, ⟨rfl, ⟨rfl, trivial⟩⟩⟩⟩⟩ ?_
  obtain ⟨n1, h⟩ := h
  refine L_rn_steps_12 d hq1 g hF (fun I7 R7 hL h => ?_) n1 a2 I R hL h
  refine PW.iconst g (1) (by decide) d_rn_steps_94 ?_
  exact PX.zret g hF rfl (Or.inr rfl) d_rn_steps_95 hL h
def l_rn_remember_42 (q1 : Nat) (f4 : Int32) (K : pI → pR → Prop) (Q : Int32 → pI → pR → Prop) : Nat → Int32 → pI → pR → Prop
  | 0, _, _, _ => False
  | n + 1, x5, I, R => ((f4 ≤ x5 → K I R) ∧ (¬ f4 ≤ x5 → (w_sr_pick (q1 + 3) 120 x5 I R (fun v3 I3 R3 => ((¬ v3 = (5 : Int32) → l_rn_remember_42 q1 f4 K Q n (x5 + 1) I3 R3) ∧ (v3 = (5 : Int32) → (w_sr_pick (q1 + 5) 120 x5 I3 R3 (fun v4 I4 R4 => (w_ev_evaluate (x5 + (1 : Int32)) v4 I4 R4 (fun v5 I5 R5 => ((¬ v5 = 0 → (w_sr_put 119 120 x5 (I5 115 10) I5 R5 (fun I6 R6 => l_rn_remember_42 q1 f4 K Q n (x5 + 1) I6 R6))) ∧ (v5 = 0 → Q (0 : Int32) I5 R5))))))))))))
set_option maxHeartbeats 4000000 in
set_option maxRecDepth 100000 in
theorem L_rn_remember_42 (d : Nat) {q1 : Nat} (hq1 : pSH[q1]? = some (0, 5)) {f4 : Int32} {K : pI → pR → Prop} {Q : Int32 → pI → pR → Prop} {E : pE} {B : pB} (g : pw_G m_rn_remember (d + 5) 0 0 E B) (hF : pX (qz Q) E B) (hK : ∀ (I : pI) (R : pR), pw_Lay R → K  I R → PX E B m_rn_remember.2.2.1 112 [none, none, none, none, none, none] [] I R) : ∀ (n : Nat) (x5 : Int32) (I : pI) (R : pR), pw_Lay R → l_rn_remember_42 q1 f4 K Q n x5 I R → PX E B m_rn_remember.2.2.1 42 [some (.ref 114), none, none, some (.ref (q1 + 2)), some (.int f4), some (.int x5)] [] I R := by
  intro n
  induction n with
  | zero => intro x5 I R hL h; exact False.elim h
  | succ n ih =>
    intro x5 I R hL h
    refine PW.iload g rfl d_rn_remember_42 ?_
    refine PW.iload g rfl d_rn_remember_44 ?_
    refine PW.icmp_ge g 112 (by decide) d_rn_remember_46 (fun c1 => ?_) (fun c1 => ?_)
    · have h := h.1 c1
      refine PX.sub [none, none, none, none, none, none] trivial ?_
      exact hK _ _ hL h
    · have h := h.2 c1
      refine PW.aload_n g rfl rfl d_rn_remember_49 ?_
      refine PW.getR (q := (q1 + 3)) g fi_rn_145 (pw_shp hq1 1 (by decide)) (hL (q1 + 2) 2 0 (pw_shp hq1 1 (by decide)) (by decide)) d_rn_remember_50 ?_
      refine PW.iload g rfl d_rn_remember_53 ?_
      refine PX.cSi [.ref (q1 + 3), .int x5] [] g (c_sr_pick d (pw_shp (pw_shp hq1 1 (by decide)) 0 (by decide)) hL h) cl_rn_45 (by omega) (by decide) rfl rfl (Nat.le_of_ble_eq_true rfl) d_rn_remember_55 (fun v3 I3 R3 hL h => ?_)
      refine PW.iconst g (5) (by decide) d_rn_remember_58 ?_
      refine PW.icmp_ne g 106 (by decide) d_rn_remember_59 (fun c2 => ?_) (fun c2 => ?_)
      · have h := h.1 c2
        refine PW.iinc g rfl (show x5 + Int32.ofInt (1) = (x5 + 1) from congrArg (HAdd.hAdd x5) (by decide)) (by decide) rfl (L' := [some (.ref 114), none, none, some (.ref (q1 + 2)), some (.int f4), some (.int (x5 + 1))]) rfl d_rn_remember_106 ?_
        refine PW.goto g 42 (by decide) d_rn_remember_109 ?_
        refine PX.sub [some (.ref 114), none, none, some (.ref (q1 + 2)), some (.int f4), some (.int (x5 + 1))] ⟨rfl, ⟨rfl, ⟨rfl, ⟨rfl, trivial⟩⟩⟩⟩ ?_
        exact ih _ _ _ hL h
      · have h := h.2 c2
        refine PW.aload_n g rfl rfl d_rn_remember_62 ?_
        refine PW.getR (q := 115) g fi_rn_24 rfl (hL 114 9 0 rfl (by decide)) d_rn_remember_63 ?_
        refine PW.iload g rfl d_rn_remember_66 ?_
        refine PW.iconst g (1) (by decide) d_rn_remember_68 ?_
        refine PW.iadd g d_rn_remember_69 ?_
        refine PW.aload_n g rfl rfl d_rn_remember_70 ?_
        refine PW.getR (q := (q1 + 5)) g fi_rn_150 (pw_shp hq1 1 (by decide)) (hL (q1 + 2) 2 2 (pw_shp hq1 1 (by decide)) (by decide)) d_rn_remember_71 ?_
        refine PW.iload g rfl d_rn_remember_74 ?_
        refine PX.cSi [.ref (q1 + 5), .int x5] [.int (x5 + (1 : Int32)), .ref 115] g (c_sr_pick d (pw_shp (pw_shp hq1 1 (by decide)) 2 (by decide)) hL h) cl_rn_45 (by omega) (by decide) rfl rfl (Nat.le_of_ble_eq_true rfl) d_rn_remember_76 (fun v4 I4 R4 hL h => ?_)
        refine PX.cVz [.int (x5 + (1 : Int32)), .int v4] [] g rfl ck_ev (c_ev_evaluate d  hL h) cl_rn_96 (by omega) (by decide) rfl rfl (Nat.le_of_ble_eq_true rfl) d_rn_remember_79 (fun v5 I5 R5 hL hzv5 h => ?_)
        refine PW.if_ne g 87 (by decide) d_rn_remember_82 (fun c3 => ?_) (fun c3 => ?_)
        · have h := h.1 c3
          refine PW.aload_n g rfl rfl d_rn_remember_87 ?_
          refine PW.getR (q := 115) g fi_rn_24 rfl (hL 114 9 0 rfl (by decide)) d_rn_remember_88 ?_
          refine PW.getR (q := 119) g fi_rn_153 rfl (hL 115 4 3 rfl (by decide)) d_rn_remember_91 ?_
          refine PW.iload g rfl d_rn_remember_94 ?_
          refine PW.aload_n g rfl rfl d_rn_remember_96 ?_
          refine PW.getR (q := 115) g fi_rn_24 rfl (hL 114 9 0 rfl (by decide)) d_rn_remember_97 ?_
          refine PW.getI g fi_rn_105 rfl d_rn_remember_100 ?_
          refine PX.cSv [.ref 119, .int x5, .int (I5 115 10)] [] g (c_sr_put d rfl hL h) cl_rn_108 (by omega) (by decide) rfl rfl (Nat.le_of_ble_eq_true rfl) d_rn_remember_103 (fun I6 R6 hL h => ?_)
          refine PW.iinc g rfl (show x5 + Int32.ofInt (1) = (x5 + 1) from congrArg (HAdd.hAdd x5) (by decide)) (by decide) rfl (L' := [some (.ref 114), none, none, some (.ref (q1 + 2)), some (.int f4), some (.int (x5 + 1))]) rfl d_rn_remember_106 ?_
          refine PW.goto g 42 (by decide) d_rn_remember_109 ?_
          refine PX.sub [some (.ref 114), none, none, some (.ref (q1 + 2)), some (.int f4), some (.int (x5 + 1))] ⟨rfl, ⟨rfl, ⟨rfl, ⟨rfl, trivial⟩⟩⟩⟩ ?_
          exact ih _ _ _ hL h
        · have h := h.2 c3
          refine PW.iconst g (0) (by decide) d_rn_remember_85 ?_
          exact PX.zret g hF rfl (Or.inl rfl) d_rn_remember_86 hL h
def w_rn_remember (a1 : Int32) (a2 : Int32) (I : pI) (R : pR) (Q : Int32 → pI → pR → Prop) : Prop := (∃ q1, R 114 1 = some q1 ∧ pSH[q1]? = some (0, 5) ∧ (∃ q2, R 114 1 = some q2 ∧ pSH[q2]? = some (0, 5) ∧ (w_sr_pick (q2 + 12) 61 (a2 - (1 : Int32)) I R (fun v1 I1 R1 => (∃ q3, R1 114 1 = some q3 ∧ pSH[q3]? = some (0, 5) ∧ (w_sr_pick (q3 + 11) 61 a1 I1 R1 (fun v2 I2 R2 => (∃ n1, l_rn_remember_42 q1 v1 (fun I7 R7 => Q (1 : Int32) I7 R7) Q n1 v2 I2 R2))))))))
set_option maxHeartbeats 4000000 in
set_option maxRecDepth 100000 in
theorem c_rn_remember (d : Nat) {a1 : Int32} {a2 : Int32} {I : pI} {R : pR} {Q : Int32 → pI → pR → Prop} (hL : pw_Lay R) (h : w_rn_remember a1 a2 I R Q) : Cm (d + 5) m_rn_remember [.ref 114, .int a1, .int a2] I R (qz Q) := by
  refine Cm.of [some (.ref 114), some (.int a1), some (.int a2), none, none, none] (by decide) rfl (Nat.le_of_ble_eq_true rfl) (by simp) (fun E B g hF => ?_)
  unfold w_rn_remember at h
  refine PW.aload_n g rfl rfl d_rn_remember_0 ?_
  obtain ⟨q1, eq1, hq1, h⟩ := h
  refine PW.getR (q := q1) g fi_rn_9 rfl eq1 d_rn_remember_1 ?_
  refine PW.getR (q := (q1 + 2)) g fi_rn_141 hq1 (hL q1 5 1 hq1 (by decide)) d_rn_remember_4 ?_
  refine PW.astore_n g rfl (L' := [some (.ref 114), some (.int a1), some (.int a2), some (.ref (q1 + 2)), none, none]) (by decide) rfl rfl d_rn_remember_7 ?_
  refine PW.aload_n g rfl rfl d_rn_remember_8 ?_
  obtain ⟨q2, eq2, hq2, h⟩ := h
  refine PW.getR (q := q2) g fi_rn_9 rfl eq2 d_rn_remember_9 ?_
  refine PW.getR (q := (q2 + 7)) g fi_rn_61 hq2 (hL q2 5 2 hq2 (by decide)) d_rn_remember_12 ?_
  refine PW.getR (q := (q2 + 12)) g fi_rn_93 (pw_shp hq2 2 (by decide)) (hL (q2 + 7) 10 4 (pw_shp hq2 2 (by decide)) (by decide)) d_rn_remember_15 ?_
  refine PW.iload_n g rfl rfl d_rn_remember_18 ?_
  refine PW.iconst g (1) (by decide) d_rn_remember_19 ?_
  refine PW.isub g d_rn_remember_20 ?_
  refine PX.cSi [.ref (q2 + 12), .int (a2 - (1 : Int32))] [] g (c_sr_pick d (pw_shp (pw_shp hq2 2 (by decide)) 4 (by decide)) hL h) cl_rn_45 (by omega) (by decide) rfl rfl (Nat.le_of_ble_eq_true rfl) d_rn_remember_21 (fun v1 I1 R1 hL h => ?_)
  refine PW.istore g (L' := [some (.ref 114), some (.int a1), some (.int a2), some (.ref (q1 + 2)), some (.int v1), none]) (by decide) rfl rfl d_rn_remember_24 ?_
  refine PW.aload_n g rfl rfl d_rn_remember_26 ?_
  obtain ⟨q3, eq3, hq3, h⟩ := h
  refine PW.getR (q := q3) g fi_rn_9 rfl eq3 d_rn_remember_27 ?_
  refine PW.getR (q := (q3 + 7)) g fi_rn_61 hq3 (hL q3 5 2 hq3 (by decide)) d_rn_remember_30 ?_
  refine PW.getR (q := (q3 + 11)) g fi_rn_90 (pw_shp hq3 2 (by decide)) (hL (q3 + 7) 10 3 (pw_shp hq3 2 (by decide)) (by decide)) d_rn_remember_33 ?_
  refine PW.iload_n g rfl rfl d_rn_remember_36 ?_
  refine PX.cSi [.ref (q3 + 11), .int a1] [] g (c_sr_pick d (pw_shp (pw_shp hq3 2 (by decide)) 3 (by decide)) hL h) cl_rn_45 (by omega) (by decide) rfl rfl (Nat.le_of_ble_eq_true rfl) d_rn_remember_37 (fun v2 I2 R2 hL h => ?_)
  refine PW.istore g (L' := [some (.ref 114), some (.int a1), some (.int a2), some (.ref (q1 + 2)), some (.int v1), some (.int v2)]) (by decide) rfl rfl d_rn_remember_40 ?_
  refine PX.sub [some (.ref 114), none, none, some (.ref (q1 + 2)), some (.int v1), some (.int v2)] ⟨rfl, ⟨rfl, ⟨rfl, ⟨rfl, trivial⟩⟩⟩⟩ ?_
  obtain ⟨n1, h⟩ := h
  refine L_rn_remember_42 d hq1 g hF (fun I7 R7 hL h => ?_) n1 v2 I2 R2 hL h
  refine PW.iconst g (1) (by decide) d_rn_remember_112 ?_
  exact PX.zret g hF rfl (Or.inr rfl) d_rn_remember_113 hL h
def l_rn_has_3 (f1 : Int32) (f3 : Int32) (K : pI → pR → Prop) (Q : Int32 → pI → pR → Prop) : Nat → Int32 → pI → pR → Prop
  | 0, _, _, _ => False
  | n + 1, x4, I, R => ((f3 ≤ x4 → K I R) ∧ (¬ f3 ≤ x4 → (∃ q1, R 114 1 = some q1 ∧ pSH[q1]? = some (0, 5) ∧ (w_st_kindOf (q1 + 7) x4 I R (fun v1 I1 R1 => ((¬ v1 = f1 → l_rn_has_3 f1 f3 K Q n (x4 + 1) I1 R1) ∧ (v1 = f1 → Q (1 : Int32) I1 R1)))))))
set_option maxHeartbeats 4000000 in
set_option maxRecDepth 100000 in
theorem L_rn_has_3 (d : Nat) {f1 : Int32} {f3 : Int32} {K : pI → pR → Prop} {Q : Int32 → pI → pR → Prop} {E : pE} {B : pB} (g : pw_G m_rn_has (d + 2) 0 0 E B) (hF : pX (qz Q) E B) (hK : ∀ (I : pI) (R : pR), pw_Lay R → K  I R → PX E B m_rn_has.2.2.1 33 [none, none, none, none, none] [] I R) : ∀ (n : Nat) (x4 : Int32) (I : pI) (R : pR), pw_Lay R → l_rn_has_3 f1 f3 K Q n x4 I R → PX E B m_rn_has.2.2.1 3 [some (.ref 114), some (.int f1), none, some (.int f3), some (.int x4)] [] I R := by
  intro n
  induction n with
  | zero => intro x4 I R hL h; exact False.elim h
  | succ n ih =>
    intro x4 I R hL h
    refine PW.iload g rfl d_rn_has_3 ?_
    refine PW.iload_n g rfl rfl d_rn_has_5 ?_
    refine PW.icmp_ge g 33 (by decide) d_rn_has_6 (fun c1 => ?_) (fun c1 => ?_)
    · have h := h.1 c1
      refine PX.sub [none, none, none, none, none] trivial ?_
      exact hK _ _ hL h
    · have h := h.2 c1
      refine PW.aload_n g rfl rfl d_rn_has_9 ?_
      obtain ⟨q1, eq1, hq1, h⟩ := h
      refine PW.getR (q := q1) g fi_rn_9 rfl eq1 d_rn_has_10 ?_
      refine PW.getR (q := (q1 + 7)) g fi_rn_61 hq1 (hL q1 5 2 hq1 (by decide)) d_rn_has_13 ?_
      refine PW.iload g rfl d_rn_has_16 ?_
      refine PX.cVi [.int x4] [] g (pw_shp hq1 2 (by decide)) ck_st (c_st_kindOf d (pw_shp hq1 2 (by decide)) hL h) cl_rn_65 (by omega) (by decide) rfl rfl (Nat.le_of_ble_eq_true rfl) d_rn_has_18 (fun v1 I1 R1 hL h => ?_)
      refine PW.iload_n g rfl rfl d_rn_has_21 ?_
      refine PW.icmp_ne g 27 (by decide) d_rn_has_22 (fun c2 => ?_) (fun c2 => ?_)
      · have h := h.1 c2
        refine PW.iinc g rfl (show x4 + Int32.ofInt (1) = (x4 + 1) from congrArg (HAdd.hAdd x4) (by decide)) (by decide) rfl (L' := [some (.ref 114), some (.int f1), none, some (.int f3), some (.int (x4 + 1))]) rfl d_rn_has_27 ?_
        refine PW.goto g 3 (by decide) d_rn_has_30 ?_
        refine PX.sub [some (.ref 114), some (.int f1), none, some (.int f3), some (.int (x4 + 1))] ⟨rfl, ⟨rfl, ⟨rfl, ⟨rfl, trivial⟩⟩⟩⟩ ?_
        exact ih _ _ _ hL h
      · have h := h.2 c2
        refine PW.iconst g (1) (by decide) d_rn_has_25 ?_
        exact PX.zret g hF rfl (Or.inr rfl) d_rn_has_26 hL h
def w_rn_has (a1 : Int32) (a2 : Int32) (a3 : Int32) (I : pI) (R : pR) (Q : Int32 → pI → pR → Prop) : Prop := (∃ n1, l_rn_has_3 a1 a3 (fun I2 R2 => Q (0 : Int32) I2 R2) Q n1 a2 I R)
set_option maxHeartbeats 4000000 in
set_option maxRecDepth 100000 in
theorem c_rn_has (d : Nat) {a1 : Int32} {a2 : Int32} {a3 : Int32} {I : pI} {R : pR} {Q : Int32 → pI → pR → Prop} (hL : pw_Lay R) (h : w_rn_has a1 a2 a3 I R Q) : Cm (d + 2) m_rn_has [.ref 114, .int a1, .int a2, .int a3] I R (qz Q) := by
  refine Cm.of [some (.ref 114), some (.int a1), some (.int a2), some (.int a3), none] (by decide) rfl (Nat.le_of_ble_eq_true rfl) (by simp) (fun E B g hF => ?_)
  unfold w_rn_has at h
  refine PW.iload_n g rfl rfl d_rn_has_0 ?_
  refine PW.istore g (L' := [some (.ref 114), some (.int a1), some (.int a2), some (.int a3), some (.int a2)]) (by decide) rfl rfl d_rn_has_1 ?_
  refine PX.sub [some (.ref 114), some (.int a1), none, some (.int a3), some (.int a2)] ⟨rfl, ⟨rfl, ⟨rfl, ⟨rfl, trivial⟩⟩⟩⟩ ?_
  obtain ⟨n1, h⟩ := h
  refine L_rn_has_3 d g hF (fun I2 R2 hL h => ?_) n1 a2 I R hL h
  refine PW.iconst g (0) (by decide) d_rn_has_33 ?_
  exact PX.zret g hF rfl (Or.inl rfl) d_rn_has_34 hL h
def w_rn_holds (a1 : Int32) (I : pI) (R : pR) (Q : Int32 → pI → pR → Prop) : Prop := (w_ev_forgetNotes  I R (fun I1 R1 => (∃ q1, R1 114 1 = some q1 ∧ pSH[q1]? = some (0, 5) ∧ (w_sr_pick (q1 + 11) 61 a1 I1 R1 (fun v2 I2 R2 => (∃ q2, R2 114 1 = some q2 ∧ pSH[q2]? = some (0, 5) ∧ (w_sr_pick (q2 + 12) 61 a1 I2 R2 (fun v3 I3 R3 => (w_ev_evaluate v2 v3 I3 R3 (fun v4 I4 R4 => ((¬ v4 = 0 → (((I4 115 10) = 0 → (∃ q3, R4 114 1 = some q3 ∧ pSH[q3]? = some (0, 5) ∧ (w_st_placeOf (q3 + 7) a1 I4 R4 (fun v5 I5 R5 => (∃ q4, R5 114 2 = some q4 ∧ pSH[q4]? = some (0, 6) ∧ (w_oc_fail q4 (1 : Int32) v5 I5 R5 (fun I6 R6 => (∃ q5, R6 114 2 = some q5 ∧ pSH[q5]? = some (0, 6) ∧ (∃ q6, R6 114 1 = some q6 ∧ pSH[q6]? = some (0, 5) ∧ (∃ q7, R6 114 1 = some q7 ∧ pSH[q7]? = some (0, 5) ∧ (w_sr_pick (q7 + 10) 61 a1 I6 R6 (fun v7 I7 R7 => (w_dr_write (q5 + 3) (q6 + 1) v5 v7 I7 R7 (fun I8 R8 => (∃ q8, R8 114 2 = some q8 ∧ pSH[q8]? = some (0, 6) ∧ (w_dr_addValues (q8 + 3) 117 120 118 120 v5 I8 R8 (fun I9 R9 => Q (0 : Int32) I9 R9))))))))))))))))) ∧ (¬ (I4 115 10) = 0 → Q (1 : Int32) I4 R4))) ∧ (v4 = 0 → (w_rn_lose  I4 R4 (fun v10 I10 R10 => Q v10 I10 R10))))))))))))))
set_option maxHeartbeats 4000000 in
set_option maxRecDepth 100000 in
theorem c_rn_holds (d : Nat) {a1 : Int32} {I : pI} {R : pR} {Q : Int32 → pI → pR → Prop} (hL : pw_Lay R) (h : w_rn_holds a1 I R Q) : Cm (d + 5) m_rn_holds [.ref 114, .int a1] I R (qz Q) := by
  refine Cm.of [some (.ref 114), some (.int a1), none] (by decide) rfl (Nat.le_of_ble_eq_true rfl) (by simp) (fun E B g hF => ?_)
  unfold w_rn_holds at h
  refine PW.aload_n g rfl rfl d_rn_holds_0 ?_
  refine PW.getR (q := 115) g fi_rn_24 rfl (hL 114 9 0 rfl (by decide)) d_rn_holds_1 ?_
  refine PX.cVv [] [] g rfl ck_ev (c_ev_forgetNotes d  hL h) cl_rn_162 (by omega) (by decide) rfl rfl (Nat.le_of_ble_eq_true rfl) d_rn_holds_4 (fun I1 R1 hL h => ?_)
  refine PW.aload_n g rfl rfl d_rn_holds_7 ?_
  refine PW.getR (q := 115) g fi_rn_24 rfl (hL 114 9 0 rfl (by decide)) d_rn_holds_8 ?_
  refine PW.aload_n g rfl rfl d_rn_holds_11 ?_
  obtain ⟨q1, eq1, hq1, h⟩ := h
  refine PW.getR (q := q1) g fi_rn_9 rfl eq1 d_rn_holds_12 ?_
  refine PW.getR (q := (q1 + 7)) g fi_rn_61 hq1 (hL q1 5 2 hq1 (by decide)) d_rn_holds_15 ?_
  refine PW.getR (q := (q1 + 11)) g fi_rn_90 (pw_shp hq1 2 (by decide)) (hL (q1 + 7) 10 3 (pw_shp hq1 2 (by decide)) (by decide)) d_rn_holds_18 ?_
  refine PW.iload_n g rfl rfl d_rn_holds_21 ?_
  refine PX.cSi [.ref (q1 + 11), .int a1] [.ref 115] g (c_sr_pick d (pw_shp (pw_shp hq1 2 (by decide)) 3 (by decide)) hL h) cl_rn_45 (by omega) (by decide) rfl rfl (Nat.le_of_ble_eq_true rfl) d_rn_holds_22 (fun v2 I2 R2 hL h => ?_)
  refine PW.aload_n g rfl rfl d_rn_holds_25 ?_
  obtain ⟨q2, eq2, hq2, h⟩ := h
  refine PW.getR (q := q2) g fi_rn_9 rfl eq2 d_rn_holds_26 ?_
  refine PW.getR (q := (q2 + 7)) g fi_rn_61 hq2 (hL q2 5 2 hq2 (by decide)) d_rn_holds_29 ?_
  refine PW.getR (q := (q2 + 12)) g fi_rn_93 (pw_shp hq2 2 (by decide)) (hL (q2 + 7) 10 4 (pw_shp hq2 2 (by decide)) (by decide)) d_rn_holds_32 ?_
  refine PW.iload_n g rfl rfl d_rn_holds_35 ?_
  refine PX.cSi [.ref (q2 + 12), .int a1] [.int v2, .ref 115] g (c_sr_pick d (pw_shp (pw_shp hq2 2 (by decide)) 4 (by decide)) hL h) cl_rn_45 (by omega) (by decide) rfl rfl (Nat.le_of_ble_eq_true rfl) d_rn_holds_36 (fun v3 I3 R3 hL h => ?_)
  refine PX.cVz [.int v2, .int v3] [] g rfl ck_ev (c_ev_evaluate d  hL h) cl_rn_96 (by omega) (by decide) rfl rfl (Nat.le_of_ble_eq_true rfl) d_rn_holds_39 (fun v4 I4 R4 hL hzv4 h => ?_)
  refine PW.if_ne g 50 (by decide) d_rn_holds_42 (fun c1 => ?_) (fun c1 => ?_)
  · have h := h.1 c1
    refine PW.aload_n g rfl rfl d_rn_holds_50 ?_
    refine PW.getR (q := 115) g fi_rn_24 rfl (hL 114 9 0 rfl (by decide)) d_rn_holds_51 ?_
    refine PW.getI g fi_rn_105 rfl d_rn_holds_54 ?_
    refine PW.if_eq g 62 (by decide) d_rn_holds_57 (fun c2 => ?_) (fun c2 => ?_)
    · have h := h.1 c2
      refine PW.aload_n g rfl rfl d_rn_holds_62 ?_
      obtain ⟨q3, eq3, hq3, h⟩ := h
      refine PW.getR (q := q3) g fi_rn_9 rfl eq3 d_rn_holds_63 ?_
      refine PW.getR (q := (q3 + 7)) g fi_rn_61 hq3 (hL q3 5 2 hq3 (by decide)) d_rn_holds_66 ?_
      refine PW.iload_n g rfl rfl d_rn_holds_69 ?_
      refine PX.cVi [.int a1] [] g (pw_shp hq3 2 (by decide)) ck_st (c_st_placeOf d (pw_shp hq3 2 (by decide)) hL h) cl_rn_156 (by omega) (by decide) rfl rfl (Nat.le_of_ble_eq_true rfl) d_rn_holds_70 (fun v5 I5 R5 hL h => ?_)
      refine PW.istore_n g rfl (L' := [some (.ref 114), some (.int a1), some (.int v5)]) (by decide) rfl rfl d_rn_holds_73 ?_
      refine PW.aload_n g rfl rfl d_rn_holds_74 ?_
      obtain ⟨q4, eq4, hq4, h⟩ := h
      refine PW.getR (q := q4) g fi_rn_15 rfl eq4 d_rn_holds_75 ?_
      refine PW.iconst g (1) (by decide) d_rn_holds_78 ?_
      refine PW.iload_n g rfl rfl d_rn_holds_79 ?_
      refine PX.cVv [.int (1 : Int32), .int v5] [] g hq4 ck_oc (c_oc_fail d hq4 hL h) cl_rn_159 (by omega) (by decide) rfl rfl (Nat.le_of_ble_eq_true rfl) d_rn_holds_80 (fun I6 R6 hL h => ?_)
      refine PW.aload_n g rfl rfl d_rn_holds_83 ?_
      obtain ⟨q5, eq5, hq5, h⟩ := h
      refine PW.getR (q := q5) g fi_rn_15 rfl eq5 d_rn_holds_84 ?_
      refine PW.getR (q := (q5 + 3)) g fi_rn_165 hq5 (hL q5 6 2 hq5 (by decide)) d_rn_holds_87 ?_
      refine PW.aload_n g rfl rfl d_rn_holds_90 ?_
      obtain ⟨q6, eq6, hq6, h⟩ := h
      refine PW.getR (q := q6) g fi_rn_9 rfl eq6 d_rn_holds_91 ?_
      refine PW.getR (q := (q6 + 1)) g fi_rn_169 hq6 (hL q6 5 0 hq6 (by decide)) d_rn_holds_94 ?_
      refine PW.iload_n g rfl rfl d_rn_holds_97 ?_
      refine PW.aload_n g rfl rfl d_rn_holds_98 ?_
      obtain ⟨q7, eq7, hq7, h⟩ := h
      refine PW.getR (q := q7) g fi_rn_9 rfl eq7 d_rn_holds_99 ?_
      refine PW.getR (q := (q7 + 7)) g fi_rn_61 hq7 (hL q7 5 2 hq7 (by decide)) d_rn_holds_102 ?_
      refine PW.getR (q := (q7 + 10)) g fi_rn_173 (pw_shp hq7 2 (by decide)) (hL (q7 + 7) 10 2 (pw_shp hq7 2 (by decide)) (by decide)) d_rn_holds_105 ?_
      refine PW.iload_n g rfl rfl d_rn_holds_108 ?_
      refine PX.cSi [.ref (q7 + 10), .int a1] [.int v5, .ref (q6 + 1), .ref (q5 + 3)] g (c_sr_pick d (pw_shp (pw_shp hq7 2 (by decide)) 2 (by decide)) hL h) cl_rn_45 (by omega) (by decide) rfl rfl (Nat.le_of_ble_eq_true rfl) d_rn_holds_109 (fun v7 I7 R7 hL h => ?_)
      refine PX.cVv [.ref (q6 + 1), .int v5, .int v7] [] g (pw_shp hq5 2 (by decide)) ck_dr (c_dr_write d (pw_shp hq5 2 (by decide)) (pw_shp hq6 0 (by decide)) hL h) cl_rn_176 (by omega) (by decide) rfl rfl (Nat.le_of_ble_eq_true rfl) d_rn_holds_112 (fun I8 R8 hL h => ?_)
      refine PW.aload_n g rfl rfl d_rn_holds_115 ?_
      obtain ⟨q8, eq8, hq8, h⟩ := h
      refine PW.getR (q := q8) g fi_rn_15 rfl eq8 d_rn_holds_116 ?_
      refine PW.getR (q := (q8 + 3)) g fi_rn_165 hq8 (hL q8 6 2 hq8 (by decide)) d_rn_holds_119 ?_
      refine PW.aload_n g rfl rfl d_rn_holds_122 ?_
      refine PW.getR (q := 115) g fi_rn_24 rfl (hL 114 9 0 rfl (by decide)) d_rn_holds_123 ?_
      refine PW.getR (q := 117) g fi_rn_182 rfl (hL 115 4 1 rfl (by decide)) d_rn_holds_126 ?_
      refine PW.aload_n g rfl rfl d_rn_holds_129 ?_
      refine PW.getR (q := 115) g fi_rn_24 rfl (hL 114 9 0 rfl (by decide)) d_rn_holds_130 ?_
      refine PW.getR (q := 118) g fi_rn_185 rfl (hL 115 4 2 rfl (by decide)) d_rn_holds_133 ?_
      refine PW.iload_n g rfl rfl d_rn_holds_136 ?_
      refine PX.cVv [.ref 117, .ref 118, .int v5] [] g (pw_shp hq8 2 (by decide)) ck_dr (c_dr_addValues d (pw_shp hq8 2 (by decide)) rfl rfl hL h) cl_rn_188 (by omega) (by decide) rfl rfl (Nat.le_of_ble_eq_true rfl) d_rn_holds_137 (fun I9 R9 hL h => ?_)
      refine PW.iconst g (0) (by decide) d_rn_holds_140 ?_
      exact PX.zret g hF rfl (Or.inl rfl) d_rn_holds_141 hL h
    · have h := h.2 c2
      refine PW.iconst g (1) (by decide) d_rn_holds_60 ?_
      exact PX.zret g hF rfl (Or.inr rfl) d_rn_holds_61 hL h
  · have h := h.2 c1
    refine PW.aload_n g rfl rfl d_rn_holds_45 ?_
    refine PX.cVz [] [] g rfl ck_rn (c_rn_lose d  hL h) cl_rn_53 (by omega) (by decide) rfl rfl (Nat.le_of_ble_eq_true rfl) d_rn_holds_46 (fun v10 I10 R10 hL hzv10 h => ?_)
    exact PX.zret g hF rfl hzv10 d_rn_holds_49 hL h
def j_rn_suits_23 (Q : Int32 → pI → pR → Prop) (x1 : Int32) (s0 : Int32) (s1 : Int32) (I : pI) (R : pR) : Prop := ((¬ s0 = s1 → Q (1 : Int32) I R) ∧ (s0 = s1 → (∃ q2, R 114 2 = some q2 ∧ pSH[q2]? = some (0, 6) ∧ (∃ q3, R 114 1 = some q3 ∧ pSH[q3]? = some (0, 5) ∧ (w_st_placeOf (q3 + 7) x1 I R (fun v2 I2 R2 => (w_oc_fail q2 (1 : Int32) v2 I2 R2 (fun I3 R3 => Q (0 : Int32) I3 R3))))))))
set_option maxHeartbeats 4000000 in
set_option maxRecDepth 100000 in
theorem J_rn_suits_23 (d : Nat) {Q : Int32 → pI → pR → Prop} {x1 : Int32} {s0 : Int32} {s1 : Int32} {E : pE} {B : pB} (g : pw_G m_rn_suits (d + 2) 0 0 E B) (hF : pX (qz Q) E B) {I : pI} {R : pR} (hL : pw_Lay R) (h : j_rn_suits_23  Q x1 s0 s1 I R) : PX E B m_rn_suits.2.2.1 23 [some (.ref 114), some (.int x1), none, none] [.int s1, .int s0] I R := by
  unfold j_rn_suits_23 at h
  refine PW.icmp_ne g 47 (by decide) d_rn_suits_23 (fun c2 => ?_) (fun c2 => ?_)
  · have h := h.1 c2
    refine PW.iconst g (1) (by decide) d_rn_suits_47 ?_
    exact PX.zret g hF rfl (Or.inr rfl) d_rn_suits_48 hL h
  · have h := h.2 c2
    refine PW.aload_n g rfl rfl d_rn_suits_26 ?_
    obtain ⟨q2, eq2, hq2, h⟩ := h
    refine PW.getR (q := q2) g fi_rn_15 rfl eq2 d_rn_suits_27 ?_
    refine PW.iconst g (1) (by decide) d_rn_suits_30 ?_
    refine PW.aload_n g rfl rfl d_rn_suits_31 ?_
    obtain ⟨q3, eq3, hq3, h⟩ := h
    refine PW.getR (q := q3) g fi_rn_9 rfl eq3 d_rn_suits_32 ?_
    refine PW.getR (q := (q3 + 7)) g fi_rn_61 hq3 (hL q3 5 2 hq3 (by decide)) d_rn_suits_35 ?_
    refine PW.iload_n g rfl rfl d_rn_suits_38 ?_
    refine PX.cVi [.int x1] [.int (1 : Int32), .ref q2] g (pw_shp hq3 2 (by decide)) ck_st (c_st_placeOf d (pw_shp hq3 2 (by decide)) hL h) cl_rn_156 (by omega) (by decide) rfl rfl (Nat.le_of_ble_eq_true rfl) d_rn_suits_39 (fun v2 I2 R2 hL h => ?_)
    refine PX.cVv [.int (1 : Int32), .int v2] [] g hq2 ck_oc (c_oc_fail d hq2 hL h) cl_rn_159 (by omega) (by decide) rfl rfl (Nat.le_of_ble_eq_true rfl) d_rn_suits_42 (fun I3 R3 hL h => ?_)
    refine PW.iconst g (0) (by decide) d_rn_suits_45 ?_
    exact PX.zret g hF rfl (Or.inl rfl) d_rn_suits_46 hL h
def w_rn_suits (a1 : Int32) (a2 : Int32) (I : pI) (R : pR) (Q : Int32 → pI → pR → Prop) : Prop := (∃ q1, R 114 1 = some q1 ∧ pSH[q1]? = some (0, 5) ∧ (w_st_kindOf (q1 + 7) a1 I R (fun v1 I1 R1 => ((a2 = 0 → (j_rn_suits_23 Q a1 v1 (6 : Int32) I1 R1)) ∧ (¬ a2 = 0 → (j_rn_suits_23 Q a1 v1 (5 : Int32) I1 R1))))))
set_option maxHeartbeats 4000000 in
set_option maxRecDepth 100000 in
theorem c_rn_suits (d : Nat) {a1 : Int32} {a2 : Int32} {I : pI} {R : pR} {Q : Int32 → pI → pR → Prop} (hL : pw_Lay R) (h : w_rn_suits a1 a2 I R Q) : Cm (d + 2) m_rn_suits [.ref 114, .int a1, .int a2] I R (qz Q) := by
  refine Cm.of [some (.ref 114), some (.int a1), some (.int a2), none] (by decide) rfl (Nat.le_of_ble_eq_true rfl) (by simp) (fun E B g hF => ?_)
  unfold w_rn_suits at h
  refine PW.aload_n g rfl rfl d_rn_suits_0 ?_
  obtain ⟨q1, eq1, hq1, h⟩ := h
  refine PW.getR (q := q1) g fi_rn_9 rfl eq1 d_rn_suits_1 ?_
  refine PW.getR (q := (q1 + 7)) g fi_rn_61 hq1 (hL q1 5 2 hq1 (by decide)) d_rn_suits_4 ?_
  refine PW.iload_n g rfl rfl d_rn_suits_7 ?_
  refine PX.cVi [.int a1] [] g (pw_shp hq1 2 (by decide)) ck_st (c_st_kindOf d (pw_shp hq1 2 (by decide)) hL h) cl_rn_65 (by omega) (by decide) rfl rfl (Nat.le_of_ble_eq_true rfl) d_rn_suits_8 (fun v1 I1 R1 hL h => ?_)
  refine PW.istore_n g rfl (L' := [some (.ref 114), some (.int a1), some (.int a2), some (.int v1)]) (by decide) rfl rfl d_rn_suits_11 ?_
  refine PW.iload_n g rfl rfl d_rn_suits_12 ?_
  refine PW.iload_n g rfl rfl d_rn_suits_13 ?_
  refine PW.if_eq g 21 (by decide) d_rn_suits_14 (fun c1 => ?_) (fun c1 => ?_)
  · have h := h.1 c1
    refine PW.bipush g (6) (by decide) d_rn_suits_21 ?_
    refine PX.sub [some (.ref 114), some (.int a1), none, none] ⟨rfl, ⟨rfl, trivial⟩⟩ ?_
    exact J_rn_suits_23 d g hF hL h
  · have h := h.2 c1
    refine PW.iconst g (5) (by decide) d_rn_suits_17 ?_
    refine PW.goto g 23 (by decide) d_rn_suits_18 ?_
    refine PX.sub [some (.ref 114), some (.int a1), none, none] ⟨rfl, ⟨rfl, trivial⟩⟩ ?_
    exact J_rn_suits_23 d g hF hL h
def j_rn_rulesAreMet_58 (K2 : Int32 → pI → pR → Prop) (Q : Int32 → pI → pR → Prop) (f2 : Int32) (x3 : Int32) (s0 : Int32) (I : pI) (R : pR) : Prop := (∃ q3, R 114 1 = some q3 ∧ pSH[q3]? = some (0, 5) ∧ (w_st_kindOf (q3 + 7) x3 I R (fun v4 I4 R4 => ((¬ v4 = (7 : Int32) → K2 (x3 + 1) I4 R4) ∧ (v4 = (7 : Int32) → ((¬ s0 = 0 → K2 (x3 + 1) I4 R4) ∧ (s0 = 0 → (∃ q4, R4 114 2 = some q4 ∧ pSH[q4]? = some (0, 6) ∧ (∃ q5, R4 114 1 = some q5 ∧ pSH[q5]? = some (0, 5) ∧ (w_st_placeOf (q5 + 7) x3 I4 R4 (fun v5 I5 R5 => (w_oc_fail q4 (2 : Int32) v5 I5 R5 (fun I6 R6 => Q (0 : Int32) I6 R6)))))))))))))
set_option maxHeartbeats 4000000 in
set_option maxRecDepth 100000 in
theorem J_rn_rulesAreMet_58 (d : Nat) {K2 : Int32 → pI → pR → Prop} {Q : Int32 → pI → pR → Prop} {f2 : Int32} {x3 : Int32} {s0 : Int32} {E : pE} {B : pB} (g : pw_G m_rn_rulesAreMet (d + 2) 0 0 E B) (hF : pX (qz Q) E B) (hK2 : ∀ (y3 : Int32) (I : pI) (R : pR), pw_Lay R → K2 y3 I R → PX E B m_rn_rulesAreMet.2.2.1 2 [some (.ref 114), none, some (.int f2), some (.int y3), none, none] [] I R) {I : pI} {R : pR} (hL : pw_Lay R) (h : j_rn_rulesAreMet_58  K2 Q f2 x3 s0 I R) : PX E B m_rn_rulesAreMet.2.2.1 58 [some (.ref 114), none, some (.int f2), some (.int x3), none, none] [.int s0] I R := by
  unfold j_rn_rulesAreMet_58 at h
  refine PW.istore g (L' := [some (.ref 114), none, some (.int f2), some (.int x3), none, some (.int s0)]) (by decide) rfl rfl d_rn_rulesAreMet_58 ?_
  refine PW.aload_n g rfl rfl d_rn_rulesAreMet_60 ?_
  obtain ⟨q3, eq3, hq3, h⟩ := h
  refine PW.getR (q := q3) g fi_rn_9 rfl eq3 d_rn_rulesAreMet_61 ?_
  refine PW.getR (q := (q3 + 7)) g fi_rn_61 hq3 (hL q3 5 2 hq3 (by decide)) d_rn_rulesAreMet_64 ?_
  refine PW.iload_n g rfl rfl d_rn_rulesAreMet_67 ?_
  refine PX.cVi [.int x3] [] g (pw_shp hq3 2 (by decide)) ck_st (c_st_kindOf d (pw_shp hq3 2 (by decide)) hL h) cl_rn_65 (by omega) (by decide) rfl rfl (Nat.le_of_ble_eq_true rfl) d_rn_rulesAreMet_68 (fun v4 I4 R4 hL h => ?_)
  refine PW.bipush g (7) (by decide) d_rn_rulesAreMet_71 ?_
  refine PW.icmp_ne g 102 (by decide) d_rn_rulesAreMet_73 (fun c3 => ?_) (fun c3 => ?_)
  · have h := h.1 c3
    refine PW.iinc g rfl (show x3 + Int32.ofInt (1) = (x3 + 1) from congrArg (HAdd.hAdd x3) (by decide)) (by decide) rfl (L' := [some (.ref 114), none, some (.int f2), some (.int (x3 + 1)), none, some (.int s0)]) rfl d_rn_rulesAreMet_102 ?_
    refine PW.goto g 2 (by decide) d_rn_rulesAreMet_105 ?_
    refine PX.sub [some (.ref 114), none, some (.int f2), some (.int (x3 + 1)), none, none] ⟨rfl, ⟨rfl, ⟨rfl, trivial⟩⟩⟩ ?_
    exact hK2 _ _ _ hL h
  · have h := h.2 c3
    refine PW.iload g rfl d_rn_rulesAreMet_76 ?_
    refine PW.if_ne g 102 (by decide) d_rn_rulesAreMet_78 (fun c4 => ?_) (fun c4 => ?_)
    · have h := h.1 c4
      refine PW.iinc g rfl (show x3 + Int32.ofInt (1) = (x3 + 1) from congrArg (HAdd.hAdd x3) (by decide)) (by decide) rfl (L' := [some (.ref 114), none, some (.int f2), some (.int (x3 + 1)), none, some (.int s0)]) rfl d_rn_rulesAreMet_102 ?_
      refine PW.goto g 2 (by decide) d_rn_rulesAreMet_105 ?_
      refine PX.sub [some (.ref 114), none, some (.int f2), some (.int (x3 + 1)), none, none] ⟨rfl, ⟨rfl, ⟨rfl, trivial⟩⟩⟩ ?_
      exact hK2 _ _ _ hL h
    · have h := h.2 c4
      refine PW.aload_n g rfl rfl d_rn_rulesAreMet_81 ?_
      obtain ⟨q4, eq4, hq4, h⟩ := h
      refine PW.getR (q := q4) g fi_rn_15 rfl eq4 d_rn_rulesAreMet_82 ?_
      refine PW.iconst g (2) (by decide) d_rn_rulesAreMet_85 ?_
      refine PW.aload_n g rfl rfl d_rn_rulesAreMet_86 ?_
      obtain ⟨q5, eq5, hq5, h⟩ := h
      refine PW.getR (q := q5) g fi_rn_9 rfl eq5 d_rn_rulesAreMet_87 ?_
      refine PW.getR (q := (q5 + 7)) g fi_rn_61 hq5 (hL q5 5 2 hq5 (by decide)) d_rn_rulesAreMet_90 ?_
      refine PW.iload_n g rfl rfl d_rn_rulesAreMet_93 ?_
      refine PX.cVi [.int x3] [.int (2 : Int32), .ref q4] g (pw_shp hq5 2 (by decide)) ck_st (c_st_placeOf d (pw_shp hq5 2 (by decide)) hL h) cl_rn_156 (by omega) (by decide) rfl rfl (Nat.le_of_ble_eq_true rfl) d_rn_rulesAreMet_94 (fun v5 I5 R5 hL h => ?_)
      refine PX.cVv [.int (2 : Int32), .int v5] [] g hq4 ck_oc (c_oc_fail d hq4 hL h) cl_rn_159 (by omega) (by decide) rfl rfl (Nat.le_of_ble_eq_true rfl) d_rn_rulesAreMet_97 (fun I6 R6 hL h => ?_)
      refine PW.iconst g (0) (by decide) d_rn_rulesAreMet_100 ?_
      exact PX.zret g hF rfl (Or.inl rfl) d_rn_rulesAreMet_101 hL h
def l_rn_rulesAreMet_2 (f2 : Int32) (K : pI → pR → Prop) (Q : Int32 → pI → pR → Prop) : Nat → Int32 → pI → pR → Prop
  | 0, _, _, _ => False
  | n + 1, x3, I, R => ((f2 ≤ x3 → K I R) ∧ (¬ f2 ≤ x3 → (∃ q1, R 114 1 = some q1 ∧ pSH[q1]? = some (0, 5) ∧ (w_sr_pick (q1 + 13) 61 x3 I R (fun v1 I1 R1 => (w_sr_pick 120 22 v1 I1 R1 (fun v2 I2 R2 => (∃ q2, R2 114 1 = some q2 ∧ pSH[q2]? = some (0, 5) ∧ (w_sr_pick (q2 + 15) 22 v1 I2 R2 (fun v3 I3 R3 => ((v2 < v3 → (j_rn_rulesAreMet_58 (fun y1 I7 R7 => l_rn_rulesAreMet_2 f2 K Q n y1 I7 R7) Q f2 x3 (0 : Int32) I3 R3)) ∧ (¬ v2 < v3 → (j_rn_rulesAreMet_58 (fun y2 I8 R8 => l_rn_rulesAreMet_2 f2 K Q n y2 I8 R8) Q f2 x3 (1 : Int32) I3 R3)))))))))))))
set_option maxHeartbeats 4000000 in
set_option maxRecDepth 100000 in
theorem L_rn_rulesAreMet_2 (d : Nat) {f2 : Int32} {K : pI → pR → Prop} {Q : Int32 → pI → pR → Prop} {E : pE} {B : pB} (g : pw_G m_rn_rulesAreMet (d + 2) 0 0 E B) (hF : pX (qz Q) E B) (hK : ∀ (I : pI) (R : pR), pw_Lay R → K  I R → PX E B m_rn_rulesAreMet.2.2.1 108 [none, none, none, none, none, none] [] I R) : ∀ (n : Nat) (x3 : Int32) (I : pI) (R : pR), pw_Lay R → l_rn_rulesAreMet_2 f2 K Q n x3 I R → PX E B m_rn_rulesAreMet.2.2.1 2 [some (.ref 114), none, some (.int f2), some (.int x3), none, none] [] I R := by
  intro n
  induction n with
  | zero => intro x3 I R hL h; exact False.elim h
  | succ n ih =>
    intro x3 I R hL h
    refine PW.iload_n g rfl rfl d_rn_rulesAreMet_2 ?_
    refine PW.iload_n g rfl rfl d_rn_rulesAreMet_3 ?_
    refine PW.icmp_ge g 108 (by decide) d_rn_rulesAreMet_4 (fun c1 => ?_) (fun c1 => ?_)
    · have h := h.1 c1
      refine PX.sub [none, none, none, none, none, none] trivial ?_
      exact hK _ _ hL h
    · have h := h.2 c1
      refine PW.aload_n g rfl rfl d_rn_rulesAreMet_7 ?_
      obtain ⟨q1, eq1, hq1, h⟩ := h
      refine PW.getR (q := q1) g fi_rn_9 rfl eq1 d_rn_rulesAreMet_8 ?_
      refine PW.getR (q := (q1 + 7)) g fi_rn_61 hq1 (hL q1 5 2 hq1 (by decide)) d_rn_rulesAreMet_11 ?_
      refine PW.getR (q := (q1 + 13)) g fi_rn_112 (pw_shp hq1 2 (by decide)) (hL (q1 + 7) 10 5 (pw_shp hq1 2 (by decide)) (by decide)) d_rn_rulesAreMet_14 ?_
      refine PW.iload_n g rfl rfl d_rn_rulesAreMet_17 ?_
      refine PX.cSi [.ref (q1 + 13), .int x3] [] g (c_sr_pick d (pw_shp (pw_shp hq1 2 (by decide)) 5 (by decide)) hL h) cl_rn_45 (by omega) (by decide) rfl rfl (Nat.le_of_ble_eq_true rfl) d_rn_rulesAreMet_18 (fun v1 I1 R1 hL h => ?_)
      refine PW.istore g (L' := [some (.ref 114), none, some (.int f2), some (.int x3), some (.int v1), none]) (by decide) rfl rfl d_rn_rulesAreMet_21 ?_
      refine PW.aload_n g rfl rfl d_rn_rulesAreMet_23 ?_
      refine PW.getR (q := 115) g fi_rn_24 rfl (hL 114 9 0 rfl (by decide)) d_rn_rulesAreMet_24 ?_
      refine PW.getR (q := 120) g fi_rn_192 rfl (hL 115 4 4 rfl (by decide)) d_rn_rulesAreMet_27 ?_
      refine PW.iload g rfl d_rn_rulesAreMet_30 ?_
      refine PX.cSi [.ref 120, .int v1] [] g (c_sr_pick d rfl hL h) cl_rn_45 (by omega) (by decide) rfl rfl (Nat.le_of_ble_eq_true rfl) d_rn_rulesAreMet_32 (fun v2 I2 R2 hL h => ?_)
      refine PW.aload_n g rfl rfl d_rn_rulesAreMet_35 ?_
      obtain ⟨q2, eq2, hq2, h⟩ := h
      refine PW.getR (q := q2) g fi_rn_9 rfl eq2 d_rn_rulesAreMet_36 ?_
      refine PW.getR (q := (q2 + 14)) g fi_rn_195 hq2 (hL q2 5 3 hq2 (by decide)) d_rn_rulesAreMet_39 ?_
      refine PW.getR (q := (q2 + 15)) g fi_rn_199 (pw_shp hq2 3 (by decide)) (hL (q2 + 14) 8 0 (pw_shp hq2 3 (by decide)) (by decide)) d_rn_rulesAreMet_42 ?_
      refine PW.iload g rfl d_rn_rulesAreMet_45 ?_
      refine PX.cSi [.ref (q2 + 15), .int v1] [.int v2] g (c_sr_pick d (pw_shp (pw_shp hq2 3 (by decide)) 0 (by decide)) hL h) cl_rn_45 (by omega) (by decide) rfl rfl (Nat.le_of_ble_eq_true rfl) d_rn_rulesAreMet_47 (fun v3 I3 R3 hL h => ?_)
      refine PW.icmp_lt g 57 (by decide) d_rn_rulesAreMet_50 (fun c2 => ?_) (fun c2 => ?_)
      · have h := h.1 c2
        refine PW.iconst g (0) (by decide) d_rn_rulesAreMet_57 ?_
        refine PX.sub [some (.ref 114), none, some (.int f2), some (.int x3), none, none] ⟨rfl, ⟨rfl, ⟨rfl, trivial⟩⟩⟩ ?_
        refine J_rn_rulesAreMet_58 d g hF (fun y1 I7 R7 hL h => ?_) hL h
        refine PX.sub [some (.ref 114), none, some (.int f2), some (.int y1), none, none] ⟨rfl, ⟨rfl, ⟨rfl, trivial⟩⟩⟩ ?_
        exact ih _ _ _ hL h
      · have h := h.2 c2
        refine PW.iconst g (1) (by decide) d_rn_rulesAreMet_53 ?_
        refine PW.goto g 58 (by decide) d_rn_rulesAreMet_54 ?_
        refine PX.sub [some (.ref 114), none, some (.int f2), some (.int x3), none, none] ⟨rfl, ⟨rfl, ⟨rfl, trivial⟩⟩⟩ ?_
        refine J_rn_rulesAreMet_58 d g hF (fun y2 I8 R8 hL h => ?_) hL h
        refine PX.sub [some (.ref 114), none, some (.int f2), some (.int y2), none, none] ⟨rfl, ⟨rfl, ⟨rfl, trivial⟩⟩⟩ ?_
        exact ih _ _ _ hL h
def w_rn_rulesAreMet (a1 : Int32) (a2 : Int32) (I : pI) (R : pR) (Q : Int32 → pI → pR → Prop) : Prop := (∃ n1, l_rn_rulesAreMet_2 a2 (fun I9 R9 => Q (1 : Int32) I9 R9) Q n1 a1 I R)
set_option maxHeartbeats 4000000 in
set_option maxRecDepth 100000 in
theorem c_rn_rulesAreMet (d : Nat) {a1 : Int32} {a2 : Int32} {I : pI} {R : pR} {Q : Int32 → pI → pR → Prop} (hL : pw_Lay R) (h : w_rn_rulesAreMet a1 a2 I R Q) : Cm (d + 2) m_rn_rulesAreMet [.ref 114, .int a1, .int a2] I R (qz Q) := by
  refine Cm.of [some (.ref 114), some (.int a1), some (.int a2), none, none, none] (by decide) rfl (Nat.le_of_ble_eq_true rfl) (by simp) (fun E B g hF => ?_)
  unfold w_rn_rulesAreMet at h
  refine PW.iload_n g rfl rfl d_rn_rulesAreMet_0 ?_
  refine PW.istore_n g rfl (L' := [some (.ref 114), some (.int a1), some (.int a2), some (.int a1), none, none]) (by decide) rfl rfl d_rn_rulesAreMet_1 ?_
  refine PX.sub [some (.ref 114), none, some (.int a2), some (.int a1), none, none] ⟨rfl, ⟨rfl, ⟨rfl, trivial⟩⟩⟩ ?_
  obtain ⟨n1, h⟩ := h
  refine L_rn_rulesAreMet_2 d g hF (fun I9 R9 hL h => ?_) n1 a1 I R hL h
  refine PW.iconst g (1) (by decide) d_rn_rulesAreMet_108 ?_
  exact PX.zret g hF rfl (Or.inr rfl) d_rn_rulesAreMet_109 hL h
def l_rn_whenAndThen_71 (f1 : Int32) (f2 : Int32) (f3 : Int32) (K : pI → pR → Prop) (Q : Int32 → pI → pR → Prop) : Nat → Int32 → pI → pR → Prop
  | 0, _, _, _ => False
  | n + 1, x4, I, R => ((f2 ≤ x4 → K I R) ∧ (¬ f2 ≤ x4 → (∃ q1, R 114 1 = some q1 ∧ pSH[q1]? = some (0, 5) ∧ (w_st_kindOf (q1 + 7) x4 I R (fun v5 I5 R5 => ((¬ v5 = (4 : Int32) → (w_rn_suits x4 f3 I5 R5 (fun v6 I6 R6 => ((¬ v6 = 0 → l_rn_whenAndThen_71 f1 f2 f3 K Q n (x4 + 1) I6 R6) ∧ (v6 = 0 → Q (0 : Int32) I6 R6))))) ∧ (v5 = (4 : Int32) → (w_rn_holds x4 I5 R5 (fun v7 I7 R7 => ((¬ v7 = 0 → l_rn_whenAndThen_71 f1 f2 f3 K Q n (x4 + 1) I7 R7) ∧ (v7 = 0 → Q (0 : Int32) I7 R7)))))))))))
set_option maxHeartbeats 4000000 in
set_option maxRecDepth 100000 in
theorem L_rn_whenAndThen_71 (d : Nat) {f1 : Int32} {f2 : Int32} {f3 : Int32} {K : pI → pR → Prop} {Q : Int32 → pI → pR → Prop} {E : pE} {B : pB} (g : pw_G m_rn_whenAndThen (d + 6) 0 0 E B) (hF : pX (qz Q) E B) (hK : ∀ (I : pI) (R : pR), pw_Lay R → K  I R → PX E B m_rn_whenAndThen.2.2.1 124 [some (.ref 114), some (.int f1), some (.int f2), none, none, none] [] I R) : ∀ (n : Nat) (x4 : Int32) (I : pI) (R : pR), pw_Lay R → l_rn_whenAndThen_71 f1 f2 f3 K Q n x4 I R → PX E B m_rn_whenAndThen.2.2.1 71 [some (.ref 114), some (.int f1), some (.int f2), some (.int f3), some (.int x4), none] [] I R := by
  intro n
  induction n with
  | zero => intro x4 I R hL h; exact False.elim h
  | succ n ih =>
    intro x4 I R hL h
    refine PW.iload g rfl d_rn_whenAndThen_71 ?_
    refine PW.iload_n g rfl rfl d_rn_whenAndThen_73 ?_
    refine PW.icmp_ge g 124 (by decide) d_rn_whenAndThen_74 (fun c3 => ?_) (fun c3 => ?_)
    · have h := h.1 c3
      refine PX.sub [some (.ref 114), some (.int f1), some (.int f2), none, none, none] ⟨rfl, ⟨rfl, ⟨rfl, trivial⟩⟩⟩ ?_
      exact hK _ _ hL h
    · have h := h.2 c3
      refine PW.aload_n g rfl rfl d_rn_whenAndThen_77 ?_
      obtain ⟨q1, eq1, hq1, h⟩ := h
      refine PW.getR (q := q1) g fi_rn_9 rfl eq1 d_rn_whenAndThen_78 ?_
      refine PW.getR (q := (q1 + 7)) g fi_rn_61 hq1 (hL q1 5 2 hq1 (by decide)) d_rn_whenAndThen_81 ?_
      refine PW.iload g rfl d_rn_whenAndThen_84 ?_
      refine PX.cVi [.int x4] [] g (pw_shp hq1 2 (by decide)) ck_st (c_st_kindOf d (pw_shp hq1 2 (by decide)) hL h) cl_rn_65 (by omega) (by decide) rfl rfl (Nat.le_of_ble_eq_true rfl) d_rn_whenAndThen_86 (fun v5 I5 R5 hL h => ?_)
      refine PW.iconst g (4) (by decide) d_rn_whenAndThen_89 ?_
      refine PW.icmp_ne g 102 (by decide) d_rn_whenAndThen_90 (fun c4 => ?_) (fun c4 => ?_)
      · have h := h.1 c4
        refine PW.aload_n g rfl rfl d_rn_whenAndThen_102 ?_
        refine PW.iload g rfl d_rn_whenAndThen_103 ?_
        refine PW.iload_n g rfl rfl d_rn_whenAndThen_105 ?_
        refine PX.cVz [.int x4, .int f3] [] g rfl ck_rn (c_rn_suits d  hL h) cl_rn_134 (by omega) (by decide) rfl rfl (Nat.le_of_ble_eq_true rfl) d_rn_whenAndThen_106 (fun v6 I6 R6 hL hzv6 h => ?_)
        refine PW.istore g (L' := [some (.ref 114), some (.int f1), some (.int f2), some (.int f3), some (.int x4), some (.int v6)]) (by decide) rfl rfl d_rn_whenAndThen_109 ?_
        refine PW.iload g rfl d_rn_whenAndThen_111 ?_
        refine PW.if_ne g 118 (by decide) d_rn_whenAndThen_113 (fun c5 => ?_) (fun c5 => ?_)
        · have h := h.1 c5
          refine PW.iinc g rfl (show x4 + Int32.ofInt (1) = (x4 + 1) from congrArg (HAdd.hAdd x4) (by decide)) (by decide) rfl (L' := [some (.ref 114), some (.int f1), some (.int f2), some (.int f3), some (.int (x4 + 1)), some (.int v6)]) rfl d_rn_whenAndThen_118 ?_
          refine PW.goto g 71 (by decide) d_rn_whenAndThen_121 ?_
          refine PX.sub [some (.ref 114), some (.int f1), some (.int f2), some (.int f3), some (.int (x4 + 1)), none] ⟨rfl, ⟨rfl, ⟨rfl, ⟨rfl, ⟨rfl, trivial⟩⟩⟩⟩⟩ ?_
          exact ih _ _ _ hL h
        · have h := h.2 c5
          refine PW.iconst g (0) (by decide) d_rn_whenAndThen_116 ?_
          exact PX.zret g hF rfl (Or.inl rfl) d_rn_whenAndThen_117 hL h
      · have h := h.2 c4
        refine PW.aload_n g rfl rfl d_rn_whenAndThen_93 ?_
        refine PW.iload g rfl d_rn_whenAndThen_94 ?_
        refine PX.cVz [.int x4] [] g rfl ck_rn (c_rn_holds d  hL h) cl_rn_115 (by omega) (by decide) rfl rfl (Nat.le_of_ble_eq_true rfl) d_rn_whenAndThen_96 (fun v7 I7 R7 hL hzv7 h => ?_)
        refine PW.goto g 109 (by decide) d_rn_whenAndThen_99 ?_
        refine PW.istore g (L' := [some (.ref 114), some (.int f1), some (.int f2), some (.int f3), some (.int x4), some (.int v7)]) (by decide) rfl rfl d_rn_whenAndThen_109 ?_
        refine PW.iload g rfl d_rn_whenAndThen_111 ?_
        refine PW.if_ne g 118 (by decide) d_rn_whenAndThen_113 (fun c6 => ?_) (fun c6 => ?_)
        · have h := h.1 c6
          refine PW.iinc g rfl (show x4 + Int32.ofInt (1) = (x4 + 1) from congrArg (HAdd.hAdd x4) (by decide)) (by decide) rfl (L' := [some (.ref 114), some (.int f1), some (.int f2), some (.int f3), some (.int (x4 + 1)), some (.int v7)]) rfl d_rn_whenAndThen_118 ?_
          refine PW.goto g 71 (by decide) d_rn_whenAndThen_121 ?_
          refine PX.sub [some (.ref 114), some (.int f1), some (.int f2), some (.int f3), some (.int (x4 + 1)), none] ⟨rfl, ⟨rfl, ⟨rfl, ⟨rfl, ⟨rfl, trivial⟩⟩⟩⟩⟩ ?_
          exact ih _ _ _ hL h
        · have h := h.2 c6
          refine PW.iconst g (0) (by decide) d_rn_whenAndThen_116 ?_
          exact PX.zret g hF rfl (Or.inl rfl) d_rn_whenAndThen_117 hL h
def w_rn_whenAndThen (a1 : Int32) (a2 : Int32) (I : pI) (R : pR) (Q : Int32 → pI → pR → Prop) : Prop := (w_rn_remember a1 a2 I R (fun v1 I1 R1 => ((¬ v1 = 0 → (w_ev_enforce a1 a2 I1 R1 (fun I2 R2 => (w_rn_steps (1 : Int32) a1 a2 I2 R2 (fun v3 I3 R3 => (w_ev_release  I3 R3 (fun I4 R4 => ((¬ v3 = 0 → (∃ n1, l_rn_whenAndThen_71 a1 a2 v3 (fun I8 R8 => (w_rn_rulesAreMet a1 a2 I8 R8 (fun v8 I9 R9 => Q v8 I9 R9))) Q n1 a1 I4 R4)) ∧ (v3 = 0 → ((¬ (I4 115 11) = (3 : Int32) → (w_rn_lose  I4 R4 (fun v9 I10 R10 => Q v9 I10 R10))) ∧ ((I4 115 11) = (3 : Int32) → (w_rn_has (5 : Int32) a1 a2 I4 R4 (fun v10 I11 R11 => ((¬ v10 = 0 → (∃ n2, l_rn_whenAndThen_71 a1 a2 v3 (fun I12 R12 => (w_rn_rulesAreMet a1 a2 I12 R12 (fun v11 I13 R13 => Q v11 I13 R13))) Q n2 a1 I11 R11)) ∧ (v10 = 0 → (w_rn_lose  I11 R11 (fun v12 I14 R14 => Q v12 I14 R14))))))))))))))))) ∧ (v1 = 0 → (w_rn_lose  I1 R1 (fun v13 I15 R15 => Q v13 I15 R15))))))
set_option maxHeartbeats 4000000 in
set_option maxRecDepth 100000 in
theorem c_rn_whenAndThen (d : Nat) {a1 : Int32} {a2 : Int32} {I : pI} {R : pR} {Q : Int32 → pI → pR → Prop} (hL : pw_Lay R) (h : w_rn_whenAndThen a1 a2 I R Q) : Cm (d + 6) m_rn_whenAndThen [.ref 114, .int a1, .int a2] I R (qz Q) := by
  refine Cm.of [some (.ref 114), some (.int a1), some (.int a2), none, none, none] (by decide) rfl (Nat.le_of_ble_eq_true rfl) (by simp) (fun E B g hF => ?_)
  unfold w_rn_whenAndThen at h
  refine PW.aload_n g rfl rfl d_rn_whenAndThen_0 ?_
  refine PW.iload_n g rfl rfl d_rn_whenAndThen_1 ?_
  refine PW.iload_n g rfl rfl d_rn_whenAndThen_2 ?_
  refine PX.cVz [.int a1, .int a2] [] g rfl ck_rn (c_rn_remember d  hL h) cl_rn_118 (by omega) (by decide) rfl rfl (Nat.le_of_ble_eq_true rfl) d_rn_whenAndThen_3 (fun v1 I1 R1 hL hzv1 h => ?_)
  refine PW.if_ne g 14 (by decide) d_rn_whenAndThen_6 (fun c1 => ?_) (fun c1 => ?_)
  · have h := h.1 c1
    refine PW.aload_n g rfl rfl d_rn_whenAndThen_14 ?_
    refine PW.getR (q := 115) g fi_rn_24 rfl (hL 114 9 0 rfl (by decide)) d_rn_whenAndThen_15 ?_
    refine PW.iload_n g rfl rfl d_rn_whenAndThen_18 ?_
    refine PW.iload_n g rfl rfl d_rn_whenAndThen_19 ?_
    refine PX.cVv [.int a1, .int a2] [] g rfl ck_ev (c_ev_enforce d  hL h) cl_rn_121 (by omega) (by decide) rfl rfl (Nat.le_of_ble_eq_true rfl) d_rn_whenAndThen_20 (fun I2 R2 hL h => ?_)
    refine PW.aload_n g rfl rfl d_rn_whenAndThen_23 ?_
    refine PW.iconst g (1) (by decide) d_rn_whenAndThen_24 ?_
    refine PW.iload_n g rfl rfl d_rn_whenAndThen_25 ?_
    refine PW.iload_n g rfl rfl d_rn_whenAndThen_26 ?_
    refine PX.cVz [.int (1 : Int32), .int a1, .int a2] [] g rfl ck_rn (c_rn_steps d  hL h) cl_rn_49 (by omega) (by decide) rfl rfl (Nat.le_of_ble_eq_true rfl) d_rn_whenAndThen_27 (fun v3 I3 R3 hL hzv3 h => ?_)
    refine PW.istore_n g rfl (L' := [some (.ref 114), some (.int a1), some (.int a2), some (.int v3), none, none]) (by decide) rfl rfl d_rn_whenAndThen_30 ?_
    refine PW.aload_n g rfl rfl d_rn_whenAndThen_31 ?_
    refine PW.getR (q := 115) g fi_rn_24 rfl (hL 114 9 0 rfl (by decide)) d_rn_whenAndThen_32 ?_
    refine PX.cVv [] [] g rfl ck_ev (c_ev_release d  hL h) cl_rn_125 (by omega) (by decide) rfl rfl (Nat.le_of_ble_eq_true rfl) d_rn_whenAndThen_35 (fun I4 R4 hL h => ?_)
    refine PW.iload_n g rfl rfl d_rn_whenAndThen_38 ?_
    refine PW.if_ne g 68 (by decide) d_rn_whenAndThen_39 (fun c2 => ?_) (fun c2 => ?_)
    · have h := h.1 c2
      refine PW.iload_n g rfl rfl d_rn_whenAndThen_68 ?_
      refine PW.istore g (L' := [some (.ref 114), some (.int a1), some (.int a2), some (.int v3), some (.int a1), none]) (by decide) rfl rfl d_rn_whenAndThen_69 ?_
      refine PX.sub [some (.ref 114), some (.int a1), some (.int a2), some (.int v3), some (.int a1), none] ⟨rfl, ⟨rfl, ⟨rfl, ⟨rfl, ⟨rfl, trivial⟩⟩⟩⟩⟩ ?_
      obtain ⟨n1, h⟩ := h
      refine L_rn_whenAndThen_71 d g hF (fun I8 R8 hL h => ?_) n1 a1 I4 R4 hL h
      refine PW.aload_n g rfl rfl d_rn_whenAndThen_124 ?_
      refine PW.iload_n g rfl rfl d_rn_whenAndThen_125 ?_
      refine PW.iload_n g rfl rfl d_rn_whenAndThen_126 ?_
      refine PX.cVz [.int a1, .int a2] [] g rfl ck_rn (c_rn_rulesAreMet d  hL h) cl_rn_138 (by omega) (by decide) rfl rfl (Nat.le_of_ble_eq_true rfl) d_rn_whenAndThen_127 (fun v8 I9 R9 hL hzv8 h => ?_)
      exact PX.zret g hF rfl hzv8 d_rn_whenAndThen_130 hL h
    · have h := h.2 c2
      refine PW.aload_n g rfl rfl d_rn_whenAndThen_42 ?_
      refine PW.getR (q := 115) g fi_rn_24 rfl (hL 114 9 0 rfl (by decide)) d_rn_whenAndThen_43 ?_
      refine PW.getI g fi_rn_128 rfl d_rn_whenAndThen_46 ?_
      refine PW.iconst g (3) (by decide) d_rn_whenAndThen_49 ?_
      refine PW.icmp_ne g 63 (by decide) d_rn_whenAndThen_50 (fun c7 => ?_) (fun c7 => ?_)
      · have h := h.1 c7
        refine PW.aload_n g rfl rfl d_rn_whenAndThen_63 ?_
        refine PX.cVz [] [] g rfl ck_rn (c_rn_lose d  hL h) cl_rn_53 (by omega) (by decide) rfl rfl (Nat.le_of_ble_eq_true rfl) d_rn_whenAndThen_64 (fun v9 I10 R10 hL hzv9 h => ?_)
        exact PX.zret g hF rfl hzv9 d_rn_whenAndThen_67 hL h
      · have h := h.2 c7
        refine PW.aload_n g rfl rfl d_rn_whenAndThen_53 ?_
        refine PW.iconst g (5) (by decide) d_rn_whenAndThen_54 ?_
        refine PW.iload_n g rfl rfl d_rn_whenAndThen_55 ?_
        refine PW.iload_n g rfl rfl d_rn_whenAndThen_56 ?_
        refine PX.cVz [.int (5 : Int32), .int a1, .int a2] [] g rfl ck_rn (c_rn_has d  hL h) cl_rn_131 (by omega) (by decide) rfl rfl (Nat.le_of_ble_eq_true rfl) d_rn_whenAndThen_57 (fun v10 I11 R11 hL hzv10 h => ?_)
        refine PW.if_ne g 68 (by decide) d_rn_whenAndThen_60 (fun c8 => ?_) (fun c8 => ?_)
        · have h := h.1 c8
          refine PW.iload_n g rfl rfl d_rn_whenAndThen_68 ?_
          refine PW.istore g (L' := [some (.ref 114), some (.int a1), some (.int a2), some (.int v3), some (.int a1), none]) (by decide) rfl rfl d_rn_whenAndThen_69 ?_
          refine PX.sub [some (.ref 114), some (.int a1), some (.int a2), some (.int v3), some (.int a1), none] ⟨rfl, ⟨rfl, ⟨rfl, ⟨rfl, ⟨rfl, trivial⟩⟩⟩⟩⟩ ?_
          obtain ⟨n2, h⟩ := h
          refine L_rn_whenAndThen_71 d g hF (fun I12 R12 hL h => ?_) n2 a1 I11 R11 hL h
          refine PW.aload_n g rfl rfl d_rn_whenAndThen_124 ?_
          refine PW.iload_n g rfl rfl d_rn_whenAndThen_125 ?_
          refine PW.iload_n g rfl rfl d_rn_whenAndThen_126 ?_
          refine PX.cVz [.int a1, .int a2] [] g rfl ck_rn (c_rn_rulesAreMet d  hL h) cl_rn_138 (by omega) (by decide) rfl rfl (Nat.le_of_ble_eq_true rfl) d_rn_whenAndThen_127 (fun v11 I13 R13 hL hzv11 h => ?_)
          exact PX.zret g hF rfl hzv11 d_rn_whenAndThen_130 hL h
        · have h := h.2 c8
          refine PW.aload_n g rfl rfl d_rn_whenAndThen_63 ?_
          refine PX.cVz [] [] g rfl ck_rn (c_rn_lose d  hL h) cl_rn_53 (by omega) (by decide) rfl rfl (Nat.le_of_ble_eq_true rfl) d_rn_whenAndThen_64 (fun v12 I14 R14 hL hzv12 h => ?_)
          exact PX.zret g hF rfl hzv12 d_rn_whenAndThen_67 hL h
  · have h := h.2 c1
    refine PW.aload_n g rfl rfl d_rn_whenAndThen_9 ?_
    refine PX.cVz [] [] g rfl ck_rn (c_rn_lose d  hL h) cl_rn_53 (by omega) (by decide) rfl rfl (Nat.le_of_ble_eq_true rfl) d_rn_whenAndThen_10 (fun v13 I15 R15 hL hzv13 h => ?_)
    exact PX.zret g hF rfl hzv13 d_rn_whenAndThen_13 hL h
def l_rn_expect_2 (f2 : Int32) (K : pI → pR → Prop) (Q : Int32 → pI → pR → Prop) : Nat → Int32 → pI → pR → Prop
  | 0, _, _, _ => False
  | n + 1, x3, I, R => ((f2 ≤ x3 → K I R) ∧ (¬ f2 ≤ x3 → (w_rn_holds x3 I R (fun v1 I1 R1 => ((¬ v1 = 0 → l_rn_expect_2 f2 K Q n (x3 + 1) I1 R1) ∧ (v1 = 0 → Q (0 : Int32) I1 R1))))))
set_option maxHeartbeats 4000000 in
set_option maxRecDepth 100000 in
theorem L_rn_expect_2 (d : Nat) {f2 : Int32} {K : pI → pR → Prop} {Q : Int32 → pI → pR → Prop} {E : pE} {B : pB} (g : pw_G m_rn_expect (d + 6) 0 0 E B) (hF : pX (qz Q) E B) (hK : ∀ (I : pI) (R : pR), pw_Lay R → K  I R → PX E B m_rn_expect.2.2.1 23 [none, none, none, none] [] I R) : ∀ (n : Nat) (x3 : Int32) (I : pI) (R : pR), pw_Lay R → l_rn_expect_2 f2 K Q n x3 I R → PX E B m_rn_expect.2.2.1 2 [some (.ref 114), none, some (.int f2), some (.int x3)] [] I R := by
  intro n
  induction n with
  | zero => intro x3 I R hL h; exact False.elim h
  | succ n ih =>
    intro x3 I R hL h
    refine PW.iload_n g rfl rfl d_rn_expect_2 ?_
    refine PW.iload_n g rfl rfl d_rn_expect_3 ?_
    refine PW.icmp_ge g 23 (by decide) d_rn_expect_4 (fun c1 => ?_) (fun c1 => ?_)
    · have h := h.1 c1
      refine PX.sub [none, none, none, none] trivial ?_
      exact hK _ _ hL h
    · have h := h.2 c1
      refine PW.aload_n g rfl rfl d_rn_expect_7 ?_
      refine PW.iload_n g rfl rfl d_rn_expect_8 ?_
      refine PX.cVz [.int x3] [] g rfl ck_rn (c_rn_holds d  hL h) cl_rn_115 (by omega) (by decide) rfl rfl (Nat.le_of_ble_eq_true rfl) d_rn_expect_9 (fun v1 I1 R1 hL hzv1 h => ?_)
      refine PW.if_ne g 17 (by decide) d_rn_expect_12 (fun c2 => ?_) (fun c2 => ?_)
      · have h := h.1 c2
        refine PW.iinc g rfl (show x3 + Int32.ofInt (1) = (x3 + 1) from congrArg (HAdd.hAdd x3) (by decide)) (by decide) rfl (L' := [some (.ref 114), none, some (.int f2), some (.int (x3 + 1))]) rfl d_rn_expect_17 ?_
        refine PW.goto g 2 (by decide) d_rn_expect_20 ?_
        refine PX.sub [some (.ref 114), none, some (.int f2), some (.int (x3 + 1))] ⟨rfl, ⟨rfl, ⟨rfl, trivial⟩⟩⟩ ?_
        exact ih _ _ _ hL h
      · have h := h.2 c2
        refine PW.iconst g (0) (by decide) d_rn_expect_15 ?_
        exact PX.zret g hF rfl (Or.inl rfl) d_rn_expect_16 hL h
def w_rn_expect (a1 : Int32) (a2 : Int32) (I : pI) (R : pR) (Q : Int32 → pI → pR → Prop) : Prop := (∃ n1, l_rn_expect_2 a2 (fun I2 R2 => Q (1 : Int32) I2 R2) Q n1 a1 I R)
set_option maxHeartbeats 4000000 in
set_option maxRecDepth 100000 in
theorem c_rn_expect (d : Nat) {a1 : Int32} {a2 : Int32} {I : pI} {R : pR} {Q : Int32 → pI → pR → Prop} (hL : pw_Lay R) (h : w_rn_expect a1 a2 I R Q) : Cm (d + 6) m_rn_expect [.ref 114, .int a1, .int a2] I R (qz Q) := by
  refine Cm.of [some (.ref 114), some (.int a1), some (.int a2), none] (by decide) rfl (Nat.le_of_ble_eq_true rfl) (by simp) (fun E B g hF => ?_)
  unfold w_rn_expect at h
  refine PW.iload_n g rfl rfl d_rn_expect_0 ?_
  refine PW.istore_n g rfl (L' := [some (.ref 114), some (.int a1), some (.int a2), some (.int a1)]) (by decide) rfl rfl d_rn_expect_1 ?_
  refine PX.sub [some (.ref 114), none, some (.int a2), some (.int a1)] ⟨rfl, ⟨rfl, ⟨rfl, trivial⟩⟩⟩ ?_
  obtain ⟨n1, h⟩ := h
  refine L_rn_expect_2 d g hF (fun I2 R2 hL h => ?_) n1 a1 I R hL h
  refine PW.iconst g (1) (by decide) d_rn_expect_23 ?_
  exact PX.zret g hF rfl (Or.inr rfl) d_rn_expect_24 hL h
def l_rn_iterate_78 (a1 : Nat) (a3 : Nat) (K : pI → pR → Prop) (Q : pI → pR → Prop) : Nat → Int32 → Int32 → pI → pR → Prop
  | 0, _, _, _, _ => False
  | n + 1, x4, x5, I, R => (∃ q5, R 114 1 = some q5 ∧ pSH[q5]? = some (0, 5) ∧ (((I q5 8) ≤ x5 → K I R) ∧ (¬ (I q5 8) ≤ x5 → ((x4 = 0 → K I R) ∧ (¬ x4 = 0 → (∃ q6, R 114 1 = some q6 ∧ pSH[q6]? = some (0, 5) ∧ (w_sr_pick (q6 + 23) 42 x5 I R (fun v6 I6 R8 => (∃ q7, R8 114 1 = some q7 ∧ pSH[q7]? = some (0, 5) ∧ (w_sr_pick (q7 + 23) 42 (x5 + (1 : Int32)) I6 R8 (fun v7 I7 R9 => (∃ q8, R9 114 1 = some q8 ∧ pSH[q8]? = some (0, 5) ∧ (w_st_kindOf (q8 + 7) v6 I7 R9 (fun v8 I8 R10 => ((¬ v8 = (1 : Int32) → (w_rn_expect v6 v7 I8 R10 (fun v9 I9 R11 => l_rn_iterate_78 a1 a3 K Q n v9 (x5 + 1) I9 R11))) ∧ (v8 = (1 : Int32) → (w_rn_whenAndThen v6 v7 I8 R10 (fun v10 I10 R12 => l_rn_iterate_78 a1 a3 K Q n v10 (x5 + 1) I10 R12))))))))))))))))))
set_option maxHeartbeats 4000000 in
set_option maxRecDepth 100000 in
theorem L_rn_iterate_78 (d : Nat) {a1 : Nat} {a3 : Nat} (ha1 : pSH[a1]? = some (0, 5)) (ha3 : pSH[a3]? = some (0, 6)) {K : pI → pR → Prop} {Q : pI → pR → Prop} {E : pE} {B : pB} (g : pw_G m_rn_iterate (d + 7) 0 0 E B) (hF : pX (qv Q) E B) (hK : ∀ (I : pI) (R : pR), pw_Lay R → K  I R → PX E B m_rn_iterate.2.2.1 168 [some (.ref 114), none, none, none, none, none, none, none] [] I R) : ∀ (n : Nat) (x4 : Int32) (x5 : Int32) (I : pI) (R : pR), pw_Lay R → l_rn_iterate_78 a1 a3 K Q n x4 x5 I R → PX E B m_rn_iterate.2.2.1 78 [some (.ref 114), none, none, none, some (.int x4), some (.int x5), none, none] [] I R := by
  intro n
  induction n with
  | zero => intro x4 x5 I R hL h; exact False.elim h
  | succ n ih =>
    intro x4 x5 I R hL h
    refine PW.iload g rfl d_rn_iterate_78 ?_
    refine PW.aload_n g rfl rfl d_rn_iterate_80 ?_
    obtain ⟨q5, eq5, hq5, h⟩ := h
    refine PW.getR (q := q5) g fi_rn_9 rfl eq5 d_rn_iterate_81 ?_
    refine PW.getI g fi_rn_57 hq5 d_rn_iterate_84 ?_
    refine PW.icmp_ge g 168 (by decide) d_rn_iterate_87 (fun c3 => ?_) (fun c3 => ?_)
    · have h := h.1 c3
      refine PX.sub [some (.ref 114), none, none, none, none, none, none, none] ⟨rfl, trivial⟩ ?_
      exact hK _ _ hL h
    · have h := h.2 c3
      refine PW.iload g rfl d_rn_iterate_90 ?_
      refine PW.if_eq g 168 (by decide) d_rn_iterate_92 (fun c4 => ?_) (fun c4 => ?_)
      · have h := h.1 c4
        refine PX.sub [some (.ref 114), none, none, none, none, none, none, none] ⟨rfl, trivial⟩ ?_
        exact hK _ _ hL h
      · have h := h.2 c4
        refine PW.aload_n g rfl rfl d_rn_iterate_95 ?_
        obtain ⟨q6, eq6, hq6, h⟩ := h
        refine PW.getR (q := q6) g fi_rn_9 rfl eq6 d_rn_iterate_96 ?_
        refine PW.getR (q := (q6 + 23)) g fi_rn_39 hq6 (hL q6 5 4 hq6 (by decide)) d_rn_iterate_99 ?_
        refine PW.iload g rfl d_rn_iterate_102 ?_
        refine PX.cSi [.ref (q6 + 23), .int x5] [] g (c_sr_pick d (pw_shp hq6 4 (by decide)) hL h) cl_rn_45 (by omega) (by decide) rfl rfl (Nat.le_of_ble_eq_true rfl) d_rn_iterate_104 (fun v6 I6 R8 hL h => ?_)
        refine PW.istore g (L' := [some (.ref 114), none, none, none, some (.int x4), some (.int x5), some (.int v6), none]) (by decide) rfl rfl d_rn_iterate_107 ?_
        refine PW.aload_n g rfl rfl d_rn_iterate_109 ?_
        obtain ⟨q7, eq7, hq7, h⟩ := h
        refine PW.getR (q := q7) g fi_rn_9 rfl eq7 d_rn_iterate_110 ?_
        refine PW.getR (q := (q7 + 23)) g fi_rn_39 hq7 (hL q7 5 4 hq7 (by decide)) d_rn_iterate_113 ?_
        refine PW.iload g rfl d_rn_iterate_116 ?_
        refine PW.iconst g (1) (by decide) d_rn_iterate_118 ?_
        refine PW.iadd g d_rn_iterate_119 ?_
        refine PX.cSi [.ref (q7 + 23), .int (x5 + (1 : Int32))] [] g (c_sr_pick d (pw_shp hq7 4 (by decide)) hL h) cl_rn_45 (by omega) (by decide) rfl rfl (Nat.le_of_ble_eq_true rfl) d_rn_iterate_120 (fun v7 I7 R9 hL h => ?_)
        refine PW.istore g (L' := [some (.ref 114), none, none, none, some (.int x4), some (.int x5), some (.int v6), some (.int v7)]) (by decide) rfl rfl d_rn_iterate_123 ?_
        refine PW.aload_n g rfl rfl d_rn_iterate_125 ?_
        obtain ⟨q8, eq8, hq8, h⟩ := h
        refine PW.getR (q := q8) g fi_rn_9 rfl eq8 d_rn_iterate_126 ?_
        refine PW.getR (q := (q8 + 7)) g fi_rn_61 hq8 (hL q8 5 2 hq8 (by decide)) d_rn_iterate_129 ?_
        refine PW.iload g rfl d_rn_iterate_132 ?_
        refine PX.cVi [.int v6] [] g (pw_shp hq8 2 (by decide)) ck_st (c_st_kindOf d (pw_shp hq8 2 (by decide)) hL h) cl_rn_65 (by omega) (by decide) rfl rfl (Nat.le_of_ble_eq_true rfl) d_rn_iterate_134 (fun v8 I8 R10 hL h => ?_)
        refine PW.iconst g (1) (by decide) d_rn_iterate_137 ?_
        refine PW.icmp_ne g 152 (by decide) d_rn_iterate_138 (fun c5 => ?_) (fun c5 => ?_)
        · have h := h.1 c5
          refine PW.aload_n g rfl rfl d_rn_iterate_152 ?_
          refine PW.iload g rfl d_rn_iterate_153 ?_
          refine PW.iload g rfl d_rn_iterate_155 ?_
          refine PX.cVz [.int v6, .int v7] [] g rfl ck_rn (c_rn_expect d  hL h) cl_rn_75 (by omega) (by decide) rfl rfl (Nat.le_of_ble_eq_true rfl) d_rn_iterate_157 (fun v9 I9 R11 hL hzv9 h => ?_)
          refine PW.istore g (L' := [some (.ref 114), none, none, none, some (.int v9), some (.int x5), some (.int v6), some (.int v7)]) (by decide) rfl rfl d_rn_iterate_160 ?_
          refine PW.iinc g rfl (show x5 + Int32.ofInt (1) = (x5 + 1) from congrArg (HAdd.hAdd x5) (by decide)) (by decide) rfl (L' := [some (.ref 114), none, none, none, some (.int v9), some (.int (x5 + 1)), some (.int v6), some (.int v7)]) rfl d_rn_iterate_162 ?_
          refine PW.goto g 78 (by decide) d_rn_iterate_165 ?_
          refine PX.sub [some (.ref 114), none, none, none, some (.int v9), some (.int (x5 + 1)), none, none] ⟨rfl, ⟨rfl, ⟨rfl, trivial⟩⟩⟩ ?_
          exact ih _ _ _ _ hL h
        · have h := h.2 c5
          refine PW.aload_n g rfl rfl d_rn_iterate_141 ?_
          refine PW.iload g rfl d_rn_iterate_142 ?_
          refine PW.iload g rfl d_rn_iterate_144 ?_
          refine PX.cVz [.int v6, .int v7] [] g rfl ck_rn (c_rn_whenAndThen d  hL h) cl_rn_71 (by omega) (by decide) rfl rfl (Nat.le_of_ble_eq_true rfl) d_rn_iterate_146 (fun v10 I10 R12 hL hzv10 h => ?_)
          refine PW.goto g 160 (by decide) d_rn_iterate_149 ?_
          refine PW.istore g (L' := [some (.ref 114), none, none, none, some (.int v10), some (.int x5), some (.int v6), some (.int v7)]) (by decide) rfl rfl d_rn_iterate_160 ?_
          refine PW.iinc g rfl (show x5 + Int32.ofInt (1) = (x5 + 1) from congrArg (HAdd.hAdd x5) (by decide)) (by decide) rfl (L' := [some (.ref 114), none, none, none, some (.int v10), some (.int (x5 + 1)), some (.int v6), some (.int v7)]) rfl d_rn_iterate_162 ?_
          refine PW.goto g 78 (by decide) d_rn_iterate_165 ?_
          refine PX.sub [some (.ref 114), none, none, none, some (.int v10), some (.int (x5 + 1)), none, none] ⟨rfl, ⟨rfl, ⟨rfl, trivial⟩⟩⟩ ?_
          exact ih _ _ _ _ hL h
def j_rn_iterate_168 (a1 : Nat) (a3 : Nat) (Q : pI → pR → Prop) (I : pI) (R : pR) : Prop := (∃ q9, R 114 1 = some q9 ∧ pSH[q9]? = some (0, 5) ∧ (∃ q10, R 114 1 = some q10 ∧ pSH[q10]? = some (0, 5) ∧ (w_sr_pick (q9 + 23) 42 (I q10 8) I R (fun v11 I12 R14 => (∃ q11, R14 114 1 = some q11 ∧ pSH[q11]? = some (0, 5) ∧ (w_rn_steps (2 : Int32) v11 (I12 (q11 + 7) 6) I12 R14 (fun v12 I13 R15 => ((¬ v12 = 0 → Q I13 R15) ∧ (v12 = 0 → (w_rn_lose  I13 R15 (fun v13 I14 R16 => Q I14 R16)))))))))))
set_option maxHeartbeats 4000000 in
set_option maxRecDepth 100000 in
theorem J_rn_iterate_168 (d : Nat) {a1 : Nat} {a3 : Nat} (ha1 : pSH[a1]? = some (0, 5)) (ha3 : pSH[a3]? = some (0, 6)) {Q : pI → pR → Prop} {E : pE} {B : pB} (g : pw_G m_rn_iterate (d + 7) 0 0 E B) (hF : pX (qv Q) E B) {I : pI} {R : pR} (hL : pw_Lay R) (h : j_rn_iterate_168 a1 a3 Q  I R) : PX E B m_rn_iterate.2.2.1 168 [some (.ref 114), none, none, none, none, none, none, none] [] I R := by
  unfold j_rn_iterate_168 at h
  refine PW.aload_n g rfl rfl d_rn_iterate_168 ?_
  refine PW.iconst g (2) (by decide) d_rn_iterate_169 ?_
  refine PW.aload_n g rfl rfl d_rn_iterate_170 ?_
  obtain ⟨q9, eq9, hq9, h⟩ := h
  refine PW.getR (q := q9) g fi_rn_9 rfl eq9 d_rn_iterate_171 ?_
  refine PW.getR (q := (q9 + 23)) g fi_rn_39 hq9 (hL q9 5 4 hq9 (by decide)) d_rn_iterate_174 ?_
  refine PW.aload_n g rfl rfl d_rn_iterate_177 ?_
  obtain ⟨q10, eq10, hq10, h⟩ := h
  refine PW.getR (q := q10) g fi_rn_9 rfl eq10 d_rn_iterate_178 ?_
  refine PW.getI g fi_rn_57 hq10 d_rn_iterate_181 ?_
  refine PX.cSi [.ref (q9 + 23), .int (I q10 8)] [.int (2 : Int32), .ref 114] g (c_sr_pick d (pw_shp hq9 4 (by decide)) hL h) cl_rn_45 (by omega) (by decide) rfl rfl (Nat.le_of_ble_eq_true rfl) d_rn_iterate_184 (fun v11 I12 R14 hL h => ?_)
  refine PW.aload_n g rfl rfl d_rn_iterate_187 ?_
  obtain ⟨q11, eq11, hq11, h⟩ := h
  refine PW.getR (q := q11) g fi_rn_9 rfl eq11 d_rn_iterate_188 ?_
  refine PW.getR (q := (q11 + 7)) g fi_rn_61 hq11 (hL q11 5 2 hq11 (by decide)) d_rn_iterate_191 ?_
  refine PW.getI g fi_rn_78 (pw_shp hq11 2 (by decide)) d_rn_iterate_194 ?_
  refine PX.cVz [.int (2 : Int32), .int v11, .int (I12 (q11 + 7) 6)] [] g rfl ck_rn (c_rn_steps d  hL h) cl_rn_49 (by omega) (by decide) rfl rfl (Nat.le_of_ble_eq_true rfl) d_rn_iterate_197 (fun v12 I13 R15 hL hzv12 h => ?_)
  refine PW.if_ne g 208 (by decide) d_rn_iterate_200 (fun c6 => ?_) (fun c6 => ?_)
  · have h := h.1 c6
    exact PX.vret g hF rfl d_rn_iterate_208 hL h
  · have h := h.2 c6
    refine PW.aload_n g rfl rfl d_rn_iterate_203 ?_
    refine PX.cVz [] [] g rfl ck_rn (c_rn_lose d  hL h) cl_rn_53 (by omega) (by decide) rfl rfl (Nat.le_of_ble_eq_true rfl) d_rn_iterate_204 (fun v13 I14 R16 hL hzv13 h => ?_)
    refine PW.pop g rfl d_rn_iterate_207 ?_
    exact PX.vret g hF rfl d_rn_iterate_208 hL h
def w_rn_iterate (a1 : Nat) (a3 : Nat) (a2 : Int32) (I : pI) (R : pR) (Q : pI → pR → Prop) : Prop := (∀ R1, R1 = pw_wR R 114 1 (some a1) → (∀ R2, R2 = pw_wR R1 114 2 (some a3) → (∃ q1, R2 114 2 = some q1 ∧ pSH[q1]? = some (0, 6) ∧ (w_oc_begin q1 I R2 (fun I1 R3 => (∃ q2, R3 114 1 = some q2 ∧ pSH[q2]? = some (0, 5) ∧ (∃ q3, R3 114 2 = some q3 ∧ pSH[q3]? = some (0, 6) ∧ (w_ev_begin q2 q3 I1 R3 (fun I2 R4 => (w_rn_fill a2 I2 R4 (fun v3 I3 R5 => ((¬ v3 = 0 → (∃ q4, R5 114 1 = some q4 ∧ pSH[q4]? = some (0, 5) ∧ (w_sr_pick (q4 + 23) 42 (0 : Int32) I3 R5 (fun v4 I4 R6 => (w_rn_steps (0 : Int32) (0 : Int32) v4 I4 R6 (fun v5 I5 R7 => ((¬ v5 = 0 → (∃ n1, l_rn_iterate_78 a1 a3 (fun I11 R13 => (j_rn_iterate_168 a1 a3 Q I11 R13)) Q n1 (1 : Int32) (0 : Int32) I5 R7)) ∧ (v5 = 0 → (w_rn_lose  I5 R7 (fun v14 I15 R17 => ((v14 = 0 → (∃ n2, l_rn_iterate_78 a1 a3 (fun I16 R18 => (j_rn_iterate_168 a1 a3 Q I16 R18)) Q n2 (0 : Int32) (0 : Int32) I15 R17)) ∧ (¬ v14 = 0 → (∃ n3, l_rn_iterate_78 a1 a3 (fun I17 R19 => (j_rn_iterate_168 a1 a3 Q I17 R19)) Q n3 (1 : Int32) (0 : Int32) I15 R17))))))))))))) ∧ (v3 = 0 → Q I3 R5)))))))))))))
set_option maxHeartbeats 4000000 in
set_option maxRecDepth 100000 in
theorem c_rn_iterate (d : Nat) {a1 : Nat} {a3 : Nat} (ha1 : pSH[a1]? = some (0, 5)) (ha3 : pSH[a3]? = some (0, 6)) {a2 : Int32} {I : pI} {R : pR} {Q : pI → pR → Prop} (hL : pw_Lay R) (h : w_rn_iterate a1 a3 a2 I R Q) : Cm (d + 7) m_rn_iterate [.ref 114, .ref a1, .int a2, .ref a3] I R (qv Q) := by
  refine Cm.of [some (.ref 114), some (.ref a1), some (.int a2), some (.ref a3), none, none, none, none] (by decide) rfl (Nat.le_of_ble_eq_true rfl) (by simp) (fun E B g hF => ?_)
  unfold w_rn_iterate at h
  refine PW.aload_n g rfl rfl d_rn_iterate_0 ?_
  refine PW.aload_n g rfl rfl d_rn_iterate_1 ?_
  refine PW.putR g fi_rn_9 rfl rfl rfl d_rn_iterate_2 ?_
  have hL := pw_Lay.put (k := 1) (q := some a1) hL (t := 114) (ci := 9) rfl (by decide)
  refine PX.gR (fun R1 eR1 => ?_)
  have h := h _ eR1
  rw [← eR1] at hL
  refine PW.aload_n g rfl rfl d_rn_iterate_5 ?_
  refine PW.aload_n g rfl rfl d_rn_iterate_6 ?_
  refine PW.putR g fi_rn_15 rfl rfl rfl d_rn_iterate_7 ?_
  have hL := pw_Lay.put (k := 2) (q := some a3) hL (t := 114) (ci := 9) rfl (by decide)
  refine PX.gR (fun R2 eR2 => ?_)
  have h := h _ eR2
  rw [← eR2] at hL
  refine PW.aload_n g rfl rfl d_rn_iterate_10 ?_
  obtain ⟨q1, eq1, hq1, h⟩ := h
  refine PW.getR (q := q1) g fi_rn_15 rfl eq1 d_rn_iterate_11 ?_
  refine PX.cVv [] [] g hq1 ck_oc (c_oc_begin d hq1 hL h) cl_rn_28 (by omega) (by decide) rfl rfl (Nat.le_of_ble_eq_true rfl) d_rn_iterate_14 (fun I1 R3 hL h => ?_)
  refine PW.aload_n g rfl rfl d_rn_iterate_17 ?_
  refine PW.getR (q := 115) g fi_rn_24 rfl (hL 114 9 0 rfl (by decide)) d_rn_iterate_18 ?_
  refine PW.aload_n g rfl rfl d_rn_iterate_21 ?_
  obtain ⟨q2, eq2, hq2, h⟩ := h
  refine PW.getR (q := q2) g fi_rn_9 rfl eq2 d_rn_iterate_22 ?_
  refine PW.aload_n g rfl rfl d_rn_iterate_25 ?_
  obtain ⟨q3, eq3, hq3, h⟩ := h
  refine PW.getR (q := q3) g fi_rn_15 rfl eq3 d_rn_iterate_26 ?_
  refine PX.cVv [.ref q2, .ref q3] [] g rfl ck_ev (c_ev_begin d hq2 hq3 hL h) cl_rn_33 (by omega) (by decide) rfl rfl (Nat.le_of_ble_eq_true rfl) d_rn_iterate_29 (fun I2 R4 hL h => ?_)
  refine PW.aload_n g rfl rfl d_rn_iterate_32 ?_
  refine PW.iload_n g rfl rfl d_rn_iterate_33 ?_
  refine PX.cVz [.int a2] [] g rfl ck_rn (c_rn_fill d  hL h) cl_rn_35 (by omega) (by decide) rfl rfl (Nat.le_of_ble_eq_true rfl) d_rn_iterate_34 (fun v3 I3 R5 hL hzv3 h => ?_)
  refine PW.if_ne g 41 (by decide) d_rn_iterate_37 (fun c1 => ?_) (fun c1 => ?_)
  · have h := h.1 c1
    refine PW.aload_n g rfl rfl d_rn_iterate_41 ?_
    refine PW.iconst g (0) (by decide) d_rn_iterate_42 ?_
    refine PW.iconst g (0) (by decide) d_rn_iterate_43 ?_
    refine PW.aload_n g rfl rfl d_rn_iterate_44 ?_
    obtain ⟨q4, eq4, hq4, h⟩ := h
    refine PW.getR (q := q4) g fi_rn_9 rfl eq4 d_rn_iterate_45 ?_
    refine PW.getR (q := (q4 + 23)) g fi_rn_39 hq4 (hL q4 5 4 hq4 (by decide)) d_rn_iterate_48 ?_
    refine PW.iconst g (0) (by decide) d_rn_iterate_51 ?_
    refine PX.cSi [.ref (q4 + 23), .int (0 : Int32)] [.int (0 : Int32), .int (0 : Int32), .ref 114] g (c_sr_pick d (pw_shp hq4 4 (by decide)) hL h) cl_rn_45 (by omega) (by decide) rfl rfl (Nat.le_of_ble_eq_true rfl) d_rn_iterate_52 (fun v4 I4 R6 hL h => ?_)
    refine PX.cVz [.int (0 : Int32), .int (0 : Int32), .int v4] [] g rfl ck_rn (c_rn_steps d  hL h) cl_rn_49 (by omega) (by decide) rfl rfl (Nat.le_of_ble_eq_true rfl) d_rn_iterate_55 (fun v5 I5 R7 hL hzv5 h => ?_)
    refine PW.if_ne g 68 (by decide) d_rn_iterate_58 (fun c2 => ?_) (fun c2 => ?_)
    · have h := h.1 c2
      refine PW.iconst g (1) (by decide) d_rn_iterate_68 ?_
      refine PW.goto g 73 (by decide) d_rn_iterate_69 ?_
      refine PW.istore g (L' := [some (.ref 114), some (.ref a1), some (.int a2), some (.ref a3), some (.int (1 : Int32)), none, none, none]) (by decide) rfl rfl d_rn_iterate_73 ?_
      refine PW.iconst g (0) (by decide) d_rn_iterate_75 ?_
      refine PW.istore g (L' := [some (.ref 114), some (.ref a1), some (.int a2), some (.ref a3), some (.int (1 : Int32)), some (.int (0 : Int32)), none, none]) (by decide) rfl rfl d_rn_iterate_76 ?_
      refine PX.sub [some (.ref 114), none, none, none, some (.int (1 : Int32)), some (.int (0 : Int32)), none, none] ⟨rfl, ⟨rfl, ⟨rfl, trivial⟩⟩⟩ ?_
      obtain ⟨n1, h⟩ := h
      refine L_rn_iterate_78 d ha1 ha3 g hF (fun I11 R13 hL h => ?_) n1 (1 : Int32) (0 : Int32) I5 R7 hL h
      refine PX.sub [some (.ref 114), none, none, none, none, none, none, none] ⟨rfl, trivial⟩ ?_
      exact J_rn_iterate_168 d ha1 ha3 g hF hL h
    · have h := h.2 c2
      refine PW.aload_n g rfl rfl d_rn_iterate_61 ?_
      refine PX.cVz [] [] g rfl ck_rn (c_rn_lose d  hL h) cl_rn_53 (by omega) (by decide) rfl rfl (Nat.le_of_ble_eq_true rfl) d_rn_iterate_62 (fun v14 I15 R17 hL hzv14 h => ?_)
      refine PW.if_eq g 72 (by decide) d_rn_iterate_65 (fun c7 => ?_) (fun c7 => ?_)
      · have h := h.1 c7
        refine PW.iconst g (0) (by decide) d_rn_iterate_72 ?_
        refine PW.istore g (L' := [some (.ref 114), some (.ref a1), some (.int a2), some (.ref a3), some (.int (0 : Int32)), none, none, none]) (by decide) rfl rfl d_rn_iterate_73 ?_
        refine PW.iconst g (0) (by decide) d_rn_iterate_75 ?_
        refine PW.istore g (L' := [some (.ref 114), some (.ref a1), some (.int a2), some (.ref a3), some (.int (0 : Int32)), some (.int (0 : Int32)), none, none]) (by decide) rfl rfl d_rn_iterate_76 ?_
        refine PX.sub [some (.ref 114), none, none, none, some (.int (0 : Int32)), some (.int (0 : Int32)), none, none] ⟨rfl, ⟨rfl, ⟨rfl, trivial⟩⟩⟩ ?_
        obtain ⟨n2, h⟩ := h
        refine L_rn_iterate_78 d ha1 ha3 g hF (fun I16 R18 hL h => ?_) n2 (0 : Int32) (0 : Int32) I15 R17 hL h
        refine PX.sub [some (.ref 114), none, none, none, none, none, none, none] ⟨rfl, trivial⟩ ?_
        exact J_rn_iterate_168 d ha1 ha3 g hF hL h
      · have h := h.2 c7
        refine PW.iconst g (1) (by decide) d_rn_iterate_68 ?_
        refine PW.goto g 73 (by decide) d_rn_iterate_69 ?_
        refine PW.istore g (L' := [some (.ref 114), some (.ref a1), some (.int a2), some (.ref a3), some (.int (1 : Int32)), none, none, none]) (by decide) rfl rfl d_rn_iterate_73 ?_
        refine PW.iconst g (0) (by decide) d_rn_iterate_75 ?_
        refine PW.istore g (L' := [some (.ref 114), some (.ref a1), some (.int a2), some (.ref a3), some (.int (1 : Int32)), some (.int (0 : Int32)), none, none]) (by decide) rfl rfl d_rn_iterate_76 ?_
        refine PX.sub [some (.ref 114), none, none, none, some (.int (1 : Int32)), some (.int (0 : Int32)), none, none] ⟨rfl, ⟨rfl, ⟨rfl, trivial⟩⟩⟩ ?_
        obtain ⟨n3, h⟩ := h
        refine L_rn_iterate_78 d ha1 ha3 g hF (fun I17 R19 hL h => ?_) n3 (1 : Int32) (0 : Int32) I15 R17 hL h
        refine PX.sub [some (.ref 114), none, none, none, none, none, none, none] ⟨rfl, trivial⟩ ?_
        exact J_rn_iterate_168 d ha1 ha3 g hF hL h
  · have h := h.2 c1
    exact PX.vret g hF rfl d_rn_iterate_40 hL h
