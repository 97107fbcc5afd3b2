def w_md_isDigit (a1 : Int32) (I : pI) (R : pR) (Q : Int32 → pI → pR → Prop) : Prop := ((a1 < (48 : Int32) → Q (0 : Int32) I R) ∧ (¬ a1 < (48 : Int32) → (((57 : Int32) < a1 → Q (0 : Int32) I R) ∧ (¬ (57 : Int32) < a1 → Q (1 : Int32) I R))))
set_option maxHeartbeats 4000000 in
set_option maxRecDepth 100000 in
theorem c_md_isDigit (d : Nat) {a1 : Int32} {I : pI} {R : pR} {Q : Int32 → pI → pR → Prop} (hL : pw_Lay R) (h : w_md_isDigit a1 I R Q) : Cm (d + 1) m_md_isDigit [.int a1] I R (qz Q) := by
  refine Cm.of [some (.int a1)] (by decide) rfl (Nat.le_of_ble_eq_true rfl) (by simp) (fun E B g hF => ?_)
  unfold w_md_isDigit at h
  refine PW.iload_n g rfl rfl d_md_isDigit_0 ?_
  refine PW.bipush g (48) (by decide) d_md_isDigit_1 ?_
  refine PW.icmp_lt g 16 (by decide) d_md_isDigit_3 (fun c1 => ?_) (fun c1 => ?_)
  · have h := h.1 c1
    refine PW.iconst g (0) (by decide) d_md_isDigit_16 ?_
    exact PX.zret g hF rfl (Or.inl rfl) d_md_isDigit_17 hL h
  · have h := h.2 c1
    refine PW.iload_n g rfl rfl d_md_isDigit_6 ?_
    refine PW.bipush g (57) (by decide) d_md_isDigit_7 ?_
    refine PW.icmp_gt g 16 (by decide) d_md_isDigit_9 (fun c2 => ?_) (fun c2 => ?_)
    · have h := h.1 c2
      refine PW.iconst g (0) (by decide) d_md_isDigit_16 ?_
      exact PX.zret g hF rfl (Or.inl rfl) d_md_isDigit_17 hL h
    · have h := h.2 c2
      refine PW.iconst g (1) (by decide) d_md_isDigit_12 ?_
      refine PW.goto g 17 (by decide) d_md_isDigit_13 ?_
      exact PX.zret g hF rfl (Or.inr rfl) d_md_isDigit_17 hL h
def w_md_isSmall (a1 : Int32) (I : pI) (R : pR) (Q : Int32 → pI → pR → Prop) : Prop := ((a1 < (97 : Int32) → Q (0 : Int32) I R) ∧ (¬ a1 < (97 : Int32) → (((122 : Int32) < a1 → Q (0 : Int32) I R) ∧ (¬ (122 : Int32) < a1 → Q (1 : Int32) I R))))
set_option maxHeartbeats 4000000 in
set_option maxRecDepth 100000 in
theorem c_md_isSmall (d : Nat) {a1 : Int32} {I : pI} {R : pR} {Q : Int32 → pI → pR → Prop} (hL : pw_Lay R) (h : w_md_isSmall a1 I R Q) : Cm (d + 1) m_md_isSmall [.int a1] I R (qz Q) := by
  refine Cm.of [some (.int a1)] (by decide) rfl (Nat.le_of_ble_eq_true rfl) (by simp) (fun E B g hF => ?_)
  unfold w_md_isSmall at h
  refine PW.iload_n g rfl rfl d_md_isSmall_0 ?_
  refine PW.bipush g (97) (by decide) d_md_isSmall_1 ?_
  refine PW.icmp_lt g 16 (by decide) d_md_isSmall_3 (fun c1 => ?_) (fun c1 => ?_)
  · have h := h.1 c1
    refine PW.iconst g (0) (by decide) d_md_isSmall_16 ?_
    exact PX.zret g hF rfl (Or.inl rfl) d_md_isSmall_17 hL h
  · have h := h.2 c1
    refine PW.iload_n g rfl rfl d_md_isSmall_6 ?_
    refine PW.bipush g (122) (by decide) d_md_isSmall_7 ?_
    refine PW.icmp_gt g 16 (by decide) d_md_isSmall_9 (fun c2 => ?_) (fun c2 => ?_)
    · have h := h.1 c2
      refine PW.iconst g (0) (by decide) d_md_isSmall_16 ?_
      exact PX.zret g hF rfl (Or.inl rfl) d_md_isSmall_17 hL h
    · have h := h.2 c2
      refine PW.iconst g (1) (by decide) d_md_isSmall_12 ?_
      refine PW.goto g 17 (by decide) d_md_isSmall_13 ?_
      exact PX.zret g hF rfl (Or.inr rfl) d_md_isSmall_17 hL h
def w_md_isCapital (a1 : Int32) (I : pI) (R : pR) (Q : Int32 → pI → pR → Prop) : Prop := ((a1 = (71 : Int32) → Q (1 : Int32) I R) ∧ (¬ a1 = (71 : Int32) → ((a1 = (87 : Int32) → Q (1 : Int32) I R) ∧ (¬ a1 = (87 : Int32) → ((a1 = (84 : Int32) → Q (1 : Int32) I R) ∧ (¬ a1 = (84 : Int32) → ((a1 = (69 : Int32) → Q (1 : Int32) I R) ∧ (¬ a1 = (69 : Int32) → ((a1 = (67 : Int32) → Q (1 : Int32) I R) ∧ (¬ a1 = (67 : Int32) → ((a1 = (68 : Int32) → Q (1 : Int32) I R) ∧ (¬ a1 = (68 : Int32) → ((a1 = (77 : Int32) → Q (1 : Int32) I R) ∧ (¬ a1 = (77 : Int32) → ((a1 = (78 : Int32) → Q (1 : Int32) I R) ∧ (¬ a1 = (78 : Int32) → ((a1 = (79 : Int32) → Q (1 : Int32) I R) ∧ (¬ a1 = (79 : Int32) → ((¬ a1 = (88 : Int32) → Q (0 : Int32) I R) ∧ (a1 = (88 : Int32) → Q (1 : Int32) I R))))))))))))))))))))
set_option maxHeartbeats 4000000 in
set_option maxRecDepth 100000 in
theorem c_md_isCapital (d : Nat) {a1 : Int32} {I : pI} {R : pR} {Q : Int32 → pI → pR → Prop} (hL : pw_Lay R) (h : w_md_isCapital a1 I R Q) : Cm (d + 1) m_md_isCapital [.int a1] I R (qz Q) := by
  refine Cm.of [some (.int a1)] (by decide) rfl (Nat.le_of_ble_eq_true rfl) (by simp) (fun E B g hF => ?_)
  unfold w_md_isCapital at h
  refine PW.iload_n g rfl rfl d_md_isCapital_0 ?_
  refine PW.bipush g (71) (by decide) d_md_isCapital_1 ?_
  refine PW.icmp_eq g 60 (by decide) d_md_isCapital_3 (fun c1 => ?_) (fun c1 => ?_)
  · have h := h.1 c1
    refine PW.iconst g (1) (by decide) d_md_isCapital_60 ?_
    refine PW.goto g 65 (by decide) d_md_isCapital_61 ?_
    exact PX.zret g hF rfl (Or.inr rfl) d_md_isCapital_65 hL h
  · have h := h.2 c1
    refine PW.iload_n g rfl rfl d_md_isCapital_6 ?_
    refine PW.bipush g (87) (by decide) d_md_isCapital_7 ?_
    refine PW.icmp_eq g 60 (by decide) d_md_isCapital_9 (fun c2 => ?_) (fun c2 => ?_)
    · have h := h.1 c2
      refine PW.iconst g (1) (by decide) d_md_isCapital_60 ?_
      refine PW.goto g 65 (by decide) d_md_isCapital_61 ?_
      exact PX.zret g hF rfl (Or.inr rfl) d_md_isCapital_65 hL h
    · have h := h.2 c2
      refine PW.iload_n g rfl rfl d_md_isCapital_12 ?_
      refine PW.bipush g (84) (by decide) d_md_isCapital_13 ?_
      refine PW.icmp_eq g 60 (by decide) d_md_isCapital_15 (fun c3 => ?_) (fun c3 => ?_)
      · have h := h.1 c3
        refine PW.iconst g (1) (by decide) d_md_isCapital_60 ?_
        refine PW.goto g 65 (by decide) d_md_isCapital_61 ?_
        exact PX.zret g hF rfl (Or.inr rfl) d_md_isCapital_65 hL h
      · have h := h.2 c3
        refine PW.iload_n g rfl rfl d_md_isCapital_18 ?_
        refine PW.bipush g (69) (by decide) d_md_isCapital_19 ?_
        refine PW.icmp_eq g 60 (by decide) d_md_isCapital_21 (fun c4 => ?_) (fun c4 => ?_)
        · have h := h.1 c4
          refine PW.iconst g (1) (by decide) d_md_isCapital_60 ?_
          refine PW.goto g 65 (by decide) d_md_isCapital_61 ?_
          exact PX.zret g hF rfl (Or.inr rfl) d_md_isCapital_65 hL h
        · have h := h.2 c4
          refine PW.iload_n g rfl rfl d_md_isCapital_24 ?_
          refine PW.bipush g (67) (by decide) d_md_isCapital_25 ?_
          refine PW.icmp_eq g 60 (by decide) d_md_isCapital_27 (fun c5 => ?_) (fun c5 => ?_)
          · have h := h.1 c5
            refine PW.iconst g (1) (by decide) d_md_isCapital_60 ?_
            refine PW.goto g 65 (by decide) d_md_isCapital_61 ?_
            exact PX.zret g hF rfl (Or.inr rfl) d_md_isCapital_65 hL h
          · have h := h.2 c5
            refine PW.iload_n g rfl rfl d_md_isCapital_30 ?_
            refine PW.bipush g (68) (by decide) d_md_isCapital_31 ?_
            refine PW.icmp_eq g 60 (by decide) d_md_isCapital_33 (fun c6 => ?_) (fun c6 => ?_)
            · have h := h.1 c6
              refine PW.iconst g (1) (by decide) d_md_isCapital_60 ?_
              refine PW.goto g 65 (by decide) d_md_isCapital_61 ?_
              exact PX.zret g hF rfl (Or.inr rfl) d_md_isCapital_65 hL h
            · have h := h.2 c6
              refine PW.iload_n g rfl rfl d_md_isCapital_36 ?_
              refine PW.bipush g (77) (by decide) d_md_isCapital_37 ?_
              refine PW.icmp_eq g 60 (by decide) d_md_isCapital_39 (fun c7 => ?_) (fun c7 => ?_)
              · have h := h.1 c7
                refine PW.iconst g (1) (by decide) d_md_isCapital_60 ?_
                refine PW.goto g 65 (by decide) d_md_isCapital_61 ?_
                exact PX.zret g hF rfl (Or.inr rfl) d_md_isCapital_65 hL h
              · have h := h.2 c7
                refine PW.iload_n g rfl rfl d_md_isCapital_42 ?_
                refine PW.bipush g (78) (by decide) d_md_isCapital_43 ?_
                refine PW.icmp_eq g 60 (by decide) d_md_isCapital_45 (fun c8 => ?_) (fun c8 => ?_)
                · have h := h.1 c8
                  refine PW.iconst g (1) (by decide) d_md_isCapital_60 ?_
                  refine PW.goto g 65 (by decide) d_md_isCapital_61 ?_
                  exact PX.zret g hF rfl (Or.inr rfl) d_md_isCapital_65 hL h
                · have h := h.2 c8
                  refine PW.iload_n g rfl rfl d_md_isCapital_48 ?_
                  refine PW.bipush g (79) (by decide) d_md_isCapital_49 ?_
                  refine PW.icmp_eq g 60 (by decide) d_md_isCapital_51 (fun c9 => ?_) (fun c9 => ?_)
                  · have h := h.1 c9
                    refine PW.iconst g (1) (by decide) d_md_isCapital_60 ?_
                    refine PW.goto g 65 (by decide) d_md_isCapital_61 ?_
                    exact PX.zret g hF rfl (Or.inr rfl) d_md_isCapital_65 hL h
                  · have h := h.2 c9
                    refine PW.iload_n g rfl rfl d_md_isCapital_54 ?_
                    refine PW.bipush g (88) (by decide) d_md_isCapital_55 ?_
                    refine PW.icmp_ne g 64 (by decide) d_md_isCapital_57 (fun c10 => ?_) (fun c10 => ?_)
                    · have h := h.1 c10
                      refine PW.iconst g (0) (by decide) d_md_isCapital_64 ?_
                      exact PX.zret g hF rfl (Or.inl rfl) d_md_isCapital_65 hL h
                    · have h := h.2 c10
                      refine PW.iconst g (1) (by decide) d_md_isCapital_60 ?_
                      refine PW.goto g 65 (by decide) d_md_isCapital_61 ?_
                      exact PX.zret g hF rfl (Or.inr rfl) d_md_isCapital_65 hL h
def j_md_isSign_36 (Q : Int32 → pI → pR → Prop) (x0 : Int32) (I : pI) (R : pR) : Prop := ((x0 = (33 : Int32) → Q (1 : Int32) I R) ∧ (¬ x0 = (33 : Int32) → ((x0 = (124 : Int32) → Q (1 : Int32) I R) ∧ (¬ x0 = (124 : Int32) → ((¬ x0 = (95 : Int32) → Q (0 : Int32) I R) ∧ (x0 = (95 : Int32) → Q (1 : Int32) I R))))))
set_option maxHeartbeats 4000000 in
set_option maxRecDepth 100000 in
theorem J_md_isSign_36 (d : Nat) {Q : Int32 → pI → pR → Prop} {x0 : Int32} {E : pE} {B : pB} (g : pw_G m_md_isSign (d + 1) 0 0 E B) (hF : pX (qz Q) E B) {I : pI} {R : pR} (hL : pw_Lay R) (h : j_md_isSign_36  Q x0 I R) : PX E B m_md_isSign.2.2.1 36 [some (.int x0)] [] I R := by
  unfold j_md_isSign_36 at h
  refine PW.iload_n g rfl rfl d_md_isSign_36 ?_
  refine PW.bipush g (33) (by decide) d_md_isSign_37 ?_
  refine PW.icmp_eq g 54 (by decide) d_md_isSign_39 (fun c5 => ?_) (fun c5 => ?_)
  · have h := h.1 c5
    refine PW.iconst g (1) (by decide) d_md_isSign_54 ?_
    refine PW.goto g 59 (by decide) d_md_isSign_55 ?_
    exact PX.zret g hF rfl (Or.inr rfl) d_md_isSign_59 hL h
  · have h := h.2 c5
    refine PW.iload_n g rfl rfl d_md_isSign_42 ?_
    refine PW.bipush g (124) (by decide) d_md_isSign_43 ?_
    refine PW.icmp_eq g 54 (by decide) d_md_isSign_45 (fun c6 => ?_) (fun c6 => ?_)
    · have h := h.1 c6
      refine PW.iconst g (1) (by decide) d_md_isSign_54 ?_
      refine PW.goto g 59 (by decide) d_md_isSign_55 ?_
      exact PX.zret g hF rfl (Or.inr rfl) d_md_isSign_59 hL h
    · have h := h.2 c6
      refine PW.iload_n g rfl rfl d_md_isSign_48 ?_
      refine PW.bipush g (95) (by decide) d_md_isSign_49 ?_
      refine PW.icmp_ne g 58 (by decide) d_md_isSign_51 (fun c7 => ?_) (fun c7 => ?_)
      · have h := h.1 c7
        refine PW.iconst g (0) (by decide) d_md_isSign_58 ?_
        exact PX.zret g hF rfl (Or.inl rfl) d_md_isSign_59 hL h
      · have h := h.2 c7
        refine PW.iconst g (1) (by decide) d_md_isSign_54 ?_
        refine PW.goto g 59 (by decide) d_md_isSign_55 ?_
        exact PX.zret g hF rfl (Or.inr rfl) d_md_isSign_59 hL h
def j_md_isSign_12 (Q : Int32 → pI → pR → Prop) (x0 : Int32) (I : pI) (R : pR) : Prop := ((x0 = (47 : Int32) → Q (1 : Int32) I R) ∧ (¬ x0 = (47 : Int32) → ((x0 = (37 : Int32) → Q (1 : Int32) I R) ∧ (¬ x0 = (37 : Int32) → ((x0 < (58 : Int32) → (j_md_isSign_36 Q x0 I R)) ∧ (¬ x0 < (58 : Int32) → ((x0 ≤ (62 : Int32) → Q (1 : Int32) I R) ∧ (¬ x0 ≤ (62 : Int32) → (j_md_isSign_36 Q x0 I R)))))))))
set_option maxHeartbeats 4000000 in
set_option maxRecDepth 100000 in
theorem J_md_isSign_12 (d : Nat) {Q : Int32 → pI → pR → Prop} {x0 : Int32} {E : pE} {B : pB} (g : pw_G m_md_isSign (d + 1) 0 0 E B) (hF : pX (qz Q) E B) {I : pI} {R : pR} (hL : pw_Lay R) (h : j_md_isSign_12  Q x0 I R) : PX E B m_md_isSign.2.2.1 12 [some (.int x0)] [] I R := by
  unfold j_md_isSign_12 at h
  refine PW.iload_n g rfl rfl d_md_isSign_12 ?_
  refine PW.bipush g (47) (by decide) d_md_isSign_13 ?_
  refine PW.icmp_eq g 54 (by decide) d_md_isSign_15 (fun c2 => ?_) (fun c2 => ?_)
  · have h := h.1 c2
    refine PW.iconst g (1) (by decide) d_md_isSign_54 ?_
    refine PW.goto g 59 (by decide) d_md_isSign_55 ?_
    exact PX.zret g hF rfl (Or.inr rfl) d_md_isSign_59 hL h
  · have h := h.2 c2
    refine PW.iload_n g rfl rfl d_md_isSign_18 ?_
    refine PW.bipush g (37) (by decide) d_md_isSign_19 ?_
    refine PW.icmp_eq g 54 (by decide) d_md_isSign_21 (fun c3 => ?_) (fun c3 => ?_)
    · have h := h.1 c3
      refine PW.iconst g (1) (by decide) d_md_isSign_54 ?_
      refine PW.goto g 59 (by decide) d_md_isSign_55 ?_
      exact PX.zret g hF rfl (Or.inr rfl) d_md_isSign_59 hL h
    · have h := h.2 c3
      refine PW.iload_n g rfl rfl d_md_isSign_24 ?_
      refine PW.bipush g (58) (by decide) d_md_isSign_25 ?_
      refine PW.icmp_lt g 36 (by decide) d_md_isSign_27 (fun c4 => ?_) (fun c4 => ?_)
      · have h := h.1 c4
        refine PX.sub [some (.int x0)] ⟨rfl, trivial⟩ ?_
        exact J_md_isSign_36 d g hF hL h
      · have h := h.2 c4
        refine PW.iload_n g rfl rfl d_md_isSign_30 ?_
        refine PW.bipush g (62) (by decide) d_md_isSign_31 ?_
        refine PW.icmp_le g 54 (by decide) d_md_isSign_33 (fun c8 => ?_) (fun c8 => ?_)
        · have h := h.1 c8
          refine PW.iconst g (1) (by decide) d_md_isSign_54 ?_
          refine PW.goto g 59 (by decide) d_md_isSign_55 ?_
          exact PX.zret g hF rfl (Or.inr rfl) d_md_isSign_59 hL h
        · have h := h.2 c8
          refine PX.sub [some (.int x0)] ⟨rfl, trivial⟩ ?_
          exact J_md_isSign_36 d g hF hL h
def w_md_isSign (a1 : Int32) (I : pI) (R : pR) (Q : Int32 → pI → pR → Prop) : Prop := ((a1 < (40 : Int32) → (j_md_isSign_12 Q a1 I R)) ∧ (¬ a1 < (40 : Int32) → ((a1 ≤ (45 : Int32) → Q (1 : Int32) I R) ∧ (¬ a1 ≤ (45 : Int32) → (j_md_isSign_12 Q a1 I R)))))
set_option maxHeartbeats 4000000 in
set_option maxRecDepth 100000 in
theorem c_md_isSign (d : Nat) {a1 : Int32} {I : pI} {R : pR} {Q : Int32 → pI → pR → Prop} (hL : pw_Lay R) (h : w_md_isSign a1 I R Q) : Cm (d + 1) m_md_isSign [.int a1] I R (qz Q) := by
  refine Cm.of [some (.int a1)] (by decide) rfl (Nat.le_of_ble_eq_true rfl) (by simp) (fun E B g hF => ?_)
  unfold w_md_isSign at h
  refine PW.iload_n g rfl rfl d_md_isSign_0 ?_
  refine PW.bipush g (40) (by decide) d_md_isSign_1 ?_
  refine PW.icmp_lt g 12 (by decide) d_md_isSign_3 (fun c1 => ?_) (fun c1 => ?_)
  · have h := h.1 c1
    refine PX.sub [some (.int a1)] ⟨rfl, trivial⟩ ?_
    exact J_md_isSign_12 d g hF hL h
  · have h := h.2 c1
    refine PW.iload_n g rfl rfl d_md_isSign_6 ?_
    refine PW.bipush g (45) (by decide) d_md_isSign_7 ?_
    refine PW.icmp_le g 54 (by decide) d_md_isSign_9 (fun c9 => ?_) (fun c9 => ?_)
    · have h := h.1 c9
      refine PW.iconst g (1) (by decide) d_md_isSign_54 ?_
      refine PW.goto g 59 (by decide) d_md_isSign_55 ?_
      exact PX.zret g hF rfl (Or.inr rfl) d_md_isSign_59 hL h
    · have h := h.2 c9
      refine PX.sub [some (.int a1)] ⟨rfl, trivial⟩ ?_
      exact J_md_isSign_12 d g hF hL h
def l_md_type_27 (f1 : Int64) (f3 : Int32) (K : pI → pR → Prop) (Q : Int32 → pI → pR → Prop) : Nat → Int32 → pI → pR → Prop
  | 0, _, _, _ => False
  | n + 1, x4, I, R => ((f3 ≤ x4 → K I R) ∧ (¬ f3 ≤ x4 → (w_md_isDigit (((((f1) >>> ((((8 : Int32) * x4)).toInt64 &&& 63)) &&& (255 : Int64))).toInt32) I R (fun v1 I1 R1 => ((¬ v1 = 0 → l_md_type_27 f1 f3 K Q n (x4 + 1) I1 R1) ∧ (v1 = 0 → (w_md_isSmall (((((f1) >>> ((((8 : Int32) * x4)).toInt64 &&& 63)) &&& (255 : Int64))).toInt32) I1 R1 (fun v2 I2 R2 => ((¬ v2 = 0 → l_md_type_27 f1 f3 K Q n (x4 + 1) I2 R2) ∧ (v2 = 0 → (w_md_isCapital (((((f1) >>> ((((8 : Int32) * x4)).toInt64 &&& 63)) &&& (255 : Int64))).toInt32) I2 R2 (fun v3 I3 R3 => ((¬ v3 = 0 → l_md_type_27 f1 f3 K Q n (x4 + 1) I3 R3) ∧ (v3 = 0 → (w_md_isSign (((((f1) >>> ((((8 : Int32) * x4)).toInt64 &&& 63)) &&& (255 : Int64))).toInt32) I3 R3 (fun v4 I4 R4 => ((¬ v4 = 0 → l_md_type_27 f1 f3 K Q n (x4 + 1) I4 R4) ∧ (v4 = 0 → ((((((f1) >>> ((((8 : Int32) * x4)).toInt64 &&& 63)) &&& (255 : Int64))).toInt32 = (32 : Int32) → l_md_type_27 f1 f3 K Q n (x4 + 1) I4 R4) ∧ (¬ ((((f1) >>> ((((8 : Int32) * x4)).toInt64 &&& 63)) &&& (255 : Int64))).toInt32 = (32 : Int32) → ((((((f1) >>> ((((8 : Int32) * x4)).toInt64 &&& 63)) &&& (255 : Int64))).toInt32 = (38 : Int32) → l_md_type_27 f1 f3 K Q n (x4 + 1) I4 R4) ∧ (¬ ((((f1) >>> ((((8 : Int32) * x4)).toInt64 &&& 63)) &&& (255 : Int64))).toInt32 = (38 : Int32) → Q (0 : Int32) I4 R4))))))))))))))))))))))
set_option maxHeartbeats 4000000 in
set_option maxRecDepth 100000 in
theorem L_md_type_27 (d : Nat) {f1 : Int64} {f3 : Int32} {K : pI → pR → Prop} {Q : Int32 → pI → pR → Prop} {E : pE} {B : pB} (g : pw_G m_md_type (d + 2) 0 0 E B) (hF : pX (qz Q) E B) (hK : ∀ (I : pI) (R : pR), pw_Lay R → K  I R → PX E B m_md_type.2.2.1 101 [some (.ref 121), some (.long f1), none, some (.int f3), none, none] [] I R) : ∀ (n : Nat) (x4 : Int32) (I : pI) (R : pR), pw_Lay R → l_md_type_27 f1 f3 K Q n x4 I R → PX E B m_md_type.2.2.1 27 [some (.ref 121), some (.long f1), none, some (.int f3), some (.int x4), none] [] I R := by
  intro n
  induction n with
  | zero => intro x4 I R hL h; exact False.elim h
  | succ n ih =>
    intro x4 I R hL h
    refine PW.iload g rfl d_md_type_27 ?_
    refine PW.iload_n g rfl rfl d_md_type_29 ?_
    refine PW.icmp_ge g 101 (by decide) d_md_type_30 (fun c4 => ?_) (fun c4 => ?_)
    · have h := h.1 c4
      refine PX.sub [some (.ref 121), some (.long f1), none, some (.int f3), none, none] ⟨rfl, ⟨rfl, ⟨rfl, trivial⟩⟩⟩ ?_
      exact hK _ _ hL h
    · have h := h.2 c4
      refine PW.lload_n g rfl rfl d_md_type_33 ?_
      refine PW.bipush g (8) (by decide) d_md_type_34 ?_
      refine PW.iload g rfl d_md_type_36 ?_
      refine PW.imul g d_md_type_38 ?_
      refine PX.lshr g rfl d_md_type_39 ?_
      refine PW.ldc2 g (255) (pw_gw 1375 (by decide +kernel) (by decide +kernel)) d_md_type_40 ?_
      refine PW.land g d_md_type_43 ?_
      refine PW.l2i g rfl d_md_type_44 ?_
      refine PW.istore g (L' := [some (.ref 121), some (.long f1), none, some (.int f3), some (.int x4), some (.int (((((f1) >>> ((((8 : Int32) * x4)).toInt64 &&& 63)) &&& (255 : Int64))).toInt32))]) (by decide) rfl rfl d_md_type_45 ?_
      refine PW.iload g rfl d_md_type_47 ?_
      refine PX.cSz [.int (((((f1) >>> ((((8 : Int32) * x4)).toInt64 &&& 63)) &&& (255 : Int64))).toInt32)] [] g (c_md_isDigit d  hL h) cl_md_179 (by omega) (by decide) rfl rfl (Nat.le_of_ble_eq_true rfl) d_md_type_49 (fun v1 I1 R1 hL hzv1 h => ?_)
      refine PW.if_ne g 95 (by decide) d_md_type_52 (fun c5 => ?_) (fun c5 => ?_)
      · have h := h.1 c5
        refine PW.iinc g rfl (show x4 + Int32.ofInt (1) = (x4 + 1) from congrArg (HAdd.hAdd x4) (by decide)) (by decide) rfl (L' := [some (.ref 121), some (.long f1), none, some (.int f3), some (.int (x4 + 1)), some (.int (((((f1) >>> ((((8 : Int32) * x4)).toInt64 &&& 63)) &&& (255 : Int64))).toInt32))]) rfl d_md_type_95 ?_
        refine PW.goto g 27 (by decide) d_md_type_98 ?_
        refine PX.sub [some (.ref 121), some (.long f1), none, some (.int f3), some (.int (x4 + 1)), none] ⟨rfl, ⟨rfl, ⟨rfl, ⟨rfl, trivial⟩⟩⟩⟩ ?_
        exact ih _ _ _ hL h
      · have h := h.2 c5
        refine PW.iload g rfl d_md_type_55 ?_
        refine PX.cSz [.int (((((f1) >>> ((((8 : Int32) * x4)).toInt64 &&& 63)) &&& (255 : Int64))).toInt32)] [] g (c_md_isSmall d  hL h) cl_md_183 (by omega) (by decide) rfl rfl (Nat.le_of_ble_eq_true rfl) d_md_type_57 (fun v2 I2 R2 hL hzv2 h => ?_)
        refine PW.if_ne g 95 (by decide) d_md_type_60 (fun c6 => ?_) (fun c6 => ?_)
        · have h := h.1 c6
          refine PW.iinc g rfl (show x4 + Int32.ofInt (1) = (x4 + 1) from congrArg (HAdd.hAdd x4) (by decide)) (by decide) rfl (L' := [some (.ref 121), some (.long f1), none, some (.int f3), some (.int (x4 + 1)), some (.int (((((f1) >>> ((((8 : Int32) * x4)).toInt64 &&& 63)) &&& (255 : Int64))).toInt32))]) rfl d_md_type_95 ?_
          refine PW.goto g 27 (by decide) d_md_type_98 ?_
          refine PX.sub [some (.ref 121), some (.long f1), none, some (.int f3), some (.int (x4 + 1)), none] ⟨rfl, ⟨rfl, ⟨rfl, ⟨rfl, trivial⟩⟩⟩⟩ ?_
          exact ih _ _ _ hL h
        · have h := h.2 c6
          refine PW.iload g rfl d_md_type_63 ?_
          refine PX.cSz [.int (((((f1) >>> ((((8 : Int32) * x4)).toInt64 &&& 63)) &&& (255 : Int64))).toInt32)] [] g (c_md_isCapital d  hL h) cl_md_186 (by omega) (by decide) rfl rfl (Nat.le_of_ble_eq_true rfl) d_md_type_65 (fun v3 I3 R3 hL hzv3 h => ?_)
          refine PW.if_ne g 95 (by decide) d_md_type_68 (fun c7 => ?_) (fun c7 => ?_)
          · have h := h.1 c7
            refine PW.iinc g rfl (show x4 + Int32.ofInt (1) = (x4 + 1) from congrArg (HAdd.hAdd x4) (by decide)) (by decide) rfl (L' := [some (.ref 121), some (.long f1), none, some (.int f3), some (.int (x4 + 1)), some (.int (((((f1) >>> ((((8 : Int32) * x4)).toInt64 &&& 63)) &&& (255 : Int64))).toInt32))]) rfl d_md_type_95 ?_
            refine PW.goto g 27 (by decide) d_md_type_98 ?_
            refine PX.sub [some (.ref 121), some (.long f1), none, some (.int f3), some (.int (x4 + 1)), none] ⟨rfl, ⟨rfl, ⟨rfl, ⟨rfl, trivial⟩⟩⟩⟩ ?_
            exact ih _ _ _ hL h
          · have h := h.2 c7
            refine PW.iload g rfl d_md_type_71 ?_
            refine PX.cSz [.int (((((f1) >>> ((((8 : Int32) * x4)).toInt64 &&& 63)) &&& (255 : Int64))).toInt32)] [] g (c_md_isSign d  hL h) cl_md_189 (by omega) (by decide) rfl rfl (Nat.le_of_ble_eq_true rfl) d_md_type_73 (fun v4 I4 R4 hL hzv4 h => ?_)
            refine PW.if_ne g 95 (by decide) d_md_type_76 (fun c8 => ?_) (fun c8 => ?_)
            · have h := h.1 c8
              refine PW.iinc g rfl (show x4 + Int32.ofInt (1) = (x4 + 1) from congrArg (HAdd.hAdd x4) (by decide)) (by decide) rfl (L' := [some (.ref 121), some (.long f1), none, some (.int f3), some (.int (x4 + 1)), some (.int (((((f1) >>> ((((8 : Int32) * x4)).toInt64 &&& 63)) &&& (255 : Int64))).toInt32))]) rfl d_md_type_95 ?_
              refine PW.goto g 27 (by decide) d_md_type_98 ?_
              refine PX.sub [some (.ref 121), some (.long f1), none, some (.int f3), some (.int (x4 + 1)), none] ⟨rfl, ⟨rfl, ⟨rfl, ⟨rfl, trivial⟩⟩⟩⟩ ?_
              exact ih _ _ _ hL h
            · have h := h.2 c8
              refine PW.iload g rfl d_md_type_79 ?_
              refine PW.bipush g (32) (by decide) d_md_type_81 ?_
              refine PW.icmp_eq g 95 (by decide) d_md_type_83 (fun c9 => ?_) (fun c9 => ?_)
              · have h := h.1 c9
                refine PW.iinc g rfl (show x4 + Int32.ofInt (1) = (x4 + 1) from congrArg (HAdd.hAdd x4) (by decide)) (by decide) rfl (L' := [some (.ref 121), some (.long f1), none, some (.int f3), some (.int (x4 + 1)), some (.int (((((f1) >>> ((((8 : Int32) * x4)).toInt64 &&& 63)) &&& (255 : Int64))).toInt32))]) rfl d_md_type_95 ?_
                refine PW.goto g 27 (by decide) d_md_type_98 ?_
                refine PX.sub [some (.ref 121), some (.long f1), none, some (.int f3), some (.int (x4 + 1)), none] ⟨rfl, ⟨rfl, ⟨rfl, ⟨rfl, trivial⟩⟩⟩⟩ ?_
                exact ih _ _ _ hL h
              · have h := h.2 c9
                refine PW.iload g rfl d_md_type_86 ?_
                refine PW.bipush g (38) (by decide) d_md_type_88 ?_
                refine PW.icmp_eq g 95 (by decide) d_md_type_90 (fun c10 => ?_) (fun c10 => ?_)
                · have h := h.1 c10
                  refine PW.iinc g rfl (show x4 + Int32.ofInt (1) = (x4 + 1) from congrArg (HAdd.hAdd x4) (by decide)) (by decide) rfl (L' := [some (.ref 121), some (.long f1), none, some (.int f3), some (.int (x4 + 1)), some (.int (((((f1) >>> ((((8 : Int32) * x4)).toInt64 &&& 63)) &&& (255 : Int64))).toInt32))]) rfl d_md_type_95 ?_
                  refine PW.goto g 27 (by decide) d_md_type_98 ?_
                  refine PX.sub [some (.ref 121), some (.long f1), none, some (.int f3), some (.int (x4 + 1)), none] ⟨rfl, ⟨rfl, ⟨rfl, ⟨rfl, trivial⟩⟩⟩⟩ ?_
                  exact ih _ _ _ hL h
                · have h := h.2 c10
                  refine PW.iconst g (0) (by decide) d_md_type_93 ?_
                  exact PX.zret g hF rfl (Or.inl rfl) d_md_type_94 hL h
def l_md_type_106 (f1 : Int64) (K : pI → pR → Prop) (Q : Int32 → pI → pR → Prop) : Nat → Int32 → pI → pR → Prop
  | 0, _, _, _ => False
  | n + 1, x4, I, R => ((x4 < 0 → K I R) ∧ (¬ x4 < 0 → (vp_in (I 121 0) 120 ∧ ∀ I6, I6 = pw_wI I 122 (I 121 0).toNatClampNeg (((((f1) >>> ((((8 : Int32) * x4)).toInt64 &&& 63)) &&& (255 : Int64))).toInt32) → (∀ I7, I7 = pw_wI I6 121 0 ((I6 121 0) + (1 : Int32)) → l_md_type_106 f1 K Q n (x4 + (-1)) I7 R))))
set_option maxHeartbeats 4000000 in
set_option maxRecDepth 100000 in
theorem L_md_type_106 (d : Nat) {f1 : Int64} {K : pI → pR → Prop} {Q : Int32 → pI → pR → Prop} {E : pE} {B : pB} (g : pw_G m_md_type (d + 2) 0 0 E B) (hF : pX (qz Q) E B) (hK : ∀ (I : pI) (R : pR), pw_Lay R → K  I R → PX E B m_md_type.2.2.1 148 [none, none, none, none, none, none] [] I R) : ∀ (n : Nat) (x4 : Int32) (I : pI) (R : pR), pw_Lay R → l_md_type_106 f1 K Q n x4 I R → PX E B m_md_type.2.2.1 106 [some (.ref 121), some (.long f1), none, none, some (.int x4), none] [] I R := by
  intro n
  induction n with
  | zero => intro x4 I R hL h; exact False.elim h
  | succ n ih =>
    intro x4 I R hL h
    refine PW.iload g rfl d_md_type_106 ?_
    refine PW.if_lt g 148 (by decide) d_md_type_108 (fun c11 => ?_) (fun c11 => ?_)
    · have h := h.1 c11
      refine PX.sub [none, none, none, none, none, none] trivial ?_
      exact hK _ _ hL h
    · have h := h.2 c11
      refine PW.aload_n g rfl rfl d_md_type_111 ?_
      refine PW.getR (q := 122) g fi_md_7 rfl (hL 121 12 1 rfl (by decide)) d_md_type_112 ?_
      refine PW.aload_n g rfl rfl d_md_type_115 ?_
      refine PW.getI g fi_md_174 rfl d_md_type_116 ?_
      refine PW.lload_n g rfl rfl d_md_type_119 ?_
      refine PW.bipush g (8) (by decide) d_md_type_120 ?_
      refine PW.iload g rfl d_md_type_122 ?_
      refine PW.imul g d_md_type_124 ?_
      refine PX.lshr g rfl d_md_type_125 ?_
      refine PW.ldc2 g (255) (pw_gw 1375 (by decide +kernel) (by decide +kernel)) d_md_type_126 ?_
      refine PW.land g d_md_type_129 ?_
      refine PW.l2i g rfl d_md_type_130 ?_
      refine PW.iast g rfl h.1 d_md_type_131 ?_
      refine PX.gI (fun I6 eI6 => ?_)
      have h := h.2 _ eI6
      refine PW.aload_n g rfl rfl d_md_type_132 ?_
      refine PW.dup g rfl d_md_type_133 ?_
      refine PW.getI g fi_md_174 rfl d_md_type_134 ?_
      refine PW.iconst g (1) (by decide) d_md_type_137 ?_
      refine PW.iadd g d_md_type_138 ?_
      refine PW.putI g fi_md_174 rfl rfl rfl d_md_type_139 ?_
      refine PX.gI (fun I7 eI7 => ?_)
      have h := h _ eI7
      refine PW.iinc g rfl (show x4 + Int32.ofInt (-1) = (x4 + (-1)) from congrArg (HAdd.hAdd x4) (by decide)) (by decide) rfl (L' := [some (.ref 121), some (.long f1), none, none, some (.int (x4 + (-1))), none]) rfl d_md_type_142 ?_
      refine PW.goto g 106 (by decide) d_md_type_145 ?_
      refine PX.sub [some (.ref 121), some (.long f1), none, none, some (.int (x4 + (-1))), none] ⟨rfl, ⟨rfl, ⟨rfl, trivial⟩⟩⟩ ?_
      exact ih _ _ _ hL h
def w_md_type (a1 : Int64) (a2 : Int32) (I : pI) (R : pR) (Q : Int32 → pI → pR → Prop) : Prop := ((a2 < (1 : Int32) → Q (0 : Int32) I R) ∧ (¬ a2 < (1 : Int32) → (((8 : Int32) < a2 → Q (0 : Int32) I R) ∧ (¬ (8 : Int32) < a2 → ((((I 121 0) + a2) ≤ (120 : Int32) → (∃ n2, l_md_type_27 a1 a2 (fun I5 R5 => (∃ n1, l_md_type_106 a1 (fun I8 R6 => Q (1 : Int32) I8 R6) Q n1 (a2 - (1 : Int32)) I5 R5)) Q n2 (0 : Int32) I R)) ∧ (¬ ((I 121 0) + a2) ≤ (120 : Int32) → Q (0 : Int32) I R))))))
set_option maxHeartbeats 4000000 in
set_option maxRecDepth 100000 in
theorem c_md_type (d : Nat) {a1 : Int64} {a2 : Int32} {I : pI} {R : pR} {Q : Int32 → pI → pR → Prop} (hL : pw_Lay R) (h : w_md_type a1 a2 I R Q) : Cm (d + 2) m_md_type [.ref 121, .long a1, .int a2] I R (qz Q) := by
  refine Cm.of [some (.ref 121), some (.long a1), none, some (.int a2), none, none] (by decide) rfl (Nat.le_of_ble_eq_true rfl) (by simp) (fun E B g hF => ?_)
  unfold w_md_type at h
  refine PW.iload_n g rfl rfl d_md_type_0 ?_
  refine PW.iconst g (1) (by decide) d_md_type_1 ?_
  refine PW.icmp_lt g 22 (by decide) d_md_type_2 (fun c1 => ?_) (fun c1 => ?_)
  · have h := h.1 c1
    refine PW.iconst g (0) (by decide) d_md_type_22 ?_
    exact PX.zret g hF rfl (Or.inl rfl) d_md_type_23 hL h
  · have h := h.2 c1
    refine PW.iload_n g rfl rfl d_md_type_5 ?_
    refine PW.bipush g (8) (by decide) d_md_type_6 ?_
    refine PW.icmp_gt g 22 (by decide) d_md_type_8 (fun c2 => ?_) (fun c2 => ?_)
    · have h := h.1 c2
      refine PW.iconst g (0) (by decide) d_md_type_22 ?_
      exact PX.zret g hF rfl (Or.inl rfl) d_md_type_23 hL h
    · have h := h.2 c2
      refine PW.aload_n g rfl rfl d_md_type_11 ?_
      refine PW.getI g fi_md_174 rfl d_md_type_12 ?_
      refine PW.iload_n g rfl rfl d_md_type_15 ?_
      refine PW.iadd g d_md_type_16 ?_
      refine PW.bipush g (120) (by decide) d_md_type_17 ?_
      refine PW.icmp_le g 24 (by decide) d_md_type_19 (fun c3 => ?_) (fun c3 => ?_)
      · have h := h.1 c3
        refine PW.iconst g (0) (by decide) d_md_type_24 ?_
        refine PW.istore g (L' := [some (.ref 121), some (.long a1), none, some (.int a2), some (.int (0 : Int32)), none]) (by decide) rfl rfl d_md_type_25 ?_
        refine PX.sub [some (.ref 121), some (.long a1), none, some (.int a2), some (.int (0 : Int32)), none] ⟨rfl, ⟨rfl, ⟨rfl, ⟨rfl, trivial⟩⟩⟩⟩ ?_
        obtain ⟨n2, h⟩ := h
        refine L_md_type_27 d g hF (fun I5 R5 hL h => ?_) n2 (0 : Int32) I R hL h
        refine PW.iload_n g rfl rfl d_md_type_101 ?_
        refine PW.iconst g (1) (by decide) d_md_type_102 ?_
        refine PW.isub g d_md_type_103 ?_
        refine PW.istore g (L' := [some (.ref 121), some (.long a1), none, some (.int a2), some (.int (a2 - (1 : Int32))), none]) (by decide) rfl rfl d_md_type_104 ?_
        refine PX.sub [some (.ref 121), some (.long a1), none, none, some (.int (a2 - (1 : Int32))), none] ⟨rfl, ⟨rfl, ⟨rfl, trivial⟩⟩⟩ ?_
        obtain ⟨n1, h⟩ := h
        refine L_md_type_106 d g hF (fun I8 R6 hL h => ?_) n1 (a2 - (1 : Int32)) I5 R5 hL h
        refine PW.iconst g (1) (by decide) d_md_type_148 ?_
        exact PX.zret g hF rfl (Or.inr rfl) d_md_type_149 hL h
      · have h := h.2 c3
        refine PW.iconst g (0) (by decide) d_md_type_22 ?_
        exact PX.zret g hF rfl (Or.inl rfl) d_md_type_23 hL h
def w_md_clear (I : pI) (R : pR) (Q : pI → pR → Prop) : Prop := (∀ I1, I1 = pw_wI I 121 0 (0 : Int32) → Q I1 R)
set_option maxHeartbeats 4000000 in
set_option maxRecDepth 100000 in
theorem c_md_clear (d : Nat) {I : pI} {R : pR} {Q : pI → pR → Prop} (hL : pw_Lay R) (h : w_md_clear  I R Q) : Cm (d + 1) m_md_clear [.ref 121] I R (qv Q) := by
  refine Cm.of [some (.ref 121)] (by decide) rfl (Nat.le_of_ble_eq_true rfl) (by simp) (fun E B g hF => ?_)
  unfold w_md_clear at h
  refine PW.aload_n g rfl rfl d_md_clear_0 ?_
  refine PW.iconst g (0) (by decide) d_md_clear_1 ?_
  refine PW.putI g fi_md_174 rfl rfl rfl d_md_clear_2 ?_
  refine PX.gI (fun I1 eI1 => ?_)
  have h := h _ eI1
  exact PX.vret g hF rfl d_md_clear_5 hL h
def w_md_charAt (a1 : Int32) (I : pI) (R : pR) (Q : Int32 → pI → pR → Prop) : Prop := (((I 121 0) ≤ a1 → Q (0 : Int32) I R) ∧ (¬ (I 121 0) ≤ a1 → (vp_in a1 120 ∧ Q (I 122 a1.toNatClampNeg) I R)))
set_option maxHeartbeats 4000000 in
set_option maxRecDepth 100000 in
theorem c_md_charAt (d : Nat) {a1 : Int32} {I : pI} {R : pR} {Q : Int32 → pI → pR → Prop} (hL : pw_Lay R) (h : w_md_charAt a1 I R Q) : Cm (d + 1) m_md_charAt [.ref 121, .int a1] I R (qi Q) := by
  refine Cm.of [some (.ref 121), some (.int a1)] (by decide) rfl (Nat.le_of_ble_eq_true rfl) (by simp) (fun E B g hF => ?_)
  unfold w_md_charAt at h
  refine PW.iload_n g rfl rfl d_md_charAt_0 ?_
  refine PW.aload_n g rfl rfl d_md_charAt_1 ?_
  refine PW.getI g fi_md_174 rfl d_md_charAt_2 ?_
  refine PW.icmp_ge g 17 (by decide) d_md_charAt_5 (fun c1 => ?_) (fun c1 => ?_)
  · have h := h.1 c1
    refine PW.iconst g (0) (by decide) d_md_charAt_17 ?_
    exact PX.iret g hF rfl d_md_charAt_18 hL h
  · have h := h.2 c1
    refine PW.aload_n g rfl rfl d_md_charAt_8 ?_
    refine PW.getR (q := 122) g fi_md_7 rfl (hL 121 12 1 rfl (by decide)) d_md_charAt_9 ?_
    refine PW.iload_n g rfl rfl d_md_charAt_12 ?_
    refine PW.iald g rfl h.1 d_md_charAt_13 ?_
    have h := h.2
    refine PW.goto g 18 (by decide) d_md_charAt_14 ?_
    exact PX.iret g hF rfl d_md_charAt_18 hL h
def w_md_pair (a1 : Int32) (a2 : Int32) (I : pI) (R : pR) (Q : Int32 → pI → pR → Prop) : Prop := ((¬ a2 = (61 : Int32) → ((a1 = a2 → ((¬ a1 = (38 : Int32) → ((¬ a1 = (124 : Int32) → ((¬ a1 = (62 : Int32) → Q (0 : Int32) I R) ∧ (a1 = (62 : Int32) → Q (134 : Int32) I R))) ∧ (a1 = (124 : Int32) → Q (133 : Int32) I R))) ∧ (a1 = (38 : Int32) → Q (132 : Int32) I R))) ∧ (¬ a1 = a2 → Q (0 : Int32) I R))) ∧ (a2 = (61 : Int32) → ((¬ a1 = (61 : Int32) → ((¬ a1 = (33 : Int32) → ((¬ a1 = (60 : Int32) → ((¬ a1 = (62 : Int32) → Q (0 : Int32) I R) ∧ (a1 = (62 : Int32) → Q (131 : Int32) I R))) ∧ (a1 = (60 : Int32) → Q (130 : Int32) I R))) ∧ (a1 = (33 : Int32) → Q (129 : Int32) I R))) ∧ (a1 = (61 : Int32) → Q (128 : Int32) I R))))
set_option maxHeartbeats 4000000 in
set_option maxRecDepth 100000 in
theorem c_md_pair (d : Nat) {a1 : Int32} {a2 : Int32} {I : pI} {R : pR} {Q : Int32 → pI → pR → Prop} (hL : pw_Lay R) (h : w_md_pair a1 a2 I R Q) : Cm (d + 1) m_md_pair [.int a1, .int a2] I R (qi Q) := by
  refine Cm.of [some (.int a1), some (.int a2)] (by decide) rfl (Nat.le_of_ble_eq_true rfl) (by simp) (fun E B g hF => ?_)
  unfold w_md_pair at h
  refine PW.iload_n g rfl rfl d_md_pair_0 ?_
  refine PW.bipush g (61) (by decide) d_md_pair_1 ?_
  refine PW.icmp_ne g 56 (by decide) d_md_pair_3 (fun c1 => ?_) (fun c1 => ?_)
  · have h := h.1 c1
    refine PW.iload_n g rfl rfl d_md_pair_56 ?_
    refine PW.iload_n g rfl rfl d_md_pair_57 ?_
    refine PW.icmp_eq g 63 (by decide) d_md_pair_58 (fun c2 => ?_) (fun c2 => ?_)
    · have h := h.1 c2
      refine PW.iload_n g rfl rfl d_md_pair_63 ?_
      refine PW.bipush g (38) (by decide) d_md_pair_64 ?_
      refine PW.icmp_ne g 75 (by decide) d_md_pair_66 (fun c3 => ?_) (fun c3 => ?_)
      · have h := h.1 c3
        refine PW.iload_n g rfl rfl d_md_pair_75 ?_
        refine PW.bipush g (124) (by decide) d_md_pair_76 ?_
        refine PW.icmp_ne g 87 (by decide) d_md_pair_78 (fun c4 => ?_) (fun c4 => ?_)
        · have h := h.1 c4
          refine PW.iload_n g rfl rfl d_md_pair_87 ?_
          refine PW.bipush g (62) (by decide) d_md_pair_88 ?_
          refine PW.icmp_ne g 99 (by decide) d_md_pair_90 (fun c5 => ?_) (fun c5 => ?_)
          · have h := h.1 c5
            refine PW.iconst g (0) (by decide) d_md_pair_99 ?_
            exact PX.iret g hF rfl d_md_pair_100 hL h
          · have h := h.2 c5
            refine PW.sipush g (134) (by decide) d_md_pair_93 ?_
            refine PW.goto g 100 (by decide) d_md_pair_96 ?_
            exact PX.iret g hF rfl d_md_pair_100 hL h
        · have h := h.2 c4
          refine PW.sipush g (133) (by decide) d_md_pair_81 ?_
          refine PW.goto g 100 (by decide) d_md_pair_84 ?_
          exact PX.iret g hF rfl d_md_pair_100 hL h
      · have h := h.2 c3
        refine PW.sipush g (132) (by decide) d_md_pair_69 ?_
        refine PW.goto g 100 (by decide) d_md_pair_72 ?_
        exact PX.iret g hF rfl d_md_pair_100 hL h
    · have h := h.2 c2
      refine PW.iconst g (0) (by decide) d_md_pair_61 ?_
      exact PX.iret g hF rfl d_md_pair_62 hL h
  · have h := h.2 c1
    refine PW.iload_n g rfl rfl d_md_pair_6 ?_
    refine PW.bipush g (61) (by decide) d_md_pair_7 ?_
    refine PW.icmp_ne g 18 (by decide) d_md_pair_9 (fun c6 => ?_) (fun c6 => ?_)
    · have h := h.1 c6
      refine PW.iload_n g rfl rfl d_md_pair_18 ?_
      refine PW.bipush g (33) (by decide) d_md_pair_19 ?_
      refine PW.icmp_ne g 30 (by decide) d_md_pair_21 (fun c7 => ?_) (fun c7 => ?_)
      · have h := h.1 c7
        refine PW.iload_n g rfl rfl d_md_pair_30 ?_
        refine PW.bipush g (60) (by decide) d_md_pair_31 ?_
        refine PW.icmp_ne g 42 (by decide) d_md_pair_33 (fun c8 => ?_) (fun c8 => ?_)
        · have h := h.1 c8
          refine PW.iload_n g rfl rfl d_md_pair_42 ?_
          refine PW.bipush g (62) (by decide) d_md_pair_43 ?_
          refine PW.icmp_ne g 54 (by decide) d_md_pair_45 (fun c9 => ?_) (fun c9 => ?_)
          · have h := h.1 c9
            refine PW.iconst g (0) (by decide) d_md_pair_54 ?_
            exact PX.iret g hF rfl d_md_pair_55 hL h
          · have h := h.2 c9
            refine PW.sipush g (131) (by decide) d_md_pair_48 ?_
            refine PW.goto g 55 (by decide) d_md_pair_51 ?_
            exact PX.iret g hF rfl d_md_pair_55 hL h
        · have h := h.2 c8
          refine PW.sipush g (130) (by decide) d_md_pair_36 ?_
          refine PW.goto g 55 (by decide) d_md_pair_39 ?_
          exact PX.iret g hF rfl d_md_pair_55 hL h
      · have h := h.2 c7
        refine PW.sipush g (129) (by decide) d_md_pair_24 ?_
        refine PW.goto g 55 (by decide) d_md_pair_27 ?_
        exact PX.iret g hF rfl d_md_pair_55 hL h
    · have h := h.2 c6
      refine PW.sipush g (128) (by decide) d_md_pair_12 ?_
      refine PW.goto g 55 (by decide) d_md_pair_15 ?_
      exact PX.iret g hF rfl d_md_pair_55 hL h
def w_md_put (a1 : Int32) (a2 : Int32) (a3 : Int32) (a4 : Int32) (I : pI) (R : pR) (Q : pI → pR → Prop) : Prop := (vp_in (I 121 2) 128 ∧ ∀ I1, I1 = pw_wI I 123 (I 121 2).toNatClampNeg a1 → (vp_in (I1 121 2) 128 ∧ ∀ I2, I2 = pw_wI I1 124 (I1 121 2).toNatClampNeg a2 → (vp_in (I2 121 2) 128 ∧ ∀ I3, I3 = pw_wI I2 125 (I2 121 2).toNatClampNeg a3 → (vp_in (I3 121 2) 128 ∧ ∀ I4, I4 = pw_wI I3 126 (I3 121 2).toNatClampNeg a4 → (∀ I5, I5 = pw_wI I4 121 2 ((I4 121 2) + (1 : Int32)) → Q I5 R)))))
set_option maxHeartbeats 4000000 in
set_option maxRecDepth 100000 in
theorem c_md_put (d : Nat) {a1 : Int32} {a2 : Int32} {a3 : Int32} {a4 : Int32} {I : pI} {R : pR} {Q : pI → pR → Prop} (hL : pw_Lay R) (h : w_md_put a1 a2 a3 a4 I R Q) : Cm (d + 1) m_md_put [.ref 121, .int a1, .int a2, .int a3, .int a4] I R (qv Q) := by
  refine Cm.of [some (.ref 121), some (.int a1), some (.int a2), some (.int a3), some (.int a4)] (by decide) rfl (Nat.le_of_ble_eq_true rfl) (by simp) (fun E B g hF => ?_)
  unfold w_md_put at h
  refine PW.aload_n g rfl rfl d_md_put_0 ?_
  refine PW.getR (q := 123) g fi_md_13 rfl (hL 121 12 3 rfl (by decide)) d_md_put_1 ?_
  refine PW.aload_n g rfl rfl d_md_put_4 ?_
  refine PW.getI g fi_md_192 rfl d_md_put_5 ?_
  refine PW.iload_n g rfl rfl d_md_put_8 ?_
  refine PW.iast g rfl h.1 d_md_put_9 ?_
  refine PX.gI (fun I1 eI1 => ?_)
  have h := h.2 _ eI1
  refine PW.aload_n g rfl rfl d_md_put_10 ?_
  refine PW.getR (q := 124) g fi_md_16 rfl (hL 121 12 4 rfl (by decide)) d_md_put_11 ?_
  refine PW.aload_n g rfl rfl d_md_put_14 ?_
  refine PW.getI g fi_md_192 rfl d_md_put_15 ?_
  refine PW.iload_n g rfl rfl d_md_put_18 ?_
  refine PW.iast g rfl h.1 d_md_put_19 ?_
  refine PX.gI (fun I2 eI2 => ?_)
  have h := h.2 _ eI2
  refine PW.aload_n g rfl rfl d_md_put_20 ?_
  refine PW.getR (q := 125) g fi_md_19 rfl (hL 121 12 5 rfl (by decide)) d_md_put_21 ?_
  refine PW.aload_n g rfl rfl d_md_put_24 ?_
  refine PW.getI g fi_md_192 rfl d_md_put_25 ?_
  refine PW.iload_n g rfl rfl d_md_put_28 ?_
  refine PW.iast g rfl h.1 d_md_put_29 ?_
  refine PX.gI (fun I3 eI3 => ?_)
  have h := h.2 _ eI3
  refine PW.aload_n g rfl rfl d_md_put_30 ?_
  refine PW.getR (q := 126) g fi_md_22 rfl (hL 121 12 6 rfl (by decide)) d_md_put_31 ?_
  refine PW.aload_n g rfl rfl d_md_put_34 ?_
  refine PW.getI g fi_md_192 rfl d_md_put_35 ?_
  refine PW.iload g rfl d_md_put_38 ?_
  refine PW.iast g rfl h.1 d_md_put_40 ?_
  refine PX.gI (fun I4 eI4 => ?_)
  have h := h.2 _ eI4
  refine PW.aload_n g rfl rfl d_md_put_41 ?_
  refine PW.dup g rfl d_md_put_42 ?_
  refine PW.getI g fi_md_192 rfl d_md_put_43 ?_
  refine PW.iconst g (1) (by decide) d_md_put_46 ?_
  refine PW.iadd g d_md_put_47 ?_
  refine PW.putI g fi_md_192 rfl rfl rfl d_md_put_48 ?_
  refine PX.gI (fun I5 eI5 => ?_)
  have h := h _ eI5
  exact PX.vret g hF rfl d_md_put_51 hL h
def j_md_split_158 (K7 : Int32 → pI → pR → Prop) (Q : pI → pR → Prop) (x1 : Int32) (x2 : Int32) (x4 : Int32) (s0 : Int32) (I : pI) (R : pR) : Prop := ((x4 ≤ 0 → ((¬ x2 = (38 : Int32) → (w_md_put x2 (0 : Int32) x1 s0 I R (fun I6 R5 => K7 s0 I6 R5))) ∧ (x2 = (38 : Int32) → (w_md_put (3 : Int32) (0 : Int32) x1 s0 I R (fun I7 R6 => K7 s0 I7 R6))))) ∧ (¬ x4 ≤ 0 → (w_md_put x4 (0 : Int32) x1 s0 I R (fun I8 R7 => K7 s0 I8 R7))))
set_option maxHeartbeats 4000000 in
set_option maxRecDepth 100000 in
theorem J_md_split_158 (d : Nat) {K7 : Int32 → pI → pR → Prop} {Q : pI → pR → Prop} {x1 : Int32} {x2 : Int32} {x4 : Int32} {s0 : Int32} {E : pE} {B : pB} (g : pw_G m_md_split (d + 2) 0 0 E B) (hF : pX (qv Q) E B) (hK7 : ∀ (y1 : Int32) (I : pI) (R : pR), pw_Lay R → K7 y1 I R → PX E B m_md_split.2.2.1 7 [some (.ref 121), some (.int y1), none, none, none] [] I R) {I : pI} {R : pR} (hL : pw_Lay R) (h : j_md_split_158  K7 Q x1 x2 x4 s0 I R) : PX E B m_md_split.2.2.1 158 [some (.ref 121), some (.int x1), some (.int x2), none, some (.int x4)] [.int s0] I R := by
  unfold j_md_split_158 at h
  refine PW.istore_n g rfl (L' := [some (.ref 121), some (.int x1), some (.int x2), some (.int s0), some (.int x4)]) (by decide) rfl rfl d_md_split_158 ?_
  refine PW.aload_n g rfl rfl d_md_split_159 ?_
  refine PW.iload g rfl d_md_split_160 ?_
  refine PW.if_le g 170 (by decide) d_md_split_162 (fun c6 => ?_) (fun c6 => ?_)
  · have h := h.1 c6
    refine PW.iload_n g rfl rfl d_md_split_170 ?_
    refine PW.bipush g (38) (by decide) d_md_split_171 ?_
    refine PW.icmp_ne g 180 (by decide) d_md_split_173 (fun c7 => ?_) (fun c7 => ?_)
    · have h := h.1 c7
      refine PW.iload_n g rfl rfl d_md_split_180 ?_
      refine PW.iconst g (0) (by decide) d_md_split_181 ?_
      refine PW.iload_n g rfl rfl d_md_split_182 ?_
      refine PW.iload_n g rfl rfl d_md_split_183 ?_
      refine PX.cVv [.int x2, .int (0 : Int32), .int x1, .int s0] [] g rfl ck_md (c_md_put d  hL h) cl_md_199 (by omega) (by decide) rfl rfl (Nat.le_of_ble_eq_true rfl) d_md_split_184 (fun I6 R5 hL h => ?_)
      refine PW.iload_n g rfl rfl d_md_split_187 ?_
      refine PW.istore_n g rfl (L' := [some (.ref 121), some (.int s0), some (.int x2), some (.int s0), some (.int x4)]) (by decide) rfl rfl d_md_split_188 ?_
      refine PW.goto g 7 (by decide) d_md_split_189 ?_
      refine PX.sub [some (.ref 121), some (.int s0), none, none, none] ⟨rfl, ⟨rfl, trivial⟩⟩ ?_
      exact hK7 _ _ _ hL h
    · have h := h.2 c7
      refine PW.iconst g (3) (by decide) d_md_split_176 ?_
      refine PW.goto g 181 (by decide) d_md_split_177 ?_
      refine PW.iconst g (0) (by decide) d_md_split_181 ?_
      refine PW.iload_n g rfl rfl d_md_split_182 ?_
      refine PW.iload_n g rfl rfl d_md_split_183 ?_
      refine PX.cVv [.int (3 : Int32), .int (0 : Int32), .int x1, .int s0] [] g rfl ck_md (c_md_put d  hL h) cl_md_199 (by omega) (by decide) rfl rfl (Nat.le_of_ble_eq_true rfl) d_md_split_184 (fun I7 R6 hL h => ?_)
      refine PW.iload_n g rfl rfl d_md_split_187 ?_
      refine PW.istore_n g rfl (L' := [some (.ref 121), some (.int s0), some (.int x2), some (.int s0), some (.int x4)]) (by decide) rfl rfl d_md_split_188 ?_
      refine PW.goto g 7 (by decide) d_md_split_189 ?_
      refine PX.sub [some (.ref 121), some (.int s0), none, none, none] ⟨rfl, ⟨rfl, trivial⟩⟩ ?_
      exact hK7 _ _ _ hL h
  · have h := h.2 c6
    refine PW.iload g rfl d_md_split_165 ?_
    refine PW.goto g 181 (by decide) d_md_split_167 ?_
    refine PW.iconst g (0) (by decide) d_md_split_181 ?_
    refine PW.iload_n g rfl rfl d_md_split_182 ?_
    refine PW.iload_n g rfl rfl d_md_split_183 ?_
    refine PX.cVv [.int x4, .int (0 : Int32), .int x1, .int s0] [] g rfl ck_md (c_md_put d  hL h) cl_md_199 (by omega) (by decide) rfl rfl (Nat.le_of_ble_eq_true rfl) d_md_split_184 (fun I8 R7 hL h => ?_)
    refine PW.iload_n g rfl rfl d_md_split_187 ?_
    refine PW.istore_n g rfl (L' := [some (.ref 121), some (.int s0), some (.int x2), some (.int s0), some (.int x4)]) (by decide) rfl rfl d_md_split_188 ?_
    refine PW.goto g 7 (by decide) d_md_split_189 ?_
    refine PX.sub [some (.ref 121), some (.int s0), none, none, none] ⟨rfl, ⟨rfl, trivial⟩⟩ ?_
    exact hK7 _ _ _ hL h
def l_md_split_39 (f1 : Int32) (K : Int32 → Int32 → pI → pR → Prop) (Q : pI → pR → Prop) : Nat → Int32 → Int32 → pI → pR → Prop
  | 0, _, _, _, _ => False
  | n + 1, x3, x4, I, R => (w_md_charAt x3 I R (fun v9 I12 R11 => (w_md_isDigit v9 I12 R11 (fun v10 I13 R12 => ((v10 = 0 → K x3 x4 I13 R12) ∧ (¬ v10 = 0 → (((10000 : Int32) ≤ x4 → l_md_split_39 f1 K Q n (x3 + 1) x4 I13 R12) ∧ (¬ (10000 : Int32) ≤ x4 → (w_md_charAt x3 I13 R12 (fun v11 I14 R13 => l_md_split_39 f1 K Q n (x3 + 1) ((((10 : Int32) * x4) + v11) - (48 : Int32)) I14 R13))))))))))
set_option maxHeartbeats 4000000 in
set_option maxRecDepth 100000 in
theorem L_md_split_39 (d : Nat) {f1 : Int32} {K : Int32 → Int32 → pI → pR → Prop} {Q : pI → pR → Prop} {E : pE} {B : pB} (g : pw_G m_md_split (d + 2) 0 0 E B) (hF : pX (qv Q) E B) (hK : ∀ (y3 : Int32) (y4 : Int32) (I : pI) (R : pR), pw_Lay R → K y3 y4 I R → PX E B m_md_split.2.2.1 85 [some (.ref 121), some (.int f1), none, some (.int y3), some (.int y4)] [] I R) : ∀ (n : Nat) (x3 : Int32) (x4 : Int32) (I : pI) (R : pR), pw_Lay R → l_md_split_39 f1 K Q n x3 x4 I R → PX E B m_md_split.2.2.1 39 [some (.ref 121), some (.int f1), none, some (.int x3), some (.int x4)] [] I R := by
  intro n
  induction n with
  | zero => intro x3 x4 I R hL h; exact False.elim h
  | succ n ih =>
    intro x3 x4 I R hL h
    refine PW.aload_n g rfl rfl d_md_split_39 ?_
    refine PW.iload_n g rfl rfl d_md_split_40 ?_
    refine PX.cVi [.int x3] [] g rfl ck_md (c_md_charAt d  hL h) cl_md_195 (by omega) (by decide) rfl rfl (Nat.le_of_ble_eq_true rfl) d_md_split_41 (fun v9 I12 R11 hL h => ?_)
    refine PX.cSz [.int v9] [] g (c_md_isDigit d  hL h) cl_md_179 (by omega) (by decide) rfl rfl (Nat.le_of_ble_eq_true rfl) d_md_split_44 (fun v10 I13 R12 hL hzv10 h => ?_)
    refine PW.if_eq g 85 (by decide) d_md_split_47 (fun c8 => ?_) (fun c8 => ?_)
    · have h := h.1 c8
      refine PX.sub [some (.ref 121), some (.int f1), none, some (.int x3), some (.int x4)] ⟨rfl, ⟨rfl, ⟨rfl, ⟨rfl, trivial⟩⟩⟩⟩ ?_
      exact hK _ _ _ _ hL h
    · have h := h.2 c8
      refine PW.iload g rfl d_md_split_50 ?_
      refine PW.sipush g (10000) (by decide) d_md_split_52 ?_
      refine PW.icmp_ge g 75 (by decide) d_md_split_55 (fun c9 => ?_) (fun c9 => ?_)
      · have h := h.1 c9
        refine PW.iload g rfl d_md_split_75 ?_
        refine PW.istore g (L' := [some (.ref 121), some (.int f1), none, some (.int x3), some (.int x4)]) (by decide) rfl rfl d_md_split_77 ?_
        refine PW.iinc g rfl (show x3 + Int32.ofInt (1) = (x3 + 1) from congrArg (HAdd.hAdd x3) (by decide)) (by decide) rfl (L' := [some (.ref 121), some (.int f1), none, some (.int (x3 + 1)), some (.int x4)]) rfl d_md_split_79 ?_
        refine PW.goto g 39 (by decide) d_md_split_82 ?_
        refine PX.sub [some (.ref 121), some (.int f1), none, some (.int (x3 + 1)), some (.int x4)] ⟨rfl, ⟨rfl, ⟨rfl, ⟨rfl, trivial⟩⟩⟩⟩ ?_
        exact ih _ _ _ _ hL h
      · have h := h.2 c9
        refine PW.bipush g (10) (by decide) d_md_split_58 ?_
        refine PW.iload g rfl d_md_split_60 ?_
        refine PW.imul g d_md_split_62 ?_
        refine PW.aload_n g rfl rfl d_md_split_63 ?_
        refine PW.iload_n g rfl rfl d_md_split_64 ?_
        refine PX.cVi [.int x3] [.int ((10 : Int32) * x4)] g rfl ck_md (c_md_charAt d  hL h) cl_md_195 (by omega) (by decide) rfl rfl (Nat.le_of_ble_eq_true rfl) d_md_split_65 (fun v11 I14 R13 hL h => ?_)
        refine PW.iadd g d_md_split_68 ?_
        refine PW.bipush g (48) (by decide) d_md_split_69 ?_
        refine PW.isub g d_md_split_71 ?_
        refine PW.goto g 77 (by decide) d_md_split_72 ?_
        refine PW.istore g (L' := [some (.ref 121), some (.int f1), none, some (.int x3), some (.int ((((10 : Int32) * x4) + v11) - (48 : Int32)))]) (by decide) rfl rfl d_md_split_77 ?_
        refine PW.iinc g rfl (show x3 + Int32.ofInt (1) = (x3 + 1) from congrArg (HAdd.hAdd x3) (by decide)) (by decide) rfl (L' := [some (.ref 121), some (.int f1), none, some (.int (x3 + 1)), some (.int ((((10 : Int32) * x4) + v11) - (48 : Int32)))]) rfl d_md_split_79 ?_
        refine PW.goto g 39 (by decide) d_md_split_82 ?_
        refine PX.sub [some (.ref 121), some (.int f1), none, some (.int (x3 + 1)), some (.int ((((10 : Int32) * x4) + v11) - (48 : Int32)))] ⟨rfl, ⟨rfl, ⟨rfl, ⟨rfl, trivial⟩⟩⟩⟩ ?_
        exact ih _ _ _ _ hL h
def l_md_split_7 (K : pI → pR → Prop) (Q : pI → pR → Prop) : Nat → Int32 → pI → pR → Prop
  | 0, _, _, _ => False
  | n + 1, x1, I, R => (((I 121 0) ≤ x1 → K I R) ∧ (¬ (I 121 0) ≤ x1 → (vp_in x1 120 ∧ (w_md_isDigit (I 122 x1.toNatClampNeg) I R (fun v1 I2 R1 => ((v1 = 0 → (w_md_isSmall (I 122 x1.toNatClampNeg) I2 R1 (fun v2 I3 R2 => ((v2 = 0 → (((I 122 x1.toNatClampNeg) = (32 : Int32) → l_md_split_7 K Q n (x1 + (1 : Int32)) I3 R2) ∧ (¬ (I 122 x1.toNatClampNeg) = (32 : Int32) → (w_md_charAt (x1 + (1 : Int32)) I3 R2 (fun v3 I4 R3 => (w_md_pair (I 122 x1.toNatClampNeg) v3 I4 R3 (fun v4 I5 R4 => ((v4 ≤ 0 → (j_md_split_158 (fun y1 I9 R8 => l_md_split_7 K Q n y1 I9 R8) Q x1 (I 122 x1.toNatClampNeg) v4 (x1 + (1 : Int32)) I5 R4)) ∧ (¬ v4 ≤ 0 → (j_md_split_158 (fun y2 I10 R9 => l_md_split_7 K Q n y2 I10 R9) Q x1 (I 122 x1.toNatClampNeg) v4 ((x1 + (1 : Int32)) + (1 : Int32)) I5 R4)))))))))) ∧ (¬ v2 = 0 → (w_md_put (2 : Int32) ((I 122 x1.toNatClampNeg) - (97 : Int32)) x1 (x1 + (1 : Int32)) I3 R2 (fun I11 R10 => l_md_split_7 K Q n (x1 + (1 : Int32)) I11 R10))))))) ∧ (¬ v1 = 0 → (∃ n1, l_md_split_39 x1 (fun y3 y4 I15 R14 => (((y3 - x1) ≤ (4 : Int32) → (w_md_put (1 : Int32) y4 x1 y3 I15 R14 (fun I16 R15 => l_md_split_7 K Q n y3 I16 R15))) ∧ (¬ (y3 - x1) ≤ (4 : Int32) → (w_md_put (3 : Int32) y4 x1 y3 I15 R14 (fun I17 R16 => l_md_split_7 K Q n y3 I17 R16))))) Q n1 (x1 + (1 : Int32)) ((I 122 x1.toNatClampNeg) - (48 : Int32)) I2 R1))))))))
set_option maxHeartbeats 4000000 in
set_option maxRecDepth 100000 in
theorem L_md_split_7 (d : Nat) {K : pI → pR → Prop} {Q : pI → pR → Prop} {E : pE} {B : pB} (g : pw_G m_md_split (d + 2) 0 0 E B) (hF : pX (qv Q) E B) (hK : ∀ (I : pI) (R : pR), pw_Lay R → K  I R → PX E B m_md_split.2.2.1 192 [some (.ref 121), none, none, none, none] [] I R) : ∀ (n : Nat) (x1 : Int32) (I : pI) (R : pR), pw_Lay R → l_md_split_7  K Q n x1 I R → PX E B m_md_split.2.2.1 7 [some (.ref 121), some (.int x1), none, none, none] [] I R := by
  intro n
  induction n with
  | zero => intro x1 I R hL h; exact False.elim h
  | succ n ih =>
    intro x1 I R hL h
    refine PW.iload_n g rfl rfl d_md_split_7 ?_
    refine PW.aload_n g rfl rfl d_md_split_8 ?_
    refine PW.getI g fi_md_174 rfl d_md_split_9 ?_
    refine PW.icmp_ge g 192 (by decide) d_md_split_12 (fun c1 => ?_) (fun c1 => ?_)
    · have h := h.1 c1
      refine PX.sub [some (.ref 121), none, none, none, none] ⟨rfl, trivial⟩ ?_
      exact hK _ _ hL h
    · have h := h.2 c1
      refine PW.aload_n g rfl rfl d_md_split_15 ?_
      refine PW.getR (q := 122) g fi_md_7 rfl (hL 121 12 1 rfl (by decide)) d_md_split_16 ?_
      refine PW.iload_n g rfl rfl d_md_split_19 ?_
      refine PW.iald g rfl h.1 d_md_split_20 ?_
      have h := h.2
      refine PW.istore_n g rfl (L' := [some (.ref 121), some (.int x1), some (.int (I 122 x1.toNatClampNeg)), none, none]) (by decide) rfl rfl d_md_split_21 ?_
      refine PW.iload_n g rfl rfl d_md_split_22 ?_
      refine PW.iconst g (1) (by decide) d_md_split_23 ?_
      refine PW.iadd g d_md_split_24 ?_
      refine PW.istore_n g rfl (L' := [some (.ref 121), some (.int x1), some (.int (I 122 x1.toNatClampNeg)), some (.int (x1 + (1 : Int32))), none]) (by decide) rfl rfl d_md_split_25 ?_
      refine PW.iload_n g rfl rfl d_md_split_26 ?_
      refine PX.cSz [.int (I 122 x1.toNatClampNeg)] [] g (c_md_isDigit d  hL h) cl_md_179 (by omega) (by decide) rfl rfl (Nat.le_of_ble_eq_true rfl) d_md_split_27 (fun v1 I2 R1 hL hzv1 h => ?_)
      refine PW.if_eq g 108 (by decide) d_md_split_30 (fun c2 => ?_) (fun c2 => ?_)
      · have h := h.1 c2
        refine PW.iload_n g rfl rfl d_md_split_108 ?_
        refine PX.cSz [.int (I 122 x1.toNatClampNeg)] [] g (c_md_isSmall d  hL h) cl_md_183 (by omega) (by decide) rfl rfl (Nat.le_of_ble_eq_true rfl) d_md_split_109 (fun v2 I3 R2 hL hzv2 h => ?_)
        refine PW.if_eq g 129 (by decide) d_md_split_112 (fun c3 => ?_) (fun c3 => ?_)
        · have h := h.1 c3
          refine PW.iload_n g rfl rfl d_md_split_129 ?_
          refine PW.bipush g (32) (by decide) d_md_split_130 ?_
          refine PW.icmp_eq g 187 (by decide) d_md_split_132 (fun c4 => ?_) (fun c4 => ?_)
          · have h := h.1 c4
            refine PW.iload_n g rfl rfl d_md_split_187 ?_
            refine PW.istore_n g rfl (L' := [some (.ref 121), some (.int (x1 + (1 : Int32))), some (.int (I 122 x1.toNatClampNeg)), some (.int (x1 + (1 : Int32))), none]) (by decide) rfl rfl d_md_split_188 ?_
            refine PW.goto g 7 (by decide) d_md_split_189 ?_
            refine PX.sub [some (.ref 121), some (.int (x1 + (1 : Int32))), none, none, none] ⟨rfl, ⟨rfl, trivial⟩⟩ ?_
            exact ih _ _ _ hL h
          · have h := h.2 c4
            refine PW.iload_n g rfl rfl d_md_split_135 ?_
            refine PW.aload_n g rfl rfl d_md_split_136 ?_
            refine PW.iload_n g rfl rfl d_md_split_137 ?_
            refine PX.cVi [.int (x1 + (1 : Int32))] [.int (I 122 x1.toNatClampNeg)] g rfl ck_md (c_md_charAt d  hL h) cl_md_195 (by omega) (by decide) rfl rfl (Nat.le_of_ble_eq_true rfl) d_md_split_138 (fun v3 I4 R3 hL h => ?_)
            refine PX.cSi [.int (I 122 x1.toNatClampNeg), .int v3] [] g (c_md_pair d  hL h) cl_md_203 (by omega) (by decide) rfl rfl (Nat.le_of_ble_eq_true rfl) d_md_split_141 (fun v4 I5 R4 hL h => ?_)
            refine PW.istore g (L' := [some (.ref 121), some (.int x1), some (.int (I 122 x1.toNatClampNeg)), some (.int (x1 + (1 : Int32))), some (.int v4)]) (by decide) rfl rfl d_md_split_144 ?_
            refine PW.iload g rfl d_md_split_146 ?_
            refine PW.if_le g 157 (by decide) d_md_split_148 (fun c5 => ?_) (fun c5 => ?_)
            · have h := h.1 c5
              refine PW.iload_n g rfl rfl d_md_split_157 ?_
              refine PX.sub [some (.ref 121), some (.int x1), some (.int (I 122 x1.toNatClampNeg)), none, some (.int v4)] ⟨rfl, ⟨rfl, ⟨rfl, ⟨rfl, trivial⟩⟩⟩⟩ ?_
              refine J_md_split_158 d g hF (fun y1 I9 R8 hL h => ?_) hL h
              refine PX.sub [some (.ref 121), some (.int y1), none, none, none] ⟨rfl, ⟨rfl, trivial⟩⟩ ?_
              exact ih _ _ _ hL h
            · have h := h.2 c5
              refine PW.iload_n g rfl rfl d_md_split_151 ?_
              refine PW.iconst g (1) (by decide) d_md_split_152 ?_
              refine PW.iadd g d_md_split_153 ?_
              refine PW.goto g 158 (by decide) d_md_split_154 ?_
              refine PX.sub [some (.ref 121), some (.int x1), some (.int (I 122 x1.toNatClampNeg)), none, some (.int v4)] ⟨rfl, ⟨rfl, ⟨rfl, ⟨rfl, trivial⟩⟩⟩⟩ ?_
              refine J_md_split_158 d g hF (fun y2 I10 R9 hL h => ?_) hL h
              refine PX.sub [some (.ref 121), some (.int y2), none, none, none] ⟨rfl, ⟨rfl, trivial⟩⟩ ?_
              exact ih _ _ _ hL h
        · have h := h.2 c3
          refine PW.aload_n g rfl rfl d_md_split_115 ?_
          refine PW.iconst g (2) (by decide) d_md_split_116 ?_
          refine PW.iload_n g rfl rfl d_md_split_117 ?_
          refine PW.bipush g (97) (by decide) d_md_split_118 ?_
          refine PW.isub g d_md_split_120 ?_
          refine PW.iload_n g rfl rfl d_md_split_121 ?_
          refine PW.iload_n g rfl rfl d_md_split_122 ?_
          refine PX.cVv [.int (2 : Int32), .int ((I 122 x1.toNatClampNeg) - (97 : Int32)), .int x1, .int (x1 + (1 : Int32))] [] g rfl ck_md (c_md_put d  hL h) cl_md_199 (by omega) (by decide) rfl rfl (Nat.le_of_ble_eq_true rfl) d_md_split_123 (fun I11 R10 hL h => ?_)
          refine PW.goto g 187 (by decide) d_md_split_126 ?_
          refine PW.iload_n g rfl rfl d_md_split_187 ?_
          refine PW.istore_n g rfl (L' := [some (.ref 121), some (.int (x1 + (1 : Int32))), some (.int (I 122 x1.toNatClampNeg)), some (.int (x1 + (1 : Int32))), none]) (by decide) rfl rfl d_md_split_188 ?_
          refine PW.goto g 7 (by decide) d_md_split_189 ?_
          refine PX.sub [some (.ref 121), some (.int (x1 + (1 : Int32))), none, none, none] ⟨rfl, ⟨rfl, trivial⟩⟩ ?_
          exact ih _ _ _ hL h
      · have h := h.2 c2
        refine PW.iload_n g rfl rfl d_md_split_33 ?_
        refine PW.bipush g (48) (by decide) d_md_split_34 ?_
        refine PW.isub g d_md_split_36 ?_
        refine PW.istore g (L' := [some (.ref 121), some (.int x1), some (.int (I 122 x1.toNatClampNeg)), some (.int (x1 + (1 : Int32))), some (.int ((I 122 x1.toNatClampNeg) - (48 : Int32)))]) (by decide) rfl rfl d_md_split_37 ?_
        refine PX.sub [some (.ref 121), some (.int x1), none, some (.int (x1 + (1 : Int32))), some (.int ((I 122 x1.toNatClampNeg) - (48 : Int32)))] ⟨rfl, ⟨rfl, ⟨rfl, ⟨rfl, trivial⟩⟩⟩⟩ ?_
        obtain ⟨n1, h⟩ := h
        refine L_md_split_39 d g hF (fun y3 y4 I15 R14 hL h => ?_) n1 (x1 + (1 : Int32)) ((I 122 x1.toNatClampNeg) - (48 : Int32)) I2 R1 hL h
        refine PW.aload_n g rfl rfl d_md_split_85 ?_
        refine PW.iload_n g rfl rfl d_md_split_86 ?_
        refine PW.iload_n g rfl rfl d_md_split_87 ?_
        refine PW.isub g d_md_split_88 ?_
        refine PW.iconst g (4) (by decide) d_md_split_89 ?_
        refine PW.icmp_le g 97 (by decide) d_md_split_90 (fun c10 => ?_) (fun c10 => ?_)
        · have h := h.1 c10
          refine PW.iconst g (1) (by decide) d_md_split_97 ?_
          refine PW.iload g rfl d_md_split_98 ?_
          refine PW.iload_n g rfl rfl d_md_split_100 ?_
          refine PW.iload_n g rfl rfl d_md_split_101 ?_
          refine PX.cVv [.int (1 : Int32), .int y4, .int x1, .int y3] [] g rfl ck_md (c_md_put d  hL h) cl_md_199 (by omega) (by decide) rfl rfl (Nat.le_of_ble_eq_true rfl) d_md_split_102 (fun I16 R15 hL h => ?_)
          refine PW.goto g 187 (by decide) d_md_split_105 ?_
          refine PW.iload_n g rfl rfl d_md_split_187 ?_
          refine PW.istore_n g rfl (L' := [some (.ref 121), some (.int y3), none, some (.int y3), some (.int y4)]) (by decide) rfl rfl d_md_split_188 ?_
          refine PW.goto g 7 (by decide) d_md_split_189 ?_
          refine PX.sub [some (.ref 121), some (.int y3), none, none, none] ⟨rfl, ⟨rfl, trivial⟩⟩ ?_
          exact ih _ _ _ hL h
        · have h := h.2 c10
          refine PW.iconst g (3) (by decide) d_md_split_93 ?_
          refine PW.goto g 98 (by decide) d_md_split_94 ?_
          refine PW.iload g rfl d_md_split_98 ?_
          refine PW.iload_n g rfl rfl d_md_split_100 ?_
          refine PW.iload_n g rfl rfl d_md_split_101 ?_
          refine PX.cVv [.int (3 : Int32), .int y4, .int x1, .int y3] [] g rfl ck_md (c_md_put d  hL h) cl_md_199 (by omega) (by decide) rfl rfl (Nat.le_of_ble_eq_true rfl) d_md_split_102 (fun I17 R16 hL h => ?_)
          refine PW.goto g 187 (by decide) d_md_split_105 ?_
          refine PW.iload_n g rfl rfl d_md_split_187 ?_
          refine PW.istore_n g rfl (L' := [some (.ref 121), some (.int y3), none, some (.int y3), some (.int y4)]) (by decide) rfl rfl d_md_split_188 ?_
          refine PW.goto g 7 (by decide) d_md_split_189 ?_
          refine PX.sub [some (.ref 121), some (.int y3), none, none, none] ⟨rfl, ⟨rfl, trivial⟩⟩ ?_
          exact ih _ _ _ hL h
def l_md_split_194 (K : pI → pR → Prop) (Q : pI → pR → Prop) : Nat → Int32 → pI → pR → Prop
  | 0, _, _, _ => False
  | n + 1, x2, I, R => (((6 : Int32) ≤ x2 → K I R) ∧ (¬ (6 : Int32) ≤ x2 → (w_md_put (0 : Int32) (0 : Int32) (I 121 0) (I 121 0) I R (fun I19 R18 => l_md_split_194 K Q n (x2 + 1) I19 R18))))
set_option maxHeartbeats 4000000 in
set_option maxRecDepth 100000 in
theorem L_md_split_194 (d : Nat) {K : pI → pR → Prop} {Q : pI → pR → Prop} {E : pE} {B : pB} (g : pw_G m_md_split (d + 2) 0 0 E B) (hF : pX (qv Q) E B) (hK : ∀ (I : pI) (R : pR), pw_Lay R → K  I R → PX E B m_md_split.2.2.1 220 [none, none, none, none, none] [] I R) : ∀ (n : Nat) (x2 : Int32) (I : pI) (R : pR), pw_Lay R → l_md_split_194  K Q n x2 I R → PX E B m_md_split.2.2.1 194 [some (.ref 121), none, some (.int x2), none, none] [] I R := by
  intro n
  induction n with
  | zero => intro x2 I R hL h; exact False.elim h
  | succ n ih =>
    intro x2 I R hL h
    refine PW.iload_n g rfl rfl d_md_split_194 ?_
    refine PW.bipush g (6) (by decide) d_md_split_195 ?_
    refine PW.icmp_ge g 220 (by decide) d_md_split_197 (fun c11 => ?_) (fun c11 => ?_)
    · have h := h.1 c11
      refine PX.sub [none, none, none, none, none] trivial ?_
      exact hK _ _ hL h
    · have h := h.2 c11
      refine PW.aload_n g rfl rfl d_md_split_200 ?_
      refine PW.iconst g (0) (by decide) d_md_split_201 ?_
      refine PW.iconst g (0) (by decide) d_md_split_202 ?_
      refine PW.aload_n g rfl rfl d_md_split_203 ?_
      refine PW.getI g fi_md_174 rfl d_md_split_204 ?_
      refine PW.aload_n g rfl rfl d_md_split_207 ?_
      refine PW.getI g fi_md_174 rfl d_md_split_208 ?_
      refine PX.cVv [.int (0 : Int32), .int (0 : Int32), .int (I 121 0), .int (I 121 0)] [] g rfl ck_md (c_md_put d  hL h) cl_md_199 (by omega) (by decide) rfl rfl (Nat.le_of_ble_eq_true rfl) d_md_split_211 (fun I19 R18 hL h => ?_)
      refine PW.iinc g rfl (show x2 + Int32.ofInt (1) = (x2 + 1) from congrArg (HAdd.hAdd x2) (by decide)) (by decide) rfl (L' := [some (.ref 121), none, some (.int (x2 + 1)), none, none]) rfl d_md_split_214 ?_
      refine PW.goto g 194 (by decide) d_md_split_217 ?_
      refine PX.sub [some (.ref 121), none, some (.int (x2 + 1)), none, none] ⟨rfl, ⟨rfl, trivial⟩⟩ ?_
      exact ih _ _ _ hL h
def w_md_split (I : pI) (R : pR) (Q : pI → pR → Prop) : Prop := (∀ I1, I1 = pw_wI I 121 2 (0 : Int32) → (∃ n3, l_md_split_7 (fun I18 R17 => (∃ n2, l_md_split_194 (fun I20 R19 => Q I20 R19) Q n2 (0 : Int32) I18 R17)) Q n3 (0 : Int32) I1 R))
set_option maxHeartbeats 4000000 in
set_option maxRecDepth 100000 in
theorem c_md_split (d : Nat) {I : pI} {R : pR} {Q : pI → pR → Prop} (hL : pw_Lay R) (h : w_md_split  I R Q) : Cm (d + 2) m_md_split [.ref 121] I R (qv Q) := by
  refine Cm.of [some (.ref 121), none, none, none, none] (by decide) rfl (Nat.le_of_ble_eq_true rfl) (by simp) (fun E B g hF => ?_)
  unfold w_md_split at h
  refine PW.aload_n g rfl rfl d_md_split_0 ?_
  refine PW.iconst g (0) (by decide) d_md_split_1 ?_
  refine PW.putI g fi_md_192 rfl rfl rfl d_md_split_2 ?_
  refine PX.gI (fun I1 eI1 => ?_)
  have h := h _ eI1
  refine PW.iconst g (0) (by decide) d_md_split_5 ?_
  refine PW.istore_n g rfl (L' := [some (.ref 121), some (.int (0 : Int32)), none, none, none]) (by decide) rfl rfl d_md_split_6 ?_
  refine PX.sub [some (.ref 121), some (.int (0 : Int32)), none, none, none] ⟨rfl, ⟨rfl, trivial⟩⟩ ?_
  obtain ⟨n3, h⟩ := h
  refine L_md_split_7 d g hF (fun I18 R17 hL h => ?_) n3 (0 : Int32) I1 R hL h
  refine PW.iconst g (0) (by decide) d_md_split_192 ?_
  refine PW.istore_n g rfl (L' := [some (.ref 121), none, some (.int (0 : Int32)), none, none]) (by decide) rfl rfl d_md_split_193 ?_
  refine PX.sub [some (.ref 121), none, some (.int (0 : Int32)), none, none] ⟨rfl, ⟨rfl, trivial⟩⟩ ?_
  obtain ⟨n2, h⟩ := h
  refine L_md_split_194 d g hF (fun I20 R19 hL h => ?_) n2 (0 : Int32) I18 R17 hL h
  exact PX.vret g hF rfl d_md_split_220 hL h
def w_md_fail (I : pI) (R : pR) (Q : Int32 → pI → pR → Prop) : Prop := (vp_in (I 121 7) 128 ∧ (∀ I1, I1 = pw_wI I 121 8 (I 125 (I 121 7).toNatClampNeg) → Q (0 : Int32) I1 R))
set_option maxHeartbeats 4000000 in
set_option maxRecDepth 100000 in
theorem c_md_fail (d : Nat) {I : pI} {R : pR} {Q : Int32 → pI → pR → Prop} (hL : pw_Lay R) (h : w_md_fail  I R Q) : Cm (d + 1) m_md_fail [.ref 121] I R (qz Q) := by
  refine Cm.of [some (.ref 121)] (by decide) rfl (Nat.le_of_ble_eq_true rfl) (by simp) (fun E B g hF => ?_)
  unfold w_md_fail at h
  refine PW.aload_n g rfl rfl d_md_fail_0 ?_
  refine PW.aload_n g rfl rfl d_md_fail_1 ?_
  refine PW.getR (q := 125) g fi_md_19 rfl (hL 121 12 5 rfl (by decide)) d_md_fail_2 ?_
  refine PW.aload_n g rfl rfl d_md_fail_5 ?_
  refine PW.getI g fi_md_207 rfl d_md_fail_6 ?_
  refine PW.iald g rfl h.1 d_md_fail_9 ?_
  have h := h.2
  refine PW.putI g fi_md_210 rfl rfl rfl d_md_fail_10 ?_
  refine PX.gI (fun I1 eI1 => ?_)
  have h := h _ eI1
  refine PW.iconst g (0) (by decide) d_md_fail_13 ?_
  exact PX.zret g hF rfl (Or.inl rfl) d_md_fail_14 hL h
def w_md_want (a1 : Int32) (I : pI) (R : pR) (Q : Int32 → pI → pR → Prop) : Prop := (vp_in (I 121 7) 128 ∧ (((I 123 (I 121 7).toNatClampNeg) = a1 → (∀ I1, I1 = pw_wI I 121 7 ((I 121 7) + (1 : Int32)) → Q (1 : Int32) I1 R)) ∧ (¬ (I 123 (I 121 7).toNatClampNeg) = a1 → (w_md_fail  I R (fun v1 I2 R1 => Q v1 I2 R1)))))
set_option maxHeartbeats 4000000 in
set_option maxRecDepth 100000 in
theorem c_md_want (d : Nat) {a1 : Int32} {I : pI} {R : pR} {Q : Int32 → pI → pR → Prop} (hL : pw_Lay R) (h : w_md_want a1 I R Q) : Cm (d + 2) m_md_want [.ref 121, .int a1] I R (qz Q) := by
  refine Cm.of [some (.ref 121), some (.int a1)] (by decide) rfl (Nat.le_of_ble_eq_true rfl) (by simp) (fun E B g hF => ?_)
  unfold w_md_want at h
  refine PW.aload_n g rfl rfl d_md_want_0 ?_
  refine PW.getR (q := 123) g fi_md_13 rfl (hL 121 12 3 rfl (by decide)) d_md_want_1 ?_
  refine PW.aload_n g rfl rfl d_md_want_4 ?_
  refine PW.getI g fi_md_207 rfl d_md_want_5 ?_
  refine PW.iald g rfl h.1 d_md_want_8 ?_
  have h := h.2
  refine PW.iload_n g rfl rfl d_md_want_9 ?_
  refine PW.icmp_eq g 18 (by decide) d_md_want_10 (fun c1 => ?_) (fun c1 => ?_)
  · have h := h.1 c1
    refine PW.aload_n g rfl rfl d_md_want_18 ?_
    refine PW.dup g rfl d_md_want_19 ?_
    refine PW.getI g fi_md_207 rfl d_md_want_20 ?_
    refine PW.iconst g (1) (by decide) d_md_want_23 ?_
    refine PW.iadd g d_md_want_24 ?_
    refine PW.putI g fi_md_207 rfl rfl rfl d_md_want_25 ?_
    refine PX.gI (fun I1 eI1 => ?_)
    have h := h _ eI1
    refine PW.iconst g (1) (by decide) d_md_want_28 ?_
    exact PX.zret g hF rfl (Or.inr rfl) d_md_want_29 hL h
  · have h := h.2 c1
    refine PW.aload_n g rfl rfl d_md_want_13 ?_
    refine PX.cVz [] [] g rfl ck_md (c_md_fail d  hL h) cl_md_213 (by omega) (by decide) rfl rfl (Nat.le_of_ble_eq_true rfl) d_md_want_14 (fun v1 I2 R1 hL hzv1 h => ?_)
    exact PX.zret g hF rfl hzv1 d_md_want_17 hL h
def w_md_emit (a1 : Int32) (a2 : Int32) (a3 : Int32) (I : pI) (R : pR) (Q : pI → pR → Prop) : Prop := (vp_in (I 121 15) 800 ∧ ∀ I1, I1 = pw_wI I 128 (I 121 15).toNatClampNeg a1 → (vp_in (I1 121 15) 800 ∧ ∀ I2, I2 = pw_wI I1 129 (I1 121 15).toNatClampNeg a2 → (vp_in (I2 121 15) 800 ∧ ∀ I3, I3 = pw_wI I2 130 (I2 121 15).toNatClampNeg a3 → (∀ I4, I4 = pw_wI I3 121 15 ((I3 121 15) + (1 : Int32)) → Q I4 R))))
set_option maxHeartbeats 4000000 in
set_option maxRecDepth 100000 in
theorem c_md_emit (d : Nat) {a1 : Int32} {a2 : Int32} {a3 : Int32} {I : pI} {R : pR} {Q : pI → pR → Prop} (hL : pw_Lay R) (h : w_md_emit a1 a2 a3 I R Q) : Cm (d + 1) m_md_emit [.ref 121, .int a1, .int a2, .int a3] I R (qv Q) := by
  refine Cm.of [some (.ref 121), some (.int a1), some (.int a2), some (.int a3)] (by decide) rfl (Nat.le_of_ble_eq_true rfl) (by simp) (fun E B g hF => ?_)
  unfold w_md_emit at h
  refine PW.aload_n g rfl rfl d_md_emit_0 ?_
  refine PW.getR (q := 128) g fi_md_28 rfl (hL 121 12 12 rfl (by decide)) d_md_emit_1 ?_
  refine PW.aload_n g rfl rfl d_md_emit_4 ?_
  refine PW.getI g fi_md_217 rfl d_md_emit_5 ?_
  refine PW.iload_n g rfl rfl d_md_emit_8 ?_
  refine PW.iast g rfl h.1 d_md_emit_9 ?_
  refine PX.gI (fun I1 eI1 => ?_)
  have h := h.2 _ eI1
  refine PW.aload_n g rfl rfl d_md_emit_10 ?_
  refine PW.getR (q := 129) g fi_md_31 rfl (hL 121 12 13 rfl (by decide)) d_md_emit_11 ?_
  refine PW.aload_n g rfl rfl d_md_emit_14 ?_
  refine PW.getI g fi_md_217 rfl d_md_emit_15 ?_
  refine PW.iload_n g rfl rfl d_md_emit_18 ?_
  refine PW.iast g rfl h.1 d_md_emit_19 ?_
  refine PX.gI (fun I2 eI2 => ?_)
  have h := h.2 _ eI2
  refine PW.aload_n g rfl rfl d_md_emit_20 ?_
  refine PW.getR (q := 130) g fi_md_34 rfl (hL 121 12 14 rfl (by decide)) d_md_emit_21 ?_
  refine PW.aload_n g rfl rfl d_md_emit_24 ?_
  refine PW.getI g fi_md_217 rfl d_md_emit_25 ?_
  refine PW.iload_n g rfl rfl d_md_emit_28 ?_
  refine PW.iast g rfl h.1 d_md_emit_29 ?_
  refine PX.gI (fun I3 eI3 => ?_)
  have h := h.2 _ eI3
  refine PW.aload_n g rfl rfl d_md_emit_30 ?_
  refine PW.dup g rfl d_md_emit_31 ?_
  refine PW.getI g fi_md_217 rfl d_md_emit_32 ?_
  refine PW.iconst g (1) (by decide) d_md_emit_35 ?_
  refine PW.iadd g d_md_emit_36 ?_
  refine PW.putI g fi_md_217 rfl rfl rfl d_md_emit_37 ?_
  refine PX.gI (fun I4 eI4 => ?_)
  have h := h _ eI4
  exact PX.vret g hF rfl d_md_emit_40 hL h
def w_md_push (a1 : Int32) (a2 : Int32) (a3 : Int32) (I : pI) (R : pR) (Q : pI → pR → Prop) : Prop := (vp_in (I 121 39) 64 ∧ ∀ I1, I1 = pw_wI I 150 (I 121 39).toNatClampNeg a1 → (vp_in (I1 121 39) 64 ∧ ∀ I2, I2 = pw_wI I1 151 (I1 121 39).toNatClampNeg a2 → (vp_in (I2 121 39) 64 ∧ ∀ I3, I3 = pw_wI I2 152 (I2 121 39).toNatClampNeg a3 → (∀ I4, I4 = pw_wI I3 121 39 ((I3 121 39) + (1 : Int32)) → Q I4 R))))
set_option maxHeartbeats 4000000 in
set_option maxRecDepth 100000 in
theorem c_md_push (d : Nat) {a1 : Int32} {a2 : Int32} {a3 : Int32} {I : pI} {R : pR} {Q : pI → pR → Prop} (hL : pw_Lay R) (h : w_md_push a1 a2 a3 I R Q) : Cm (d + 1) m_md_push [.ref 121, .int a1, .int a2, .int a3] I R (qv Q) := by
  refine Cm.of [some (.ref 121), some (.int a1), some (.int a2), some (.int a3)] (by decide) rfl (Nat.le_of_ble_eq_true rfl) (by simp) (fun E B g hF => ?_)
  unfold w_md_push at h
  refine PW.aload_n g rfl rfl d_md_push_0 ?_
  refine PW.getR (q := 150) g fi_md_94 rfl (hL 121 12 40 rfl (by decide)) d_md_push_1 ?_
  refine PW.aload_n g rfl rfl d_md_push_4 ?_
  refine PW.getI g fi_md_220 rfl d_md_push_5 ?_
  refine PW.iload_n g rfl rfl d_md_push_8 ?_
  refine PW.iast g rfl h.1 d_md_push_9 ?_
  refine PX.gI (fun I1 eI1 => ?_)
  have h := h.2 _ eI1
  refine PW.aload_n g rfl rfl d_md_push_10 ?_
  refine PW.getR (q := 151) g fi_md_97 rfl (hL 121 12 41 rfl (by decide)) d_md_push_11 ?_
  refine PW.aload_n g rfl rfl d_md_push_14 ?_
  refine PW.getI g fi_md_220 rfl d_md_push_15 ?_
  refine PW.iload_n g rfl rfl d_md_push_18 ?_
  refine PW.iast g rfl h.1 d_md_push_19 ?_
  refine PX.gI (fun I2 eI2 => ?_)
  have h := h.2 _ eI2
  refine PW.aload_n g rfl rfl d_md_push_20 ?_
  refine PW.getR (q := 152) g fi_md_100 rfl (hL 121 12 42 rfl (by decide)) d_md_push_21 ?_
  refine PW.aload_n g rfl rfl d_md_push_24 ?_
  refine PW.getI g fi_md_220 rfl d_md_push_25 ?_
  refine PW.iload_n g rfl rfl d_md_push_28 ?_
  refine PW.iast g rfl h.1 d_md_push_29 ?_
  refine PX.gI (fun I3 eI3 => ?_)
  have h := h.2 _ eI3
  refine PW.aload_n g rfl rfl d_md_push_30 ?_
  refine PW.dup g rfl d_md_push_31 ?_
  refine PW.getI g fi_md_220 rfl d_md_push_32 ?_
  refine PW.iconst g (1) (by decide) d_md_push_35 ?_
  refine PW.iadd g d_md_push_36 ?_
  refine PW.putI g fi_md_220 rfl rfl rfl d_md_push_37 ?_
  refine PX.gI (fun I4 eI4 => ?_)
  have h := h _ eI4
  exact PX.vret g hF rfl d_md_push_40 hL h
def j_md_rank_32 (Q : Int32 → pI → pR → Prop) (x0 : Int32) (I : pI) (R : pR) : Prop := ((x0 = (60 : Int32) → Q (3 : Int32) I R) ∧ (¬ x0 = (60 : Int32) → ((¬ x0 = (62 : Int32) → ((x0 = (43 : Int32) → Q (4 : Int32) I R) ∧ (¬ x0 = (43 : Int32) → ((¬ x0 = (45 : Int32) → ((x0 = (42 : Int32) → Q (5 : Int32) I R) ∧ (¬ x0 = (42 : Int32) → ((x0 = (47 : Int32) → Q (5 : Int32) I R) ∧ (¬ x0 = (47 : Int32) → ((¬ x0 = (37 : Int32) → Q (0 : Int32) I R) ∧ (x0 = (37 : Int32) → Q (5 : Int32) I R))))))) ∧ (x0 = (45 : Int32) → Q (4 : Int32) I R))))) ∧ (x0 = (62 : Int32) → Q (3 : Int32) I R))))
set_option maxHeartbeats 4000000 in
set_option maxRecDepth 100000 in
theorem J_md_rank_32 (d : Nat) {Q : Int32 → pI → pR → Prop} {x0 : Int32} {E : pE} {B : pB} (g : pw_G m_md_rank (d + 1) 0 0 E B) (hF : pX (qi Q) E B) {I : pI} {R : pR} (hL : pw_Lay R) (h : j_md_rank_32  Q x0 I R) : PX E B m_md_rank.2.2.1 32 [some (.int x0)] [] I R := by
  unfold j_md_rank_32 at h
  refine PW.iload_n g rfl rfl d_md_rank_32 ?_
  refine PW.bipush g (60) (by decide) d_md_rank_33 ?_
  refine PW.icmp_eq g 44 (by decide) d_md_rank_35 (fun c4 => ?_) (fun c4 => ?_)
  · have h := h.1 c4
    refine PW.iconst g (3) (by decide) d_md_rank_44 ?_
    exact PX.iret g hF rfl d_md_rank_45 hL h
  · have h := h.2 c4
    refine PW.iload_n g rfl rfl d_md_rank_38 ?_
    refine PW.bipush g (62) (by decide) d_md_rank_39 ?_
    refine PW.icmp_ne g 46 (by decide) d_md_rank_41 (fun c5 => ?_) (fun c5 => ?_)
    · have h := h.1 c5
      refine PW.iload_n g rfl rfl d_md_rank_46 ?_
      refine PW.bipush g (43) (by decide) d_md_rank_47 ?_
      refine PW.icmp_eq g 58 (by decide) d_md_rank_49 (fun c6 => ?_) (fun c6 => ?_)
      · have h := h.1 c6
        refine PW.iconst g (4) (by decide) d_md_rank_58 ?_
        refine PW.goto g 85 (by decide) d_md_rank_59 ?_
        exact PX.iret g hF rfl d_md_rank_85 hL h
      · have h := h.2 c6
        refine PW.iload_n g rfl rfl d_md_rank_52 ?_
        refine PW.bipush g (45) (by decide) d_md_rank_53 ?_
        refine PW.icmp_ne g 62 (by decide) d_md_rank_55 (fun c7 => ?_) (fun c7 => ?_)
        · have h := h.1 c7
          refine PW.iload_n g rfl rfl d_md_rank_62 ?_
          refine PW.bipush g (42) (by decide) d_md_rank_63 ?_
          refine PW.icmp_eq g 80 (by decide) d_md_rank_65 (fun c8 => ?_) (fun c8 => ?_)
          · have h := h.1 c8
            refine PW.iconst g (5) (by decide) d_md_rank_80 ?_
            refine PW.goto g 85 (by decide) d_md_rank_81 ?_
            exact PX.iret g hF rfl d_md_rank_85 hL h
          · have h := h.2 c8
            refine PW.iload_n g rfl rfl d_md_rank_68 ?_
            refine PW.bipush g (47) (by decide) d_md_rank_69 ?_
            refine PW.icmp_eq g 80 (by decide) d_md_rank_71 (fun c9 => ?_) (fun c9 => ?_)
            · have h := h.1 c9
              refine PW.iconst g (5) (by decide) d_md_rank_80 ?_
              refine PW.goto g 85 (by decide) d_md_rank_81 ?_
              exact PX.iret g hF rfl d_md_rank_85 hL h
            · have h := h.2 c9
              refine PW.iload_n g rfl rfl d_md_rank_74 ?_
              refine PW.bipush g (37) (by decide) d_md_rank_75 ?_
              refine PW.icmp_ne g 84 (by decide) d_md_rank_77 (fun c10 => ?_) (fun c10 => ?_)
              · have h := h.1 c10
                refine PW.iconst g (0) (by decide) d_md_rank_84 ?_
                exact PX.iret g hF rfl d_md_rank_85 hL h
              · have h := h.2 c10
                refine PW.iconst g (5) (by decide) d_md_rank_80 ?_
                refine PW.goto g 85 (by decide) d_md_rank_81 ?_
                exact PX.iret g hF rfl d_md_rank_85 hL h
        · have h := h.2 c7
          refine PW.iconst g (4) (by decide) d_md_rank_58 ?_
          refine PW.goto g 85 (by decide) d_md_rank_59 ?_
          exact PX.iret g hF rfl d_md_rank_85 hL h
    · have h := h.2 c5
      refine PW.iconst g (3) (by decide) d_md_rank_44 ?_
      exact PX.iret g hF rfl d_md_rank_45 hL h
def w_md_rank (a1 : Int32) (I : pI) (R : pR) (Q : Int32 → pI → pR → Prop) : Prop := ((¬ a1 = (133 : Int32) → ((¬ a1 = (132 : Int32) → ((a1 < (128 : Int32) → (j_md_rank_32 Q a1 I R)) ∧ (¬ a1 < (128 : Int32) → ((a1 ≤ (131 : Int32) → Q (3 : Int32) I R) ∧ (¬ a1 ≤ (131 : Int32) → (j_md_rank_32 Q a1 I R)))))) ∧ (a1 = (132 : Int32) → Q (2 : Int32) I R))) ∧ (a1 = (133 : Int32) → Q (1 : Int32) I R))
set_option maxHeartbeats 4000000 in
set_option maxRecDepth 100000 in
theorem c_md_rank (d : Nat) {a1 : Int32} {I : pI} {R : pR} {Q : Int32 → pI → pR → Prop} (hL : pw_Lay R) (h : w_md_rank a1 I R Q) : Cm (d + 1) m_md_rank [.int a1] I R (qi Q) := by
  refine Cm.of [some (.int a1)] (by decide) rfl (Nat.le_of_ble_eq_true rfl) (by simp) (fun E B g hF => ?_)
  unfold w_md_rank at h
  refine PW.iload_n g rfl rfl d_md_rank_0 ?_
  refine PW.sipush g (133) (by decide) d_md_rank_1 ?_
  refine PW.icmp_ne g 9 (by decide) d_md_rank_4 (fun c1 => ?_) (fun c1 => ?_)
  · have h := h.1 c1
    refine PW.iload_n g rfl rfl d_md_rank_9 ?_
    refine PW.sipush g (132) (by decide) d_md_rank_10 ?_
    refine PW.icmp_ne g 18 (by decide) d_md_rank_13 (fun c2 => ?_) (fun c2 => ?_)
    · have h := h.1 c2
      refine PW.iload_n g rfl rfl d_md_rank_18 ?_
      refine PW.sipush g (128) (by decide) d_md_rank_19 ?_
      refine PW.icmp_lt g 32 (by decide) d_md_rank_22 (fun c3 => ?_) (fun c3 => ?_)
      · have h := h.1 c3
        refine PX.sub [some (.int a1)] ⟨rfl, trivial⟩ ?_
        exact J_md_rank_32 d g hF hL h
      · have h := h.2 c3
        refine PW.iload_n g rfl rfl d_md_rank_25 ?_
        refine PW.sipush g (131) (by decide) d_md_rank_26 ?_
        refine PW.icmp_le g 44 (by decide) d_md_rank_29 (fun c11 => ?_) (fun c11 => ?_)
        · have h := h.1 c11
          refine PW.iconst g (3) (by decide) d_md_rank_44 ?_
          exact PX.iret g hF rfl d_md_rank_45 hL h
        · have h := h.2 c11
          refine PX.sub [some (.int a1)] ⟨rfl, trivial⟩ ?_
          exact J_md_rank_32 d g hF hL h
    · have h := h.2 c2
      refine PW.iconst g (2) (by decide) d_md_rank_16 ?_
      exact PX.iret g hF rfl d_md_rank_17 hL h
  · have h := h.2 c1
    refine PW.iconst g (1) (by decide) d_md_rank_7 ?_
    exact PX.iret g hF rfl d_md_rank_8 hL h
def j_md_reduce_69 (K0 : pI → pR → Prop) (Q : pI → pR → Prop) (f1 : Int32) (I : pI) (R : pR) : Prop := (vp_in (I 121 39) 64 ∧ (vp_in (I 121 39) 64 ∧ (w_md_emit (I 150 (I 121 39).toNatClampNeg) (0 : Int32) (I 151 (I 121 39).toNatClampNeg) I R (fun I4 R3 => K0 I4 R3))))
set_option maxHeartbeats 4000000 in
set_option maxRecDepth 100000 in
theorem J_md_reduce_69 (d : Nat) {K0 : pI → pR → Prop} {Q : pI → pR → Prop} {f1 : Int32} {E : pE} {B : pB} (g : pw_G m_md_reduce (d + 2) 0 0 E B) (hF : pX (qv Q) E B) (hK0 : ∀ (I : pI) (R : pR), pw_Lay R → K0  I R → PX E B m_md_reduce.2.2.1 0 [some (.ref 121), some (.int f1)] [] I R) {I : pI} {R : pR} (hL : pw_Lay R) (h : j_md_reduce_69  K0 Q f1 I R) : PX E B m_md_reduce.2.2.1 69 [some (.ref 121), some (.int f1)] [] I R := by
  unfold j_md_reduce_69 at h
  refine PW.aload_n g rfl rfl d_md_reduce_69 ?_
  refine PW.aload_n g rfl rfl d_md_reduce_70 ?_
  refine PW.getR (q := 150) g fi_md_94 rfl (hL 121 12 40 rfl (by decide)) d_md_reduce_71 ?_
  refine PW.aload_n g rfl rfl d_md_reduce_74 ?_
  refine PW.getI g fi_md_220 rfl d_md_reduce_75 ?_
  refine PW.iald g rfl h.1 d_md_reduce_78 ?_
  have h := h.2
  refine PW.iconst g (0) (by decide) d_md_reduce_79 ?_
  refine PW.aload_n g rfl rfl d_md_reduce_80 ?_
  refine PW.getR (q := 151) g fi_md_97 rfl (hL 121 12 41 rfl (by decide)) d_md_reduce_81 ?_
  refine PW.aload_n g rfl rfl d_md_reduce_84 ?_
  refine PW.getI g fi_md_220 rfl d_md_reduce_85 ?_
  refine PW.iald g rfl h.1 d_md_reduce_88 ?_
  have h := h.2
  refine PX.cVv [.int (I 150 (I 121 39).toNatClampNeg), .int (0 : Int32), .int (I 151 (I 121 39).toNatClampNeg)] [] g rfl ck_md (c_md_emit d  hL h) cl_md_226 (by omega) (by decide) rfl rfl (Nat.le_of_ble_eq_true rfl) d_md_reduce_89 (fun I4 R3 hL h => ?_)
  refine PW.goto g 0 (by decide) d_md_reduce_92 ?_
  refine PX.sub [some (.ref 121), some (.int f1)] ⟨rfl, ⟨rfl, trivial⟩⟩ ?_
  exact hK0 _ _ hL h
def l_md_reduce_0 (f1 : Int32) (K : pI → pR → Prop) (Q : pI → pR → Prop) : Nat → pI → pR → Prop
  | 0, _, _ => False
  | n + 1, I, R => (((I 121 39) ≤ 0 → K I R) ∧ (¬ (I 121 39) ≤ 0 → (vp_in ((I 121 39) - (1 : Int32)) 64 ∧ (w_md_rank (I 150 ((I 121 39) - (1 : Int32)).toNatClampNeg) I R (fun v1 I1 R1 => ((v1 < f1 → K I1 R1) ∧ (¬ v1 < f1 → (∀ I2, I2 = pw_wI I1 121 39 ((I1 121 39) - (1 : Int32)) → (vp_in (I2 121 39) 64 ∧ (w_md_rank (I2 150 (I2 121 39).toNatClampNeg) I2 R1 (fun v2 I3 R2 => (((3 : Int32) ≤ v2 → (j_md_reduce_69 (fun I5 R4 => l_md_reduce_0 f1 K Q n I5 R4) Q f1 I3 R2)) ∧ (¬ (3 : Int32) ≤ v2 → (vp_in (I3 121 39) 64 ∧ (vp_in (I3 152 (I3 121 39).toNatClampNeg) 800 ∧ ∀ I6, I6 = pw_wI I3 129 (I3 152 (I3 121 39).toNatClampNeg).toNatClampNeg (I3 121 15) → (j_md_reduce_69 (fun I7 R5 => l_md_reduce_0 f1 K Q n I7 R5) Q f1 I6 R2))))))))))))))))
set_option maxHeartbeats 4000000 in
set_option maxRecDepth 100000 in
theorem L_md_reduce_0 (d : Nat) {f1 : Int32} {K : pI → pR → Prop} {Q : pI → pR → Prop} {E : pE} {B : pB} (g : pw_G m_md_reduce (d + 2) 0 0 E B) (hF : pX (qv Q) E B) (hK : ∀ (I : pI) (R : pR), pw_Lay R → K  I R → PX E B m_md_reduce.2.2.1 95 [none, none] [] I R) : ∀ (n : Nat) (I : pI) (R : pR), pw_Lay R → l_md_reduce_0 f1 K Q n I R → PX E B m_md_reduce.2.2.1 0 [some (.ref 121), some (.int f1)] [] I R := by
  intro n
  induction n with
  | zero => intro I R hL h; exact False.elim h
  | succ n ih =>
    intro I R hL h
    refine PW.aload_n g rfl rfl d_md_reduce_0 ?_
    refine PW.getI g fi_md_220 rfl d_md_reduce_1 ?_
    refine PW.if_le g 95 (by decide) d_md_reduce_4 (fun c1 => ?_) (fun c1 => ?_)
    · have h := h.1 c1
      refine PX.sub [none, none] trivial ?_
      exact hK _ _ hL h
    · have h := h.2 c1
      refine PW.aload_n g rfl rfl d_md_reduce_7 ?_
      refine PW.getR (q := 150) g fi_md_94 rfl (hL 121 12 40 rfl (by decide)) d_md_reduce_8 ?_
      refine PW.aload_n g rfl rfl d_md_reduce_11 ?_
      refine PW.getI g fi_md_220 rfl d_md_reduce_12 ?_
      refine PW.iconst g (1) (by decide) d_md_reduce_15 ?_
      refine PW.isub g d_md_reduce_16 ?_
      refine PW.iald g rfl h.1 d_md_reduce_17 ?_
      have h := h.2
      refine PX.cSi [.int (I 150 ((I 121 39) - (1 : Int32)).toNatClampNeg)] [] g (c_md_rank d  hL h) cl_md_223 (by omega) (by decide) rfl rfl (Nat.le_of_ble_eq_true rfl) d_md_reduce_18 (fun v1 I1 R1 hL h => ?_)
      refine PW.iload_n g rfl rfl d_md_reduce_21 ?_
      refine PW.icmp_lt g 95 (by decide) d_md_reduce_22 (fun c2 => ?_) (fun c2 => ?_)
      · have h := h.1 c2
        refine PX.sub [none, none] trivial ?_
        exact hK _ _ hL h
      · have h := h.2 c2
        refine PW.aload_n g rfl rfl d_md_reduce_25 ?_
        refine PW.dup g rfl d_md_reduce_26 ?_
        refine PW.getI g fi_md_220 rfl d_md_reduce_27 ?_
        refine PW.iconst g (1) (by decide) d_md_reduce_30 ?_
        refine PW.isub g d_md_reduce_31 ?_
        refine PW.putI g fi_md_220 rfl rfl rfl d_md_reduce_32 ?_
        refine PX.gI (fun I2 eI2 => ?_)
        have h := h _ eI2
        refine PW.aload_n g rfl rfl d_md_reduce_35 ?_
        refine PW.getR (q := 150) g fi_md_94 rfl (hL 121 12 40 rfl (by decide)) d_md_reduce_36 ?_
        refine PW.aload_n g rfl rfl d_md_reduce_39 ?_
        refine PW.getI g fi_md_220 rfl d_md_reduce_40 ?_
        refine PW.iald g rfl h.1 d_md_reduce_43 ?_
        have h := h.2
        refine PX.cSi [.int (I2 150 (I2 121 39).toNatClampNeg)] [] g (c_md_rank d  hL h) cl_md_223 (by omega) (by decide) rfl rfl (Nat.le_of_ble_eq_true rfl) d_md_reduce_44 (fun v2 I3 R2 hL h => ?_)
        refine PW.iconst g (3) (by decide) d_md_reduce_47 ?_
        refine PW.icmp_ge g 69 (by decide) d_md_reduce_48 (fun c3 => ?_) (fun c3 => ?_)
        · have h := h.1 c3
          refine PX.sub [some (.ref 121), some (.int f1)] ⟨rfl, ⟨rfl, trivial⟩⟩ ?_
          refine J_md_reduce_69 d g hF (fun I5 R4 hL h => ?_) hL h
          refine PX.sub [some (.ref 121), some (.int f1)] ⟨rfl, ⟨rfl, trivial⟩⟩ ?_
          exact ih _ _ hL h
        · have h := h.2 c3
          refine PW.aload_n g rfl rfl d_md_reduce_51 ?_
          refine PW.getR (q := 129) g fi_md_31 rfl (hL 121 12 13 rfl (by decide)) d_md_reduce_52 ?_
          refine PW.aload_n g rfl rfl d_md_reduce_55 ?_
          refine PW.getR (q := 152) g fi_md_100 rfl (hL 121 12 42 rfl (by decide)) d_md_reduce_56 ?_
          refine PW.aload_n g rfl rfl d_md_reduce_59 ?_
          refine PW.getI g fi_md_220 rfl d_md_reduce_60 ?_
          refine PW.iald g rfl h.1 d_md_reduce_63 ?_
          have h := h.2
          refine PW.aload_n g rfl rfl d_md_reduce_64 ?_
          refine PW.getI g fi_md_217 rfl d_md_reduce_65 ?_
          refine PW.iast g rfl h.1 d_md_reduce_68 ?_
          refine PX.gI (fun I6 eI6 => ?_)
          have h := h.2 _ eI6
          refine PX.sub [some (.ref 121), some (.int f1)] ⟨rfl, ⟨rfl, trivial⟩⟩ ?_
          refine J_md_reduce_69 d g hF (fun I7 R5 hL h => ?_) hL h
          refine PX.sub [some (.ref 121), some (.int f1)] ⟨rfl, ⟨rfl, trivial⟩⟩ ?_
          exact ih _ _ hL h
def w_md_reduce (a1 : Int32) (I : pI) (R : pR) (Q : pI → pR → Prop) : Prop := (∃ n1, l_md_reduce_0 a1 (fun I8 R6 => Q I8 R6) Q n1 I R)
set_option maxHeartbeats 4000000 in
set_option maxRecDepth 100000 in
theorem c_md_reduce (d : Nat) {a1 : Int32} {I : pI} {R : pR} {Q : pI → pR → Prop} (hL : pw_Lay R) (h : w_md_reduce a1 I R Q) : Cm (d + 2) m_md_reduce [.ref 121, .int a1] I R (qv Q) := by
  refine Cm.of [some (.ref 121), some (.int a1)] (by decide) rfl (Nat.le_of_ble_eq_true rfl) (by simp) (fun E B g hF => ?_)
  unfold w_md_reduce at h
  refine PX.sub [some (.ref 121), some (.int a1)] ⟨rfl, ⟨rfl, trivial⟩⟩ ?_
  obtain ⟨n1, h⟩ := h
  refine L_md_reduce_0 d g hF (fun I8 R6 hL h => ?_) n1 I R hL h
  exact PX.vret g hF rfl d_md_reduce_95 hL h
def w_md_deeper (I : pI) (R : pR) (Q : Int32 → pI → pR → Prop) : Prop := ((¬ (I 121 43) = (4 : Int32) → (∀ I1, I1 = pw_wI I 121 43 ((I 121 43) + (1 : Int32)) → Q (1 : Int32) I1 R)) ∧ ((I 121 43) = (4 : Int32) → (w_md_fail  I R (fun v1 I2 R1 => Q v1 I2 R1))))
set_option maxHeartbeats 4000000 in
set_option maxRecDepth 100000 in
theorem c_md_deeper (d : Nat) {I : pI} {R : pR} {Q : Int32 → pI → pR → Prop} (hL : pw_Lay R) (h : w_md_deeper  I R Q) : Cm (d + 2) m_md_deeper [.ref 121] I R (qz Q) := by
  refine Cm.of [some (.ref 121)] (by decide) rfl (Nat.le_of_ble_eq_true rfl) (by simp) (fun E B g hF => ?_)
  unfold w_md_deeper at h
  refine PW.aload_n g rfl rfl d_md_deeper_0 ?_
  refine PW.getI g fi_md_230 rfl d_md_deeper_1 ?_
  refine PW.iconst g (4) (by decide) d_md_deeper_4 ?_
  refine PW.icmp_ne g 13 (by decide) d_md_deeper_5 (fun c1 => ?_) (fun c1 => ?_)
  · have h := h.1 c1
    refine PW.aload_n g rfl rfl d_md_deeper_13 ?_
    refine PW.dup g rfl d_md_deeper_14 ?_
    refine PW.getI g fi_md_230 rfl d_md_deeper_15 ?_
    refine PW.iconst g (1) (by decide) d_md_deeper_18 ?_
    refine PW.iadd g d_md_deeper_19 ?_
    refine PW.putI g fi_md_230 rfl rfl rfl d_md_deeper_20 ?_
    refine PX.gI (fun I1 eI1 => ?_)
    have h := h _ eI1
    refine PW.iconst g (1) (by decide) d_md_deeper_23 ?_
    exact PX.zret g hF rfl (Or.inr rfl) d_md_deeper_24 hL h
  · have h := h.2 c1
    refine PW.aload_n g rfl rfl d_md_deeper_8 ?_
    refine PX.cVz [] [] g rfl ck_md (c_md_fail d  hL h) cl_md_213 (by omega) (by decide) rfl rfl (Nat.le_of_ble_eq_true rfl) d_md_deeper_9 (fun v1 I2 R1 hL hzv1 h => ?_)
    exact PX.zret g hF rfl hzv1 d_md_deeper_12 hL h
def w_md_note (a1 : Int32) (a2 : Int32) (a3 : Int32) (a4 : Int32) (I : pI) (R : pR) (Q : pI → pR → Prop) : Prop := (vp_in (I 121 47) 170 ∧ ∀ I1, I1 = pw_wI I 153 (I 121 47).toNatClampNeg a1 → (vp_in (I1 121 47) 170 ∧ ∀ I2, I2 = pw_wI I1 154 (I1 121 47).toNatClampNeg a2 → (vp_in (I2 121 47) 170 ∧ ∀ I3, I3 = pw_wI I2 155 (I2 121 47).toNatClampNeg a3 → (vp_in (I3 121 47) 170 ∧ ∀ I4, I4 = pw_wI I3 156 (I3 121 47).toNatClampNeg a4 → (∀ I5, I5 = pw_wI I4 121 47 ((I4 121 47) + (1 : Int32)) → Q I5 R)))))
set_option maxHeartbeats 4000000 in
set_option maxRecDepth 100000 in
theorem c_md_note (d : Nat) {a1 : Int32} {a2 : Int32} {a3 : Int32} {a4 : Int32} {I : pI} {R : pR} {Q : pI → pR → Prop} (hL : pw_Lay R) (h : w_md_note a1 a2 a3 a4 I R Q) : Cm (d + 1) m_md_note [.ref 121, .int a1, .int a2, .int a3, .int a4] I R (qv Q) := by
  refine Cm.of [some (.ref 121), some (.int a1), some (.int a2), some (.int a3), some (.int a4)] (by decide) rfl (Nat.le_of_ble_eq_true rfl) (by simp) (fun E B g hF => ?_)
  unfold w_md_note at h
  refine PW.aload_n g rfl rfl d_md_note_0 ?_
  refine PW.getR (q := 153) g fi_md_103 rfl (hL 121 12 48 rfl (by decide)) d_md_note_1 ?_
  refine PW.aload_n g rfl rfl d_md_note_4 ?_
  refine PW.getI g fi_md_269 rfl d_md_note_5 ?_
  refine PW.iload_n g rfl rfl d_md_note_8 ?_
  refine PW.iast g rfl h.1 d_md_note_9 ?_
  refine PX.gI (fun I1 eI1 => ?_)
  have h := h.2 _ eI1
  refine PW.aload_n g rfl rfl d_md_note_10 ?_
  refine PW.getR (q := 154) g fi_md_106 rfl (hL 121 12 49 rfl (by decide)) d_md_note_11 ?_
  refine PW.aload_n g rfl rfl d_md_note_14 ?_
  refine PW.getI g fi_md_269 rfl d_md_note_15 ?_
  refine PW.iload_n g rfl rfl d_md_note_18 ?_
  refine PW.iast g rfl h.1 d_md_note_19 ?_
  refine PX.gI (fun I2 eI2 => ?_)
  have h := h.2 _ eI2
  refine PW.aload_n g rfl rfl d_md_note_20 ?_
  refine PW.getR (q := 155) g fi_md_109 rfl (hL 121 12 50 rfl (by decide)) d_md_note_21 ?_
  refine PW.aload_n g rfl rfl d_md_note_24 ?_
  refine PW.getI g fi_md_269 rfl d_md_note_25 ?_
  refine PW.iload_n g rfl rfl d_md_note_28 ?_
  refine PW.iast g rfl h.1 d_md_note_29 ?_
  refine PX.gI (fun I3 eI3 => ?_)
  have h := h.2 _ eI3
  refine PW.aload_n g rfl rfl d_md_note_30 ?_
  refine PW.getR (q := 156) g fi_md_112 rfl (hL 121 12 51 rfl (by decide)) d_md_note_31 ?_
  refine PW.aload_n g rfl rfl d_md_note_34 ?_
  refine PW.getI g fi_md_269 rfl d_md_note_35 ?_
  refine PW.iload g rfl d_md_note_38 ?_
  refine PW.iast g rfl h.1 d_md_note_40 ?_
  refine PX.gI (fun I4 eI4 => ?_)
  have h := h.2 _ eI4
  refine PW.aload_n g rfl rfl d_md_note_41 ?_
  refine PW.dup g rfl d_md_note_42 ?_
  refine PW.getI g fi_md_269 rfl d_md_note_43 ?_
  refine PW.iconst g (1) (by decide) d_md_note_46 ?_
  refine PW.iadd g d_md_note_47 ?_
  refine PW.putI g fi_md_269 rfl rfl rfl d_md_note_48 ?_
  refine PX.gI (fun I5 eI5 => ?_)
  have h := h _ eI5
  exact PX.vret g hF rfl d_md_note_51 hL h
def j_md_signs_46 (K5 : pI → pR → Prop) (Q : pI → pR → Prop) (I : pI) (R : pR) : Prop := (∀ I2, I2 = pw_wI I 121 39 ((I 121 39) - (1 : Int32)) → (∀ I3, I3 = pw_wI I2 121 43 ((I2 121 43) - (1 : Int32)) → (vp_in (I3 121 39) 64 ∧ (vp_in (I3 121 39) 64 ∧ (w_md_emit (I3 150 (I3 121 39).toNatClampNeg) (0 : Int32) (I3 151 (I3 121 39).toNatClampNeg) I3 R (fun I4 R1 => K5 I4 R1))))))
set_option maxHeartbeats 4000000 in
set_option maxRecDepth 100000 in
theorem J_md_signs_46 (d : Nat) {K5 : pI → pR → Prop} {Q : pI → pR → Prop} {E : pE} {B : pB} (g : pw_G m_md_signs (d + 2) 0 0 E B) (hF : pX (qv Q) E B) (hK5 : ∀ (I : pI) (R : pR), pw_Lay R → K5  I R → PX E B m_md_signs.2.2.1 5 [some (.ref 121)] [] I R) {I : pI} {R : pR} (hL : pw_Lay R) (h : j_md_signs_46  K5 Q  I R) : PX E B m_md_signs.2.2.1 46 [some (.ref 121)] [] I R := by
  unfold j_md_signs_46 at h
  refine PW.aload_n g rfl rfl d_md_signs_46 ?_
  refine PW.dup g rfl d_md_signs_47 ?_
  refine PW.getI g fi_md_220 rfl d_md_signs_48 ?_
  refine PW.iconst g (1) (by decide) d_md_signs_51 ?_
  refine PW.isub g d_md_signs_52 ?_
  refine PW.putI g fi_md_220 rfl rfl rfl d_md_signs_53 ?_
  refine PX.gI (fun I2 eI2 => ?_)
  have h := h _ eI2
  refine PW.aload_n g rfl rfl d_md_signs_56 ?_
  refine PW.dup g rfl d_md_signs_57 ?_
  refine PW.getI g fi_md_230 rfl d_md_signs_58 ?_
  refine PW.iconst g (1) (by decide) d_md_signs_61 ?_
  refine PW.isub g d_md_signs_62 ?_
  refine PW.putI g fi_md_230 rfl rfl rfl d_md_signs_63 ?_
  refine PX.gI (fun I3 eI3 => ?_)
  have h := h _ eI3
  refine PW.aload_n g rfl rfl d_md_signs_66 ?_
  refine PW.aload_n g rfl rfl d_md_signs_67 ?_
  refine PW.getR (q := 150) g fi_md_94 rfl (hL 121 12 40 rfl (by decide)) d_md_signs_68 ?_
  refine PW.aload_n g rfl rfl d_md_signs_71 ?_
  refine PW.getI g fi_md_220 rfl d_md_signs_72 ?_
  refine PW.iald g rfl h.1 d_md_signs_75 ?_
  have h := h.2
  refine PW.iconst g (0) (by decide) d_md_signs_76 ?_
  refine PW.aload_n g rfl rfl d_md_signs_77 ?_
  refine PW.getR (q := 151) g fi_md_97 rfl (hL 121 12 41 rfl (by decide)) d_md_signs_78 ?_
  refine PW.aload_n g rfl rfl d_md_signs_81 ?_
  refine PW.getI g fi_md_220 rfl d_md_signs_82 ?_
  refine PW.iald g rfl h.1 d_md_signs_85 ?_
  have h := h.2
  refine PX.cVv [.int (I3 150 (I3 121 39).toNatClampNeg), .int (0 : Int32), .int (I3 151 (I3 121 39).toNatClampNeg)] [] g rfl ck_md (c_md_emit d  hL h) cl_md_226 (by omega) (by decide) rfl rfl (Nat.le_of_ble_eq_true rfl) d_md_signs_86 (fun I4 R1 hL h => ?_)
  refine PW.goto g 5 (by decide) d_md_signs_89 ?_
  refine PX.sub [some (.ref 121)] ⟨rfl, trivial⟩ ?_
  exact hK5 _ _ hL h
def l_md_signs_5 (K : pI → pR → Prop) (Q : pI → pR → Prop) : Nat → pI → pR → Prop
  | 0, _, _ => False
  | n + 1, I, R => (((I 121 39) ≤ 0 → K I R) ∧ (¬ (I 121 39) ≤ 0 → (vp_in ((I 121 39) - (1 : Int32)) 64 ∧ (((I 150 ((I 121 39) - (1 : Int32)).toNatClampNeg) = (203 : Int32) → (j_md_signs_46 (fun I5 R2 => l_md_signs_5 K Q n I5 R2) Q I R)) ∧ (¬ (I 150 ((I 121 39) - (1 : Int32)).toNatClampNeg) = (203 : Int32) → (vp_in ((I 121 39) - (1 : Int32)) 64 ∧ ((¬ (I 150 ((I 121 39) - (1 : Int32)).toNatClampNeg) = (204 : Int32) → K I R) ∧ ((I 150 ((I 121 39) - (1 : Int32)).toNatClampNeg) = (204 : Int32) → (j_md_signs_46 (fun I6 R3 => l_md_signs_5 K Q n I6 R3) Q I R)))))))))
set_option maxHeartbeats 4000000 in
set_option maxRecDepth 100000 in
theorem L_md_signs_5 (d : Nat) {K : pI → pR → Prop} {Q : pI → pR → Prop} {E : pE} {B : pB} (g : pw_G m_md_signs (d + 2) 0 0 E B) (hF : pX (qv Q) E B) (hK : ∀ (I : pI) (R : pR), pw_Lay R → K  I R → PX E B m_md_signs.2.2.1 92 [none] [] I R) : ∀ (n : Nat) (I : pI) (R : pR), pw_Lay R → l_md_signs_5  K Q n I R → PX E B m_md_signs.2.2.1 5 [some (.ref 121)] [] I R := by
  intro n
  induction n with
  | zero => intro I R hL h; exact False.elim h
  | succ n ih =>
    intro I R hL h
    refine PW.aload_n g rfl rfl d_md_signs_5 ?_
    refine PW.getI g fi_md_220 rfl d_md_signs_6 ?_
    refine PW.if_le g 92 (by decide) d_md_signs_9 (fun c1 => ?_) (fun c1 => ?_)
    · have h := h.1 c1
      refine PX.sub [none] trivial ?_
      exact hK _ _ hL h
    · have h := h.2 c1
      refine PW.aload_n g rfl rfl d_md_signs_12 ?_
      refine PW.getR (q := 150) g fi_md_94 rfl (hL 121 12 40 rfl (by decide)) d_md_signs_13 ?_
      refine PW.aload_n g rfl rfl d_md_signs_16 ?_
      refine PW.getI g fi_md_220 rfl d_md_signs_17 ?_
      refine PW.iconst g (1) (by decide) d_md_signs_20 ?_
      refine PW.isub g d_md_signs_21 ?_
      refine PW.iald g rfl h.1 d_md_signs_22 ?_
      have h := h.2
      refine PW.sipush g (203) (by decide) d_md_signs_23 ?_
      refine PW.icmp_eq g 46 (by decide) d_md_signs_26 (fun c2 => ?_) (fun c2 => ?_)
      · have h := h.1 c2
        refine PX.sub [some (.ref 121)] ⟨rfl, trivial⟩ ?_
        refine J_md_signs_46 d g hF (fun I5 R2 hL h => ?_) hL h
        refine PX.sub [some (.ref 121)] ⟨rfl, trivial⟩ ?_
        exact ih _ _ hL h
      · have h := h.2 c2
        refine PW.aload_n g rfl rfl d_md_signs_29 ?_
        refine PW.getR (q := 150) g fi_md_94 rfl (hL 121 12 40 rfl (by decide)) d_md_signs_30 ?_
        refine PW.aload_n g rfl rfl d_md_signs_33 ?_
        refine PW.getI g fi_md_220 rfl d_md_signs_34 ?_
        refine PW.iconst g (1) (by decide) d_md_signs_37 ?_
        refine PW.isub g d_md_signs_38 ?_
        refine PW.iald g rfl h.1 d_md_signs_39 ?_
        have h := h.2
        refine PW.sipush g (204) (by decide) d_md_signs_40 ?_
        refine PW.icmp_ne g 92 (by decide) d_md_signs_43 (fun c3 => ?_) (fun c3 => ?_)
        · have h := h.1 c3
          refine PX.sub [none] trivial ?_
          exact hK _ _ hL h
        · have h := h.2 c3
          refine PX.sub [some (.ref 121)] ⟨rfl, trivial⟩ ?_
          refine J_md_signs_46 d g hF (fun I6 R3 hL h => ?_) hL h
          refine PX.sub [some (.ref 121)] ⟨rfl, trivial⟩ ?_
          exact ih _ _ hL h
def w_md_signs (I : pI) (R : pR) (Q : pI → pR → Prop) : Prop := (∀ I1, I1 = pw_wI I 121 46 (0 : Int32) → (∃ n1, l_md_signs_5 (fun I7 R4 => Q I7 R4) Q n1 I1 R))
set_option maxHeartbeats 4000000 in
set_option maxRecDepth 100000 in
theorem c_md_signs (d : Nat) {I : pI} {R : pR} {Q : pI → pR → Prop} (hL : pw_Lay R) (h : w_md_signs  I R Q) : Cm (d + 2) m_md_signs [.ref 121] I R (qv Q) := by
  refine Cm.of [some (.ref 121)] (by decide) rfl (Nat.le_of_ble_eq_true rfl) (by simp) (fun E B g hF => ?_)
  unfold w_md_signs at h
  refine PW.aload_n g rfl rfl d_md_signs_0 ?_
  refine PW.iconst g (0) (by decide) d_md_signs_1 ?_
  refine PW.putI g fi_md_254 rfl (pw_nb (Or.inl rfl)) (pw_fb (Or.inl rfl)) d_md_signs_2 ?_
  refine PX.gI (fun I1 eI1 => ?_)
  have h := h _ eI1
  refine PX.sub [some (.ref 121)] ⟨rfl, trivial⟩ ?_
  obtain ⟨n1, h⟩ := h
  refine L_md_signs_5 d g hF (fun I7 R4 hL h => ?_) n1 I1 R hL h
  exact PX.vret g hF rfl d_md_signs_92 hL h
def j_md_operand_65 (Q : Int32 → pI → pR → Prop) (x2 : Int32) (x3 : Int32) (I : pI) (R : pR) : Prop := (vp_in (I 121 7) 128 ∧ (w_md_emit x2 (I 124 (I 121 7).toNatClampNeg) x3 I R (fun I1 R1 => (∀ I2, I2 = pw_wI I1 121 7 ((I1 121 7) + (1 : Int32)) → (w_md_signs  I2 R1 (fun I3 R2 => Q (1 : Int32) I3 R2))))))
set_option maxHeartbeats 4000000 in
set_option maxRecDepth 100000 in
theorem J_md_operand_65 (d : Nat) {Q : Int32 → pI → pR → Prop} {x2 : Int32} {x3 : Int32} {E : pE} {B : pB} (g : pw_G m_md_operand (d + 3) 0 0 E B) (hF : pX (qz Q) E B) {I : pI} {R : pR} (hL : pw_Lay R) (h : j_md_operand_65  Q x2 x3 I R) : PX E B m_md_operand.2.2.1 65 [some (.ref 121), none, some (.int x2), some (.int x3), none] [] I R := by
  unfold j_md_operand_65 at h
  refine PW.aload_n g rfl rfl d_md_operand_65 ?_
  refine PW.iload_n g rfl rfl d_md_operand_66 ?_
  refine PW.aload_n g rfl rfl d_md_operand_67 ?_
  refine PW.getR (q := 124) g fi_md_16 rfl (hL 121 12 4 rfl (by decide)) d_md_operand_68 ?_
  refine PW.aload_n g rfl rfl d_md_operand_71 ?_
  refine PW.getI g fi_md_207 rfl d_md_operand_72 ?_
  refine PW.iald g rfl h.1 d_md_operand_75 ?_
  have h := h.2
  refine PW.iload_n g rfl rfl d_md_operand_76 ?_
  refine PX.cVv [.int x2, .int (I 124 (I 121 7).toNatClampNeg), .int x3] [] g rfl ck_md (c_md_emit d  hL h) cl_md_226 (by omega) (by decide) rfl rfl (Nat.le_of_ble_eq_true rfl) d_md_operand_77 (fun I1 R1 hL h => ?_)
  refine PW.aload_n g rfl rfl d_md_operand_80 ?_
  refine PW.dup g rfl d_md_operand_81 ?_
  refine PW.getI g fi_md_207 rfl d_md_operand_82 ?_
  refine PW.iconst g (1) (by decide) d_md_operand_85 ?_
  refine PW.iadd g d_md_operand_86 ?_
  refine PW.putI g fi_md_207 rfl rfl rfl d_md_operand_87 ?_
  refine PX.gI (fun I2 eI2 => ?_)
  have h := h _ eI2
  refine PW.aload_n g rfl rfl d_md_operand_90 ?_
  refine PX.cVv [] [] g rfl ck_md (c_md_signs d  hL h) cl_md_239 (by omega) (by decide) rfl rfl (Nat.le_of_ble_eq_true rfl) d_md_operand_91 (fun I3 R2 hL h => ?_)
  refine PW.iconst g (1) (by decide) d_md_operand_94 ?_
  exact PX.zret g hF rfl (Or.inr rfl) d_md_operand_95 hL h
def j_md_operand_48 (Q : Int32 → pI → pR → Prop) (x2 : Int32) (x3 : Int32) (s1 : Int32) (I : pI) (R : pR) : Prop := (vp_in (I 121 7) 128 ∧ (w_md_note s1 x3 (I 124 (I 121 7).toNatClampNeg) (I 121 52) I R (fun I4 R3 => (j_md_operand_65 Q x2 x3 I4 R3))))
set_option maxHeartbeats 4000000 in
set_option maxRecDepth 100000 in
theorem J_md_operand_48 (d : Nat) {Q : Int32 → pI → pR → Prop} {x2 : Int32} {x3 : Int32} {s1 : Int32} {E : pE} {B : pB} (g : pw_G m_md_operand (d + 3) 0 0 E B) (hF : pX (qz Q) E B) {I : pI} {R : pR} (hL : pw_Lay R) (h : j_md_operand_48  Q x2 x3 s1 I R) : PX E B m_md_operand.2.2.1 48 [some (.ref 121), none, some (.int x2), some (.int x3), none] [.int s1, .ref 121] I R := by
  unfold j_md_operand_48 at h
  refine PW.iload_n g rfl rfl d_md_operand_48 ?_
  refine PW.aload_n g rfl rfl d_md_operand_49 ?_
  refine PW.getR (q := 124) g fi_md_16 rfl (hL 121 12 4 rfl (by decide)) d_md_operand_50 ?_
  refine PW.aload_n g rfl rfl d_md_operand_53 ?_
  refine PW.getI g fi_md_207 rfl d_md_operand_54 ?_
  refine PW.iald g rfl h.1 d_md_operand_57 ?_
  have h := h.2
  refine PW.aload_n g rfl rfl d_md_operand_58 ?_
  refine PW.getI g fi_md_233 rfl d_md_operand_59 ?_
  refine PX.cVv [.int s1, .int x3, .int (I 124 (I 121 7).toNatClampNeg), .int (I 121 52)] [] g rfl ck_md (c_md_note d  hL h) cl_md_236 (by omega) (by decide) rfl rfl (Nat.le_of_ble_eq_true rfl) d_md_operand_62 (fun I4 R3 hL h => ?_)
  refine PX.sub [some (.ref 121), none, some (.int x2), some (.int x3), none] ⟨rfl, ⟨rfl, ⟨rfl, trivial⟩⟩⟩ ?_
  exact J_md_operand_65 d g hF hL h
def j_md_operand_30 (Q : Int32 → pI → pR → Prop) (x2 : Int32) (x3 : Int32) (I : pI) (R : pR) : Prop := ((¬ x2 = (2 : Int32) → (j_md_operand_65 Q x2 x3 I R)) ∧ (x2 = (2 : Int32) → (((I 121 52) < 0 → (j_md_operand_48 Q x2 x3 (0 : Int32) I R)) ∧ (¬ (I 121 52) < 0 → (j_md_operand_48 Q x2 x3 (1 : Int32) I R)))))
set_option maxHeartbeats 4000000 in
set_option maxRecDepth 100000 in
theorem J_md_operand_30 (d : Nat) {Q : Int32 → pI → pR → Prop} {x2 : Int32} {x3 : Int32} {E : pE} {B : pB} (g : pw_G m_md_operand (d + 3) 0 0 E B) (hF : pX (qz Q) E B) {I : pI} {R : pR} (hL : pw_Lay R) (h : j_md_operand_30  Q x2 x3 I R) : PX E B m_md_operand.2.2.1 30 [some (.ref 121), none, some (.int x2), some (.int x3), none] [] I R := by
  unfold j_md_operand_30 at h
  refine PW.iload_n g rfl rfl d_md_operand_30 ?_
  refine PW.iconst g (2) (by decide) d_md_operand_31 ?_
  refine PW.icmp_ne g 65 (by decide) d_md_operand_32 (fun c2 => ?_) (fun c2 => ?_)
  · have h := h.1 c2
    refine PX.sub [some (.ref 121), none, some (.int x2), some (.int x3), none] ⟨rfl, ⟨rfl, ⟨rfl, trivial⟩⟩⟩ ?_
    exact J_md_operand_65 d g hF hL h
  · have h := h.2 c2
    refine PW.aload_n g rfl rfl d_md_operand_35 ?_
    refine PW.aload_n g rfl rfl d_md_operand_36 ?_
    refine PW.getI g fi_md_233 rfl d_md_operand_37 ?_
    refine PW.if_lt g 47 (by decide) d_md_operand_40 (fun c3 => ?_) (fun c3 => ?_)
    · have h := h.1 c3
      refine PW.iconst g (0) (by decide) d_md_operand_47 ?_
      refine PX.sub [some (.ref 121), none, some (.int x2), some (.int x3), none] ⟨rfl, ⟨rfl, ⟨rfl, trivial⟩⟩⟩ ?_
      exact J_md_operand_48 d g hF hL h
    · have h := h.2 c3
      refine PW.iconst g (1) (by decide) d_md_operand_43 ?_
      refine PW.goto g 48 (by decide) d_md_operand_44 ?_
      refine PX.sub [some (.ref 121), none, some (.int x2), some (.int x3), none] ⟨rfl, ⟨rfl, ⟨rfl, trivial⟩⟩⟩ ?_
      exact J_md_operand_48 d g hF hL h
def j_md_operand_108 (Q : Int32 → pI → pR → Prop) (x2 : Int32) (x3 : Int32) (I : pI) (R : pR) : Prop := (w_md_deeper  I R (fun v4 I5 R4 => ((¬ v4 = 0 → ((¬ x2 = (45 : Int32) → (w_md_push (204 : Int32) x3 (0 : Int32) I5 R4 (fun I6 R5 => (∀ I7, I7 = pw_wI I6 121 7 ((I6 121 7) + (1 : Int32)) → Q (1 : Int32) I7 R5)))) ∧ (x2 = (45 : Int32) → (w_md_push (203 : Int32) x3 (0 : Int32) I5 R4 (fun I8 R6 => (∀ I9, I9 = pw_wI I8 121 7 ((I8 121 7) + (1 : Int32)) → Q (1 : Int32) I9 R6)))))) ∧ (v4 = 0 → Q (0 : Int32) I5 R4))))
set_option maxHeartbeats 4000000 in
set_option maxRecDepth 100000 in
theorem J_md_operand_108 (d : Nat) {Q : Int32 → pI → pR → Prop} {x2 : Int32} {x3 : Int32} {E : pE} {B : pB} (g : pw_G m_md_operand (d + 3) 0 0 E B) (hF : pX (qz Q) E B) {I : pI} {R : pR} (hL : pw_Lay R) (h : j_md_operand_108  Q x2 x3 I R) : PX E B m_md_operand.2.2.1 108 [some (.ref 121), none, some (.int x2), some (.int x3), none] [] I R := by
  unfold j_md_operand_108 at h
  refine PW.aload_n g rfl rfl d_md_operand_108 ?_
  refine PX.cVz [] [] g rfl ck_md (c_md_deeper d  hL h) cl_md_242 (by omega) (by decide) rfl rfl (Nat.le_of_ble_eq_true rfl) d_md_operand_109 (fun v4 I5 R4 hL hzv4 h => ?_)
  refine PW.if_ne g 117 (by decide) d_md_operand_112 (fun c6 => ?_) (fun c6 => ?_)
  · have h := h.1 c6
    refine PW.aload_n g rfl rfl d_md_operand_117 ?_
    refine PW.iload_n g rfl rfl d_md_operand_118 ?_
    refine PW.bipush g (45) (by decide) d_md_operand_119 ?_
    refine PW.icmp_ne g 130 (by decide) d_md_operand_121 (fun c7 => ?_) (fun c7 => ?_)
    · have h := h.1 c7
      refine PW.sipush g (204) (by decide) d_md_operand_130 ?_
      refine PW.iload_n g rfl rfl d_md_operand_133 ?_
      refine PW.iconst g (0) (by decide) d_md_operand_134 ?_
      refine PX.cVv [.int (204 : Int32), .int x3, .int (0 : Int32)] [] g rfl ck_md (c_md_push d  hL h) cl_md_245 (by omega) (by decide) rfl rfl (Nat.le_of_ble_eq_true rfl) d_md_operand_135 (fun I6 R5 hL h => ?_)
      refine PW.aload_n g rfl rfl d_md_operand_138 ?_
      refine PW.dup g rfl d_md_operand_139 ?_
      refine PW.getI g fi_md_207 rfl d_md_operand_140 ?_
      refine PW.iconst g (1) (by decide) d_md_operand_143 ?_
      refine PW.iadd g d_md_operand_144 ?_
      refine PW.putI g fi_md_207 rfl rfl rfl d_md_operand_145 ?_
      refine PX.gI (fun I7 eI7 => ?_)
      have h := h _ eI7
      refine PW.iconst g (1) (by decide) d_md_operand_148 ?_
      exact PX.zret g hF rfl (Or.inr rfl) d_md_operand_149 hL h
    · have h := h.2 c7
      refine PW.sipush g (203) (by decide) d_md_operand_124 ?_
      refine PW.goto g 133 (by decide) d_md_operand_127 ?_
      refine PW.iload_n g rfl rfl d_md_operand_133 ?_
      refine PW.iconst g (0) (by decide) d_md_operand_134 ?_
      refine PX.cVv [.int (203 : Int32), .int x3, .int (0 : Int32)] [] g rfl ck_md (c_md_push d  hL h) cl_md_245 (by omega) (by decide) rfl rfl (Nat.le_of_ble_eq_true rfl) d_md_operand_135 (fun I8 R6 hL h => ?_)
      refine PW.aload_n g rfl rfl d_md_operand_138 ?_
      refine PW.dup g rfl d_md_operand_139 ?_
      refine PW.getI g fi_md_207 rfl d_md_operand_140 ?_
      refine PW.iconst g (1) (by decide) d_md_operand_143 ?_
      refine PW.iadd g d_md_operand_144 ?_
      refine PW.putI g fi_md_207 rfl rfl rfl d_md_operand_145 ?_
      refine PX.gI (fun I9 eI9 => ?_)
      have h := h _ eI9
      refine PW.iconst g (1) (by decide) d_md_operand_148 ?_
      exact PX.zret g hF rfl (Or.inr rfl) d_md_operand_149 hL h
  · have h := h.2 c6
    refine PW.iconst g (0) (by decide) d_md_operand_115 ?_
    exact PX.zret g hF rfl (Or.inl rfl) d_md_operand_116 hL h
def j_md_operand_309 (Q : Int32 → pI → pR → Prop) (x2 : Int32) (x3 : Int32) (x4 : Int32) (s1 : Int32) (I : pI) (R : pR) : Prop := ((x4 = 0 → ((¬ x2 = (78 : Int32) → (w_md_push s1 x3 (0 : Int32) I R (fun I14 R8 => Q (1 : Int32) I14 R8))) ∧ (x2 = (78 : Int32) → (w_md_push s1 x3 (1 : Int32) I R (fun I15 R9 => Q (1 : Int32) I15 R9))))) ∧ (¬ x4 = 0 → (w_md_push s1 x3 ((I 121 15) - (1 : Int32)) I R (fun I16 R10 => Q (1 : Int32) I16 R10))))
set_option maxHeartbeats 4000000 in
set_option maxRecDepth 100000 in
theorem J_md_operand_309 (d : Nat) {Q : Int32 → pI → pR → Prop} {x2 : Int32} {x3 : Int32} {x4 : Int32} {s1 : Int32} {E : pE} {B : pB} (g : pw_G m_md_operand (d + 3) 0 0 E B) (hF : pX (qz Q) E B) {I : pI} {R : pR} (hL : pw_Lay R) (h : j_md_operand_309  Q x2 x3 x4 s1 I R) : PX E B m_md_operand.2.2.1 309 [some (.ref 121), none, some (.int x2), some (.int x3), some (.int x4)] [.int s1, .ref 121] I R := by
  unfold j_md_operand_309 at h
  refine PW.iload_n g rfl rfl d_md_operand_309 ?_
  refine PW.iload g rfl d_md_operand_310 ?_
  refine PW.if_eq g 324 (by decide) d_md_operand_312 (fun c16 => ?_) (fun c16 => ?_)
  · have h := h.1 c16
    refine PW.iload_n g rfl rfl d_md_operand_324 ?_
    refine PW.bipush g (78) (by decide) d_md_operand_325 ?_
    refine PW.icmp_ne g 334 (by decide) d_md_operand_327 (fun c17 => ?_) (fun c17 => ?_)
    · have h := h.1 c17
      refine PW.iconst g (0) (by decide) d_md_operand_334 ?_
      refine PX.cVv [.int s1, .int x3, .int (0 : Int32)] [] g rfl ck_md (c_md_push d  hL h) cl_md_245 (by omega) (by decide) rfl rfl (Nat.le_of_ble_eq_true rfl) d_md_operand_335 (fun I14 R8 hL h => ?_)
      refine PW.iconst g (1) (by decide) d_md_operand_338 ?_
      exact PX.zret g hF rfl (Or.inr rfl) d_md_operand_339 hL h
    · have h := h.2 c17
      refine PW.iconst g (1) (by decide) d_md_operand_330 ?_
      refine PW.goto g 335 (by decide) d_md_operand_331 ?_
      refine PX.cVv [.int s1, .int x3, .int (1 : Int32)] [] g rfl ck_md (c_md_push d  hL h) cl_md_245 (by omega) (by decide) rfl rfl (Nat.le_of_ble_eq_true rfl) d_md_operand_335 (fun I15 R9 hL h => ?_)
      refine PW.iconst g (1) (by decide) d_md_operand_338 ?_
      exact PX.zret g hF rfl (Or.inr rfl) d_md_operand_339 hL h
  · have h := h.2 c16
    refine PW.aload_n g rfl rfl d_md_operand_315 ?_
    refine PW.getI g fi_md_217 rfl d_md_operand_316 ?_
    refine PW.iconst g (1) (by decide) d_md_operand_319 ?_
    refine PW.isub g d_md_operand_320 ?_
    refine PW.goto g 335 (by decide) d_md_operand_321 ?_
    refine PX.cVv [.int s1, .int x3, .int ((I 121 15) - (1 : Int32))] [] g rfl ck_md (c_md_push d  hL h) cl_md_245 (by omega) (by decide) rfl rfl (Nat.le_of_ble_eq_true rfl) d_md_operand_335 (fun I16 R10 hL h => ?_)
    refine PW.iconst g (1) (by decide) d_md_operand_338 ?_
    exact PX.zret g hF rfl (Or.inr rfl) d_md_operand_339 hL h
def j_md_operand_282 (Q : Int32 → pI → pR → Prop) (x2 : Int32) (x3 : Int32) (x4 : Int32) (I : pI) (R : pR) : Prop := ((x4 = 0 → ((¬ x2 = (40 : Int32) → (j_md_operand_309 Q x2 x3 x4 (201 : Int32) I R)) ∧ (x2 = (40 : Int32) → (j_md_operand_309 Q x2 x3 x4 (200 : Int32) I R)))) ∧ (¬ x4 = 0 → (j_md_operand_309 Q x2 x3 x4 (202 : Int32) I R)))
set_option maxHeartbeats 4000000 in
set_option maxRecDepth 100000 in
theorem J_md_operand_282 (d : Nat) {Q : Int32 → pI → pR → Prop} {x2 : Int32} {x3 : Int32} {x4 : Int32} {E : pE} {B : pB} (g : pw_G m_md_operand (d + 3) 0 0 E B) (hF : pX (qz Q) E B) {I : pI} {R : pR} (hL : pw_Lay R) (h : j_md_operand_282  Q x2 x3 x4 I R) : PX E B m_md_operand.2.2.1 282 [some (.ref 121), none, some (.int x2), some (.int x3), some (.int x4)] [] I R := by
  unfold j_md_operand_282 at h
  refine PW.aload_n g rfl rfl d_md_operand_282 ?_
  refine PW.iload g rfl d_md_operand_283 ?_
  refine PW.if_eq g 294 (by decide) d_md_operand_285 (fun c14 => ?_) (fun c14 => ?_)
  · have h := h.1 c14
    refine PW.iload_n g rfl rfl d_md_operand_294 ?_
    refine PW.bipush g (40) (by decide) d_md_operand_295 ?_
    refine PW.icmp_ne g 306 (by decide) d_md_operand_297 (fun c15 => ?_) (fun c15 => ?_)
    · have h := h.1 c15
      refine PW.sipush g (201) (by decide) d_md_operand_306 ?_
      refine PX.sub [some (.ref 121), none, some (.int x2), some (.int x3), some (.int x4)] ⟨rfl, ⟨rfl, ⟨rfl, ⟨rfl, trivial⟩⟩⟩⟩ ?_
      exact J_md_operand_309 d g hF hL h
    · have h := h.2 c15
      refine PW.sipush g (200) (by decide) d_md_operand_300 ?_
      refine PW.goto g 309 (by decide) d_md_operand_303 ?_
      refine PX.sub [some (.ref 121), none, some (.int x2), some (.int x3), some (.int x4)] ⟨rfl, ⟨rfl, ⟨rfl, ⟨rfl, trivial⟩⟩⟩⟩ ?_
      exact J_md_operand_309 d g hF hL h
  · have h := h.2 c14
    refine PW.sipush g (202) (by decide) d_md_operand_288 ?_
    refine PW.goto g 309 (by decide) d_md_operand_291 ?_
    refine PX.sub [some (.ref 121), none, some (.int x2), some (.int x3), some (.int x4)] ⟨rfl, ⟨rfl, ⟨rfl, ⟨rfl, trivial⟩⟩⟩⟩ ?_
    exact J_md_operand_309 d g hF hL h
def j_md_operand_231 (Q : Int32 → pI → pR → Prop) (x2 : Int32) (x3 : Int32) (x4 : Int32) (I : pI) (R : pR) : Prop := (w_md_deeper  I R (fun v7 I11 R7 => ((¬ v7 = 0 → (∀ I12, I12 = pw_wI I11 121 7 ((I11 121 7) + (1 : Int32)) → (∀ I13, I13 = pw_wI I12 121 44 ((I12 121 44) + (1 : Int32)) → ((x4 = 0 → (j_md_operand_282 Q x2 x3 x4 I13 R7)) ∧ (¬ x4 = 0 → (∀ I17, I17 = pw_wI I13 121 45 (I13 121 44) → (w_md_emit (202 : Int32) (0 : Int32) x3 I17 R7 (fun I18 R11 => (j_md_operand_282 Q x2 x3 x4 I18 R11))))))))) ∧ (v7 = 0 → Q (0 : Int32) I11 R7))))
set_option maxHeartbeats 4000000 in
set_option maxRecDepth 100000 in
theorem J_md_operand_231 (d : Nat) {Q : Int32 → pI → pR → Prop} {x2 : Int32} {x3 : Int32} {x4 : Int32} {E : pE} {B : pB} (g : pw_G m_md_operand (d + 3) 0 0 E B) (hF : pX (qz Q) E B) {I : pI} {R : pR} (hL : pw_Lay R) (h : j_md_operand_231  Q x2 x3 x4 I R) : PX E B m_md_operand.2.2.1 231 [some (.ref 121), none, some (.int x2), some (.int x3), some (.int x4)] [] I R := by
  unfold j_md_operand_231 at h
  refine PW.aload_n g rfl rfl d_md_operand_231 ?_
  refine PX.cVz [] [] g rfl ck_md (c_md_deeper d  hL h) cl_md_242 (by omega) (by decide) rfl rfl (Nat.le_of_ble_eq_true rfl) d_md_operand_232 (fun v7 I11 R7 hL hzv7 h => ?_)
  refine PW.if_ne g 240 (by decide) d_md_operand_235 (fun c12 => ?_) (fun c12 => ?_)
  · have h := h.1 c12
    refine PW.aload_n g rfl rfl d_md_operand_240 ?_
    refine PW.dup g rfl d_md_operand_241 ?_
    refine PW.getI g fi_md_207 rfl d_md_operand_242 ?_
    refine PW.iconst g (1) (by decide) d_md_operand_245 ?_
    refine PW.iadd g d_md_operand_246 ?_
    refine PW.putI g fi_md_207 rfl rfl rfl d_md_operand_247 ?_
    refine PX.gI (fun I12 eI12 => ?_)
    have h := h _ eI12
    refine PW.aload_n g rfl rfl d_md_operand_250 ?_
    refine PW.dup g rfl d_md_operand_251 ?_
    refine PW.getI g fi_md_251 rfl d_md_operand_252 ?_
    refine PW.iconst g (1) (by decide) d_md_operand_255 ?_
    refine PW.iadd g d_md_operand_256 ?_
    refine PW.putI g fi_md_251 rfl rfl rfl d_md_operand_257 ?_
    refine PX.gI (fun I13 eI13 => ?_)
    have h := h _ eI13
    refine PW.iload g rfl d_md_operand_260 ?_
    refine PW.if_eq g 282 (by decide) d_md_operand_262 (fun c13 => ?_) (fun c13 => ?_)
    · have h := h.1 c13
      refine PX.sub [some (.ref 121), none, some (.int x2), some (.int x3), some (.int x4)] ⟨rfl, ⟨rfl, ⟨rfl, ⟨rfl, trivial⟩⟩⟩⟩ ?_
      exact J_md_operand_282 d g hF hL h
    · have h := h.2 c13
      refine PW.aload_n g rfl rfl d_md_operand_265 ?_
      refine PW.aload_n g rfl rfl d_md_operand_266 ?_
      refine PW.getI g fi_md_251 rfl d_md_operand_267 ?_
      refine PW.putI g fi_md_248 rfl rfl rfl d_md_operand_270 ?_
      refine PX.gI (fun I17 eI17 => ?_)
      have h := h _ eI17
      refine PW.aload_n g rfl rfl d_md_operand_273 ?_
      refine PW.sipush g (202) (by decide) d_md_operand_274 ?_
      refine PW.iconst g (0) (by decide) d_md_operand_277 ?_
      refine PW.iload_n g rfl rfl d_md_operand_278 ?_
      refine PX.cVv [.int (202 : Int32), .int (0 : Int32), .int x3] [] g rfl ck_md (c_md_emit d  hL h) cl_md_226 (by omega) (by decide) rfl rfl (Nat.le_of_ble_eq_true rfl) d_md_operand_279 (fun I18 R11 hL h => ?_)
      refine PX.sub [some (.ref 121), none, some (.int x2), some (.int x3), some (.int x4)] ⟨rfl, ⟨rfl, ⟨rfl, ⟨rfl, trivial⟩⟩⟩⟩ ?_
      exact J_md_operand_282 d g hF hL h
  · have h := h.2 c12
    refine PW.iconst g (0) (by decide) d_md_operand_238 ?_
    exact PX.zret g hF rfl (Or.inl rfl) d_md_operand_239 hL h
def j_md_operand_191 (Q : Int32 → pI → pR → Prop) (x2 : Int32) (x3 : Int32) (x4 : Int32) (I : pI) (R : pR) : Prop := (∀ I10, I10 = pw_wI I 121 7 ((I 121 7) + (1 : Int32)) → (vp_in (I10 121 7) 128 ∧ (((I10 123 (I10 121 7).toNatClampNeg) = (40 : Int32) → (j_md_operand_231 Q x2 x3 x4 I10 R)) ∧ (¬ (I10 123 (I10 121 7).toNatClampNeg) = (40 : Int32) → (w_md_fail  I10 R (fun v12 I19 R12 => Q v12 I19 R12))))))
set_option maxHeartbeats 4000000 in
set_option maxRecDepth 100000 in
theorem J_md_operand_191 (d : Nat) {Q : Int32 → pI → pR → Prop} {x2 : Int32} {x3 : Int32} {x4 : Int32} {E : pE} {B : pB} (g : pw_G m_md_operand (d + 3) 0 0 E B) (hF : pX (qz Q) E B) {I : pI} {R : pR} (hL : pw_Lay R) (h : j_md_operand_191  Q x2 x3 x4 I R) : PX E B m_md_operand.2.2.1 191 [some (.ref 121), none, some (.int x2), some (.int x3), some (.int x4)] [] I R := by
  unfold j_md_operand_191 at h
  refine PW.aload_n g rfl rfl d_md_operand_191 ?_
  refine PW.dup g rfl d_md_operand_192 ?_
  refine PW.getI g fi_md_207 rfl d_md_operand_193 ?_
  refine PW.iconst g (1) (by decide) d_md_operand_196 ?_
  refine PW.iadd g d_md_operand_197 ?_
  refine PW.putI g fi_md_207 rfl rfl rfl d_md_operand_198 ?_
  refine PX.gI (fun I10 eI10 => ?_)
  have h := h _ eI10
  refine PW.aload_n g rfl rfl d_md_operand_201 ?_
  refine PW.getR (q := 123) g fi_md_13 rfl (hL 121 12 3 rfl (by decide)) d_md_operand_202 ?_
  refine PW.aload_n g rfl rfl d_md_operand_205 ?_
  refine PW.getI g fi_md_207 rfl d_md_operand_206 ?_
  refine PW.iald g rfl h.1 d_md_operand_209 ?_
  have h := h.2
  refine PW.bipush g (40) (by decide) d_md_operand_210 ?_
  refine PW.icmp_eq g 231 (by decide) d_md_operand_212 (fun c11 => ?_) (fun c11 => ?_)
  · have h := h.1 c11
    refine PX.sub [some (.ref 121), none, some (.int x2), some (.int x3), some (.int x4)] ⟨rfl, ⟨rfl, ⟨rfl, ⟨rfl, trivial⟩⟩⟩⟩ ?_
    exact J_md_operand_231 d g hF hL h
  · have h := h.2 c11
    refine PW.aload_n g rfl rfl d_md_operand_215 ?_
    refine PX.cVz [] [] g rfl ck_md (c_md_fail d  hL h) cl_md_213 (by omega) (by decide) rfl rfl (Nat.le_of_ble_eq_true rfl) d_md_operand_216 (fun v12 I19 R12 hL hzv12 h => ?_)
    exact PX.zret g hF rfl hzv12 d_md_operand_219 hL h
def j_md_operand_172 (Q : Int32 → pI → pR → Prop) (x2 : Int32) (x3 : Int32) (s0 : Int32) (I : pI) (R : pR) : Prop := ((x2 = (77 : Int32) → (j_md_operand_191 Q x2 x3 s0 I R)) ∧ (¬ x2 = (77 : Int32) → ((x2 = (78 : Int32) → (j_md_operand_191 Q x2 x3 s0 I R)) ∧ (¬ x2 = (78 : Int32) → ((s0 = 0 → ((x2 = (40 : Int32) → (j_md_operand_231 Q x2 x3 s0 I R)) ∧ (¬ x2 = (40 : Int32) → (w_md_fail  I R (fun v13 I20 R13 => Q v13 I20 R13))))) ∧ (¬ s0 = 0 → (j_md_operand_191 Q x2 x3 s0 I R)))))))
set_option maxHeartbeats 4000000 in
set_option maxRecDepth 100000 in
theorem J_md_operand_172 (d : Nat) {Q : Int32 → pI → pR → Prop} {x2 : Int32} {x3 : Int32} {s0 : Int32} {E : pE} {B : pB} (g : pw_G m_md_operand (d + 3) 0 0 E B) (hF : pX (qz Q) E B) {I : pI} {R : pR} (hL : pw_Lay R) (h : j_md_operand_172  Q x2 x3 s0 I R) : PX E B m_md_operand.2.2.1 172 [some (.ref 121), none, some (.int x2), some (.int x3), none] [.int s0] I R := by
  unfold j_md_operand_172 at h
  refine PW.istore g (L' := [some (.ref 121), none, some (.int x2), some (.int x3), some (.int s0)]) (by decide) rfl rfl d_md_operand_172 ?_
  refine PW.iload_n g rfl rfl d_md_operand_174 ?_
  refine PW.bipush g (77) (by decide) d_md_operand_175 ?_
  refine PW.icmp_eq g 191 (by decide) d_md_operand_177 (fun c10 => ?_) (fun c10 => ?_)
  · have h := h.1 c10
    refine PX.sub [some (.ref 121), none, some (.int x2), some (.int x3), some (.int s0)] ⟨rfl, ⟨rfl, ⟨rfl, ⟨rfl, trivial⟩⟩⟩⟩ ?_
    exact J_md_operand_191 d g hF hL h
  · have h := h.2 c10
    refine PW.iload_n g rfl rfl d_md_operand_180 ?_
    refine PW.bipush g (78) (by decide) d_md_operand_181 ?_
    refine PW.icmp_eq g 191 (by decide) d_md_operand_183 (fun c18 => ?_) (fun c18 => ?_)
    · have h := h.1 c18
      refine PX.sub [some (.ref 121), none, some (.int x2), some (.int x3), some (.int s0)] ⟨rfl, ⟨rfl, ⟨rfl, ⟨rfl, trivial⟩⟩⟩⟩ ?_
      exact J_md_operand_191 d g hF hL h
    · have h := h.2 c18
      refine PW.iload g rfl d_md_operand_186 ?_
      refine PW.if_eq g 220 (by decide) d_md_operand_188 (fun c19 => ?_) (fun c19 => ?_)
      · have h := h.1 c19
        refine PW.iload_n g rfl rfl d_md_operand_220 ?_
        refine PW.bipush g (40) (by decide) d_md_operand_221 ?_
        refine PW.icmp_eq g 231 (by decide) d_md_operand_223 (fun c20 => ?_) (fun c20 => ?_)
        · have h := h.1 c20
          refine PX.sub [some (.ref 121), none, some (.int x2), some (.int x3), some (.int s0)] ⟨rfl, ⟨rfl, ⟨rfl, ⟨rfl, trivial⟩⟩⟩⟩ ?_
          exact J_md_operand_231 d g hF hL h
        · have h := h.2 c20
          refine PW.aload_n g rfl rfl d_md_operand_226 ?_
          refine PX.cVz [] [] g rfl ck_md (c_md_fail d  hL h) cl_md_213 (by omega) (by decide) rfl rfl (Nat.le_of_ble_eq_true rfl) d_md_operand_227 (fun v13 I20 R13 hL hzv13 h => ?_)
          exact PX.zret g hF rfl hzv13 d_md_operand_230 hL h
      · have h := h.2 c19
        refine PX.sub [some (.ref 121), none, some (.int x2), some (.int x3), some (.int s0)] ⟨rfl, ⟨rfl, ⟨rfl, ⟨rfl, trivial⟩⟩⟩⟩ ?_
        exact J_md_operand_191 d g hF hL h
def j_md_operand_171 (Q : Int32 → pI → pR → Prop) (x2 : Int32) (x3 : Int32) (I : pI) (R : pR) : Prop := (j_md_operand_172 Q x2 x3 (0 : Int32) I R)
set_option maxHeartbeats 4000000 in
set_option maxRecDepth 100000 in
theorem J_md_operand_171 (d : Nat) {Q : Int32 → pI → pR → Prop} {x2 : Int32} {x3 : Int32} {E : pE} {B : pB} (g : pw_G m_md_operand (d + 3) 0 0 E B) (hF : pX (qz Q) E B) {I : pI} {R : pR} (hL : pw_Lay R) (h : j_md_operand_171  Q x2 x3 I R) : PX E B m_md_operand.2.2.1 171 [some (.ref 121), none, some (.int x2), some (.int x3), none] [] I R := by
  unfold j_md_operand_171 at h
  refine PW.iconst g (0) (by decide) d_md_operand_171 ?_
  refine PX.sub [some (.ref 121), none, some (.int x2), some (.int x3), none] ⟨rfl, ⟨rfl, ⟨rfl, trivial⟩⟩⟩ ?_
  exact J_md_operand_172 d g hF hL h
def w_md_operand (a1 : Int32) (I : pI) (R : pR) (Q : Int32 → pI → pR → Prop) : Prop := (vp_in (I 121 7) 128 ∧ (vp_in (I 121 7) 128 ∧ (((I 123 (I 121 7).toNatClampNeg) = (1 : Int32) → (j_md_operand_30 Q (I 123 (I 121 7).toNatClampNeg) (I 125 (I 121 7).toNatClampNeg) I R)) ∧ (¬ (I 123 (I 121 7).toNatClampNeg) = (1 : Int32) → ((¬ (I 123 (I 121 7).toNatClampNeg) = (2 : Int32) → (((I 123 (I 121 7).toNatClampNeg) = (45 : Int32) → (j_md_operand_108 Q (I 123 (I 121 7).toNatClampNeg) (I 125 (I 121 7).toNatClampNeg) I R)) ∧ (¬ (I 123 (I 121 7).toNatClampNeg) = (45 : Int32) → ((¬ (I 123 (I 121 7).toNatClampNeg) = (33 : Int32) → ((¬ (I 123 (I 121 7).toNatClampNeg) = (79 : Int32) → (j_md_operand_171 Q (I 123 (I 121 7).toNatClampNeg) (I 125 (I 121 7).toNatClampNeg) I R)) ∧ ((I 123 (I 121 7).toNatClampNeg) = (79 : Int32) → ((a1 = 0 → (j_md_operand_171 Q (I 123 (I 121 7).toNatClampNeg) (I 125 (I 121 7).toNatClampNeg) I R)) ∧ (¬ a1 = 0 → ((¬ (I 121 45) = 0 → (j_md_operand_171 Q (I 123 (I 121 7).toNatClampNeg) (I 125 (I 121 7).toNatClampNeg) I R)) ∧ ((I 121 45) = 0 → (j_md_operand_172 Q (I 123 (I 121 7).toNatClampNeg) (I 125 (I 121 7).toNatClampNeg) (1 : Int32) I R)))))))) ∧ ((I 123 (I 121 7).toNatClampNeg) = (33 : Int32) → (j_md_operand_108 Q (I 123 (I 121 7).toNatClampNeg) (I 125 (I 121 7).toNatClampNeg) I R)))))) ∧ ((I 123 (I 121 7).toNatClampNeg) = (2 : Int32) → (j_md_operand_30 Q (I 123 (I 121 7).toNatClampNeg) (I 125 (I 121 7).toNatClampNeg) I R)))))))
set_option maxHeartbeats 4000000 in
set_option maxRecDepth 100000 in
theorem c_md_operand (d : Nat) {a1 : Int32} {I : pI} {R : pR} {Q : Int32 → pI → pR → Prop} (hL : pw_Lay R) (h : w_md_operand a1 I R Q) : Cm (d + 3) m_md_operand [.ref 121, .int a1] I R (qz Q) := by
  refine Cm.of [some (.ref 121), some (.int a1), none, none, none] (by decide) rfl (Nat.le_of_ble_eq_true rfl) (by simp) (fun E B g hF => ?_)
  unfold w_md_operand at h
  refine PW.aload_n g rfl rfl d_md_operand_0 ?_
  refine PW.getR (q := 123) g fi_md_13 rfl (hL 121 12 3 rfl (by decide)) d_md_operand_1 ?_
  refine PW.aload_n g rfl rfl d_md_operand_4 ?_
  refine PW.getI g fi_md_207 rfl d_md_operand_5 ?_
  refine PW.iald g rfl h.1 d_md_operand_8 ?_
  have h := h.2
  refine PW.istore_n g rfl (L' := [some (.ref 121), some (.int a1), some (.int (I 123 (I 121 7).toNatClampNeg)), none, none]) (by decide) rfl rfl d_md_operand_9 ?_
  refine PW.aload_n g rfl rfl d_md_operand_10 ?_
  refine PW.getR (q := 125) g fi_md_19 rfl (hL 121 12 5 rfl (by decide)) d_md_operand_11 ?_
  refine PW.aload_n g rfl rfl d_md_operand_14 ?_
  refine PW.getI g fi_md_207 rfl d_md_operand_15 ?_
  refine PW.iald g rfl h.1 d_md_operand_18 ?_
  have h := h.2
  refine PW.istore_n g rfl (L' := [some (.ref 121), some (.int a1), some (.int (I 123 (I 121 7).toNatClampNeg)), some (.int (I 125 (I 121 7).toNatClampNeg)), none]) (by decide) rfl rfl d_md_operand_19 ?_
  refine PW.iload_n g rfl rfl d_md_operand_20 ?_
  refine PW.iconst g (1) (by decide) d_md_operand_21 ?_
  refine PW.icmp_eq g 30 (by decide) d_md_operand_22 (fun c1 => ?_) (fun c1 => ?_)
  · have h := h.1 c1
    refine PX.sub [some (.ref 121), none, some (.int (I 123 (I 121 7).toNatClampNeg)), some (.int (I 125 (I 121 7).toNatClampNeg)), none] ⟨rfl, ⟨rfl, ⟨rfl, trivial⟩⟩⟩ ?_
    exact J_md_operand_30 d g hF hL h
  · have h := h.2 c1
    refine PW.iload_n g rfl rfl d_md_operand_25 ?_
    refine PW.iconst g (2) (by decide) d_md_operand_26 ?_
    refine PW.icmp_ne g 96 (by decide) d_md_operand_27 (fun c4 => ?_) (fun c4 => ?_)
    · have h := h.1 c4
      refine PW.iload_n g rfl rfl d_md_operand_96 ?_
      refine PW.bipush g (45) (by decide) d_md_operand_97 ?_
      refine PW.icmp_eq g 108 (by decide) d_md_operand_99 (fun c5 => ?_) (fun c5 => ?_)
      · have h := h.1 c5
        refine PX.sub [some (.ref 121), none, some (.int (I 123 (I 121 7).toNatClampNeg)), some (.int (I 125 (I 121 7).toNatClampNeg)), none] ⟨rfl, ⟨rfl, ⟨rfl, trivial⟩⟩⟩ ?_
        exact J_md_operand_108 d g hF hL h
      · have h := h.2 c5
        refine PW.iload_n g rfl rfl d_md_operand_102 ?_
        refine PW.bipush g (33) (by decide) d_md_operand_103 ?_
        refine PW.icmp_ne g 150 (by decide) d_md_operand_105 (fun c8 => ?_) (fun c8 => ?_)
        · have h := h.1 c8
          refine PW.iload_n g rfl rfl d_md_operand_150 ?_
          refine PW.bipush g (79) (by decide) d_md_operand_151 ?_
          refine PW.icmp_ne g 171 (by decide) d_md_operand_153 (fun c9 => ?_) (fun c9 => ?_)
          · have h := h.1 c9
            refine PX.sub [some (.ref 121), none, some (.int (I 123 (I 121 7).toNatClampNeg)), some (.int (I 125 (I 121 7).toNatClampNeg)), none] ⟨rfl, ⟨rfl, ⟨rfl, trivial⟩⟩⟩ ?_
            exact J_md_operand_171 d g hF hL h
          · have h := h.2 c9
            refine PW.iload_n g rfl rfl d_md_operand_156 ?_
            refine PW.if_eq g 171 (by decide) d_md_operand_157 (fun c21 => ?_) (fun c21 => ?_)
            · have h := h.1 c21
              refine PX.sub [some (.ref 121), none, some (.int (I 123 (I 121 7).toNatClampNeg)), some (.int (I 125 (I 121 7).toNatClampNeg)), none] ⟨rfl, ⟨rfl, ⟨rfl, trivial⟩⟩⟩ ?_
              exact J_md_operand_171 d g hF hL h
            · have h := h.2 c21
              refine PW.aload_n g rfl rfl d_md_operand_160 ?_
              refine PW.getI g fi_md_248 rfl d_md_operand_161 ?_
              refine PW.if_ne g 171 (by decide) d_md_operand_164 (fun c22 => ?_) (fun c22 => ?_)
              · have h := h.1 c22
                refine PX.sub [some (.ref 121), none, some (.int (I 123 (I 121 7).toNatClampNeg)), some (.int (I 125 (I 121 7).toNatClampNeg)), none] ⟨rfl, ⟨rfl, ⟨rfl, trivial⟩⟩⟩ ?_
                exact J_md_operand_171 d g hF hL h
              · have h := h.2 c22
                refine PW.iconst g (1) (by decide) d_md_operand_167 ?_
                refine PW.goto g 172 (by decide) d_md_operand_168 ?_
                refine PX.sub [some (.ref 121), none, some (.int (I 123 (I 121 7).toNatClampNeg)), some (.int (I 125 (I 121 7).toNatClampNeg)), none] ⟨rfl, ⟨rfl, ⟨rfl, trivial⟩⟩⟩ ?_
                exact J_md_operand_172 d g hF hL h
        · have h := h.2 c8
          refine PX.sub [some (.ref 121), none, some (.int (I 123 (I 121 7).toNatClampNeg)), some (.int (I 125 (I 121 7).toNatClampNeg)), none] ⟨rfl, ⟨rfl, ⟨rfl, trivial⟩⟩⟩ ?_
          exact J_md_operand_108 d g hF hL h
    · have h := h.2 c4
      refine PX.sub [some (.ref 121), none, some (.int (I 123 (I 121 7).toNatClampNeg)), some (.int (I 125 (I 121 7).toNatClampNeg)), none] ⟨rfl, ⟨rfl, ⟨rfl, trivial⟩⟩⟩ ?_
      exact J_md_operand_30 d g hF hL h
