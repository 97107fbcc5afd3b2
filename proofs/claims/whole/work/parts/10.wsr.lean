def w_sr_characterOf (a1 : Int64) (a2 : Int32) (I : pI) (R : pR) (Q : Int32 → pI → pR → Prop) : Prop := (narrow .char (.int (((((((a1).toUInt64 >>> ((((8 : Int32) * a2)).toInt64.toUInt64 &&& Int64.toUInt64 63)).toInt64 &&& (255 : Int64))).toInt32).toUInt32 % 65536).toInt32)) = .int (((((((a1).toUInt64 >>> ((((8 : Int32) * a2)).toInt64.toUInt64 &&& Int64.toUInt64 63)).toInt64 &&& (255 : Int64))).toInt32).toUInt32 % 65536).toInt32) ∧ Q (((((((a1).toUInt64 >>> ((((8 : Int32) * a2)).toInt64.toUInt64 &&& Int64.toUInt64 63)).toInt64 &&& (255 : Int64))).toInt32).toUInt32 % 65536).toInt32) I R)
set_option maxHeartbeats 4000000 in
set_option maxRecDepth 100000 in
theorem c_sr_characterOf (d : Nat) {a1 : Int64} {a2 : Int32} {I : pI} {R : pR} {Q : Int32 → pI → pR → Prop} (hL : pw_Lay R) (h : w_sr_characterOf a1 a2 I R Q) : Cm (d + 1) m_sr_characterOf [.long a1, .int a2] I R (qi Q) := by
  refine Cm.of [some (.long a1), none, some (.int a2)] (by decide) rfl (Nat.le_of_ble_eq_true rfl) (by simp) (fun E B g hF => ?_)
  unfold w_sr_characterOf at h
  refine PW.lload_n g rfl rfl d_sr_characterOf_0 ?_
  refine PW.bipush g (8) (by decide) d_sr_characterOf_1 ?_
  refine PW.iload_n g rfl rfl d_sr_characterOf_3 ?_
  refine PW.imul g d_sr_characterOf_4 ?_
  refine PW.lushr g rfl d_sr_characterOf_5 ?_
  refine PW.ldc2 g (255) (pw_gw 559 (by decide +kernel) (by decide +kernel)) d_sr_characterOf_6 ?_
  refine PW.land g d_sr_characterOf_9 ?_
  refine PW.l2i g rfl d_sr_characterOf_10 ?_
  refine PW.i2c g rfl d_sr_characterOf_11 ?_
  exact PX.cret g hF rfl h.1 d_sr_characterOf_12 hL h.2
def w_sr_isSmallLetter (a1 : Int32) (I : pI) (R : pR) (Q : Int32 → pI → pR → Prop) : Prop := ((a1 < (97 : Int32) → Q (0 : Int32) I R) ∧ (¬ a1 < (97 : Int32) → (((122 : Int32) < a1 → Q (0 : Int32) I R) ∧ (¬ (122 : Int32) < a1 → Q (1 : Int32) I R))))
set_option maxHeartbeats 4000000 in
set_option maxRecDepth 100000 in
theorem c_sr_isSmallLetter (d : Nat) {a1 : Int32} {I : pI} {R : pR} {Q : Int32 → pI → pR → Prop} (hL : pw_Lay R) (h : w_sr_isSmallLetter a1 I R Q) : Cm (d + 1) m_sr_isSmallLetter [.int a1] I R (qz Q) := by
  refine Cm.of [some (.int a1)] (by decide) rfl (Nat.le_of_ble_eq_true rfl) (by simp) (fun E B g hF => ?_)
  unfold w_sr_isSmallLetter at h
  refine PW.iload_n g rfl rfl d_sr_isSmallLetter_0 ?_
  refine PW.bipush g (97) (by decide) d_sr_isSmallLetter_1 ?_
  refine PW.icmp_lt g 16 (by decide) d_sr_isSmallLetter_3 (fun c1 => ?_) (fun c1 => ?_)
  · have h := h.1 c1
    refine PW.iconst g (0) (by decide) d_sr_isSmallLetter_16 ?_
    exact PX.zret g hF rfl (Or.inl rfl) d_sr_isSmallLetter_17 hL h
  · have h := h.2 c1
    refine PW.iload_n g rfl rfl d_sr_isSmallLetter_6 ?_
    refine PW.bipush g (122) (by decide) d_sr_isSmallLetter_7 ?_
    refine PW.icmp_gt g 16 (by decide) d_sr_isSmallLetter_9 (fun c2 => ?_) (fun c2 => ?_)
    · have h := h.1 c2
      refine PW.iconst g (0) (by decide) d_sr_isSmallLetter_16 ?_
      exact PX.zret g hF rfl (Or.inl rfl) d_sr_isSmallLetter_17 hL h
    · have h := h.2 c2
      refine PW.iconst g (1) (by decide) d_sr_isSmallLetter_12 ?_
      refine PW.goto g 17 (by decide) d_sr_isSmallLetter_13 ?_
      exact PX.zret g hF rfl (Or.inr rfl) d_sr_isSmallLetter_17 hL h
def w_sr_isDigit (a1 : Int32) (I : pI) (R : pR) (Q : Int32 → pI → pR → Prop) : Prop := ((a1 < (48 : Int32) → Q (0 : Int32) I R) ∧ (¬ a1 < (48 : Int32) → (((57 : Int32) < a1 → Q (0 : Int32) I R) ∧ (¬ (57 : Int32) < a1 → Q (1 : Int32) I R))))
set_option maxHeartbeats 4000000 in
set_option maxRecDepth 100000 in
theorem c_sr_isDigit (d : Nat) {a1 : Int32} {I : pI} {R : pR} {Q : Int32 → pI → pR → Prop} (hL : pw_Lay R) (h : w_sr_isDigit a1 I R Q) : Cm (d + 1) m_sr_isDigit [.int a1] I R (qz Q) := by
  refine Cm.of [some (.int a1)] (by decide) rfl (Nat.le_of_ble_eq_true rfl) (by simp) (fun E B g hF => ?_)
  unfold w_sr_isDigit at h
  refine PW.iload_n g rfl rfl d_sr_isDigit_0 ?_
  refine PW.bipush g (48) (by decide) d_sr_isDigit_1 ?_
  refine PW.icmp_lt g 16 (by decide) d_sr_isDigit_3 (fun c1 => ?_) (fun c1 => ?_)
  · have h := h.1 c1
    refine PW.iconst g (0) (by decide) d_sr_isDigit_16 ?_
    exact PX.zret g hF rfl (Or.inl rfl) d_sr_isDigit_17 hL h
  · have h := h.2 c1
    refine PW.iload_n g rfl rfl d_sr_isDigit_6 ?_
    refine PW.bipush g (57) (by decide) d_sr_isDigit_7 ?_
    refine PW.icmp_gt g 16 (by decide) d_sr_isDigit_9 (fun c2 => ?_) (fun c2 => ?_)
    · have h := h.1 c2
      refine PW.iconst g (0) (by decide) d_sr_isDigit_16 ?_
      exact PX.zret g hF rfl (Or.inl rfl) d_sr_isDigit_17 hL h
    · have h := h.2 c2
      refine PW.iconst g (1) (by decide) d_sr_isDigit_12 ?_
      refine PW.goto g 17 (by decide) d_sr_isDigit_13 ?_
      exact PX.zret g hF rfl (Or.inr rfl) d_sr_isDigit_17 hL h
def w_sr_put (a1 : Nat) (z1 : Nat) (a2 : Int32) (a3 : Int32) (I : pI) (R : pR) (Q : pI → pR → Prop) : Prop := ((a2 < 0 → Q I R) ∧ (¬ a2 < 0 → (((Int32.ofNat z1) ≤ a2 → Q I R) ∧ (¬ (Int32.ofNat z1) ≤ a2 → (vp_in a2 z1 ∧ ∀ I1, I1 = pw_wI I a1 a2.toNatClampNeg a3 → Q I1 R)))))
set_option maxHeartbeats 4000000 in
set_option maxRecDepth 100000 in
theorem c_sr_put (d : Nat) {a1 : Nat} {z1 : Nat} (ha1 : pSH[a1]? = some (1, z1)) {a2 : Int32} {a3 : Int32} {I : pI} {R : pR} {Q : pI → pR → Prop} (hL : pw_Lay R) (h : w_sr_put a1 z1 a2 a3 I R Q) : Cm (d + 1) m_sr_put [.ref a1, .int a2, .int a3] I R (qv Q) := by
  refine Cm.of [some (.ref a1), some (.int a2), some (.int a3)] (by decide) rfl (Nat.le_of_ble_eq_true rfl) (by simp) (fun E B g hF => ?_)
  unfold w_sr_put at h
  refine PW.iload_n g rfl rfl d_sr_put_0 ?_
  refine PW.if_lt g 14 (by decide) d_sr_put_1 (fun c1 => ?_) (fun c1 => ?_)
  · have h := h.1 c1
    exact PX.vret g hF rfl d_sr_put_14 hL h
  · have h := h.2 c1
    refine PW.iload_n g rfl rfl d_sr_put_4 ?_
    refine PW.aload_n g rfl rfl d_sr_put_5 ?_
    refine PW.alen g (by decide) (by decide) ha1 rfl d_sr_put_6 ?_
    refine PW.icmp_ge g 14 (by decide) d_sr_put_7 (fun c2 => ?_) (fun c2 => ?_)
    · have h := h.1 c2
      exact PX.vret g hF rfl d_sr_put_14 hL h
    · have h := h.2 c2
      refine PW.aload_n g rfl rfl d_sr_put_10 ?_
      refine PW.iload_n g rfl rfl d_sr_put_11 ?_
      refine PW.iload_n g rfl rfl d_sr_put_12 ?_
      refine PW.iast g ha1 h.1 d_sr_put_13 ?_
      refine PX.gI (fun I1 eI1 => ?_)
      have h := h.2 _ eI1
      exact PX.vret g hF rfl d_sr_put_14 hL h
def w_sr_levelOf (a1 : Int32) (I : pI) (R : pR) (Q : Int32 → pI → pR → Prop) : Prop := ((a1 = (37 : Int32) → Q (4 : Int32) I R) ∧ (¬ a1 = (37 : Int32) → ((a1 = (42 : Int32) → Q (4 : Int32) I R) ∧ (¬ a1 = (42 : Int32) → ((a1 = (43 : Int32) → Q (3 : Int32) I R) ∧ (¬ a1 = (43 : Int32) → ((a1 = (45 : Int32) → Q (3 : Int32) I R) ∧ (¬ a1 = (45 : Int32) → ((a1 = (47 : Int32) → Q (4 : Int32) I R) ∧ (¬ a1 = (47 : Int32) → ((a1 = (60 : Int32) → Q (2 : Int32) I R) ∧ (¬ a1 = (60 : Int32) → ((a1 = (62 : Int32) → Q (2 : Int32) I R) ∧ (¬ a1 = (62 : Int32) → ((a1 = (260 : Int32) → Q (2 : Int32) I R) ∧ (¬ a1 = (260 : Int32) → ((a1 = (261 : Int32) → Q (2 : Int32) I R) ∧ (¬ a1 = (261 : Int32) → ((a1 = (262 : Int32) → Q (2 : Int32) I R) ∧ (¬ a1 = (262 : Int32) → ((a1 = (263 : Int32) → Q (2 : Int32) I R) ∧ (¬ a1 = (263 : Int32) → ((a1 = (264 : Int32) → Q (1 : Int32) I R) ∧ (¬ a1 = (264 : Int32) → ((a1 = (265 : Int32) → Q (0 : Int32) I R) ∧ (¬ a1 = (265 : Int32) → Q (-1 : Int32) I R))))))))))))))))))))))))))
set_option maxHeartbeats 4000000 in
set_option maxRecDepth 100000 in
theorem c_sr_levelOf (d : Nat) {a1 : Int32} {I : pI} {R : pR} {Q : Int32 → pI → pR → Prop} (hL : pw_Lay R) (h : w_sr_levelOf a1 I R Q) : Cm (d + 1) m_sr_levelOf [.int a1] I R (qi Q) := by
  refine Cm.of [some (.int a1)] (by decide) rfl (Nat.le_of_ble_eq_true rfl) (by simp) (fun E B g hF => ?_)
  unfold w_sr_levelOf at h
  refine PW.iload_n g rfl rfl d_sr_levelOf_0 ?_
  by_cases c1 : a1 = (37 : Int32)
  · have h := h.1 c1
    refine PW.lookup g 124 (by decide) (show Op.lookupswitch.offset [(37, 123), (42, 123), (43, 121), (45, 121), (47, 123), (60, 119), (62, 119), (260, 119), (261, 119), (262, 119), (263, 119), (264, 117), (265, 115)] (125) a1.toInt = 123 from by rw [c1]; decide) (by decide) d_sr_levelOf_1 ?_
    refine PW.iconst g (4) (by decide) d_sr_levelOf_124 ?_
    exact PX.iret g hF rfl d_sr_levelOf_125 hL h
  · have h := h.2 c1
    by_cases c2 : a1 = (42 : Int32)
    · have h := h.1 c2
      refine PW.lookup g 124 (by decide) (show Op.lookupswitch.offset [(37, 123), (42, 123), (43, 121), (45, 121), (47, 123), (60, 119), (62, 119), (260, 119), (261, 119), (262, 119), (263, 119), (264, 117), (265, 115)] (125) a1.toInt = 123 from by rw [c2]; decide) (by decide) d_sr_levelOf_1 ?_
      refine PW.iconst g (4) (by decide) d_sr_levelOf_124 ?_
      exact PX.iret g hF rfl d_sr_levelOf_125 hL h
    · have h := h.2 c2
      by_cases c3 : a1 = (43 : Int32)
      · have h := h.1 c3
        refine PW.lookup g 122 (by decide) (show Op.lookupswitch.offset [(37, 123), (42, 123), (43, 121), (45, 121), (47, 123), (60, 119), (62, 119), (260, 119), (261, 119), (262, 119), (263, 119), (264, 117), (265, 115)] (125) a1.toInt = 121 from by rw [c3]; decide) (by decide) d_sr_levelOf_1 ?_
        refine PW.iconst g (3) (by decide) d_sr_levelOf_122 ?_
        exact PX.iret g hF rfl d_sr_levelOf_123 hL h
      · have h := h.2 c3
        by_cases c4 : a1 = (45 : Int32)
        · have h := h.1 c4
          refine PW.lookup g 122 (by decide) (show Op.lookupswitch.offset [(37, 123), (42, 123), (43, 121), (45, 121), (47, 123), (60, 119), (62, 119), (260, 119), (261, 119), (262, 119), (263, 119), (264, 117), (265, 115)] (125) a1.toInt = 121 from by rw [c4]; decide) (by decide) d_sr_levelOf_1 ?_
          refine PW.iconst g (3) (by decide) d_sr_levelOf_122 ?_
          exact PX.iret g hF rfl d_sr_levelOf_123 hL h
        · have h := h.2 c4
          by_cases c5 : a1 = (47 : Int32)
          · have h := h.1 c5
            refine PW.lookup g 124 (by decide) (show Op.lookupswitch.offset [(37, 123), (42, 123), (43, 121), (45, 121), (47, 123), (60, 119), (62, 119), (260, 119), (261, 119), (262, 119), (263, 119), (264, 117), (265, 115)] (125) a1.toInt = 123 from by rw [c5]; decide) (by decide) d_sr_levelOf_1 ?_
            refine PW.iconst g (4) (by decide) d_sr_levelOf_124 ?_
            exact PX.iret g hF rfl d_sr_levelOf_125 hL h
          · have h := h.2 c5
            by_cases c6 : a1 = (60 : Int32)
            · have h := h.1 c6
              refine PW.lookup g 120 (by decide) (show Op.lookupswitch.offset [(37, 123), (42, 123), (43, 121), (45, 121), (47, 123), (60, 119), (62, 119), (260, 119), (261, 119), (262, 119), (263, 119), (264, 117), (265, 115)] (125) a1.toInt = 119 from by rw [c6]; decide) (by decide) d_sr_levelOf_1 ?_
              refine PW.iconst g (2) (by decide) d_sr_levelOf_120 ?_
              exact PX.iret g hF rfl d_sr_levelOf_121 hL h
            · have h := h.2 c6
              by_cases c7 : a1 = (62 : Int32)
              · have h := h.1 c7
                refine PW.lookup g 120 (by decide) (show Op.lookupswitch.offset [(37, 123), (42, 123), (43, 121), (45, 121), (47, 123), (60, 119), (62, 119), (260, 119), (261, 119), (262, 119), (263, 119), (264, 117), (265, 115)] (125) a1.toInt = 119 from by rw [c7]; decide) (by decide) d_sr_levelOf_1 ?_
                refine PW.iconst g (2) (by decide) d_sr_levelOf_120 ?_
                exact PX.iret g hF rfl d_sr_levelOf_121 hL h
              · have h := h.2 c7
                by_cases c8 : a1 = (260 : Int32)
                · have h := h.1 c8
                  refine PW.lookup g 120 (by decide) (show Op.lookupswitch.offset [(37, 123), (42, 123), (43, 121), (45, 121), (47, 123), (60, 119), (62, 119), (260, 119), (261, 119), (262, 119), (263, 119), (264, 117), (265, 115)] (125) a1.toInt = 119 from by rw [c8]; decide) (by decide) d_sr_levelOf_1 ?_
                  refine PW.iconst g (2) (by decide) d_sr_levelOf_120 ?_
                  exact PX.iret g hF rfl d_sr_levelOf_121 hL h
                · have h := h.2 c8
                  by_cases c9 : a1 = (261 : Int32)
                  · have h := h.1 c9
                    refine PW.lookup g 120 (by decide) (show Op.lookupswitch.offset [(37, 123), (42, 123), (43, 121), (45, 121), (47, 123), (60, 119), (62, 119), (260, 119), (261, 119), (262, 119), (263, 119), (264, 117), (265, 115)] (125) a1.toInt = 119 from by rw [c9]; decide) (by decide) d_sr_levelOf_1 ?_
                    refine PW.iconst g (2) (by decide) d_sr_levelOf_120 ?_
                    exact PX.iret g hF rfl d_sr_levelOf_121 hL h
                  · have h := h.2 c9
                    by_cases c10 : a1 = (262 : Int32)
                    · have h := h.1 c10
                      refine PW.lookup g 120 (by decide) (show Op.lookupswitch.offset [(37, 123), (42, 123), (43, 121), (45, 121), (47, 123), (60, 119), (62, 119), (260, 119), (261, 119), (262, 119), (263, 119), (264, 117), (265, 115)] (125) a1.toInt = 119 from by rw [c10]; decide) (by decide) d_sr_levelOf_1 ?_
                      refine PW.iconst g (2) (by decide) d_sr_levelOf_120 ?_
                      exact PX.iret g hF rfl d_sr_levelOf_121 hL h
                    · have h := h.2 c10
                      by_cases c11 : a1 = (263 : Int32)
                      · have h := h.1 c11
                        refine PW.lookup g 120 (by decide) (show Op.lookupswitch.offset [(37, 123), (42, 123), (43, 121), (45, 121), (47, 123), (60, 119), (62, 119), (260, 119), (261, 119), (262, 119), (263, 119), (264, 117), (265, 115)] (125) a1.toInt = 119 from by rw [c11]; decide) (by decide) d_sr_levelOf_1 ?_
                        refine PW.iconst g (2) (by decide) d_sr_levelOf_120 ?_
                        exact PX.iret g hF rfl d_sr_levelOf_121 hL h
                      · have h := h.2 c11
                        by_cases c12 : a1 = (264 : Int32)
                        · have h := h.1 c12
                          refine PW.lookup g 118 (by decide) (show Op.lookupswitch.offset [(37, 123), (42, 123), (43, 121), (45, 121), (47, 123), (60, 119), (62, 119), (260, 119), (261, 119), (262, 119), (263, 119), (264, 117), (265, 115)] (125) a1.toInt = 117 from by rw [c12]; decide) (by decide) d_sr_levelOf_1 ?_
                          refine PW.iconst g (1) (by decide) d_sr_levelOf_118 ?_
                          exact PX.iret g hF rfl d_sr_levelOf_119 hL h
                        · have h := h.2 c12
                          by_cases c13 : a1 = (265 : Int32)
                          · have h := h.1 c13
                            refine PW.lookup g 116 (by decide) (show Op.lookupswitch.offset [(37, 123), (42, 123), (43, 121), (45, 121), (47, 123), (60, 119), (62, 119), (260, 119), (261, 119), (262, 119), (263, 119), (264, 117), (265, 115)] (125) a1.toInt = 115 from by rw [c13]; decide) (by decide) d_sr_levelOf_1 ?_
                            refine PW.iconst g (0) (by decide) d_sr_levelOf_116 ?_
                            exact PX.iret g hF rfl d_sr_levelOf_117 hL h
                          · have h := h.2 c13
                            refine PW.lookup g 126 (by decide) (show Op.lookupswitch.offset [(37, 123), (42, 123), (43, 121), (45, 121), (47, 123), (60, 119), (62, 119), (260, 119), (261, 119), (262, 119), (263, 119), (264, 117), (265, 115)] (125) a1.toInt = 125 from by rw [lv_osw c1 (by decide)]; rw [lv_osw c2 (by decide)]; rw [lv_osw c3 (by decide)]; rw [lv_osw c4 (by decide)]; rw [lv_osw c5 (by decide)]; rw [lv_osw c6 (by decide)]; rw [lv_osw c7 (by decide)]; rw [lv_osw c8 (by decide)]; rw [lv_osw c9 (by decide)]; rw [lv_osw c10 (by decide)]; rw [lv_osw c11 (by decide)]; rw [lv_osw c12 (by decide)]; rw [lv_osw c13 (by decide)]; rfl) (by decide) d_sr_levelOf_1 ?_
                            refine PW.iconst g (-1) (by decide) d_sr_levelOf_126 ?_
                            exact PX.iret g hF rfl d_sr_levelOf_127 hL h
def w_sr_pick (a1 : Nat) (z1 : Nat) (a2 : Int32) (I : pI) (R : pR) (Q : Int32 → pI → pR → Prop) : Prop := ((a2 < 0 → Q (0 : Int32) I R) ∧ (¬ a2 < 0 → (((Int32.ofNat z1) ≤ a2 → Q (0 : Int32) I R) ∧ (¬ (Int32.ofNat z1) ≤ a2 → (vp_in a2 z1 ∧ Q (I a1 a2.toNatClampNeg) I R)))))
set_option maxHeartbeats 4000000 in
set_option maxRecDepth 100000 in
theorem c_sr_pick (d : Nat) {a1 : Nat} {z1 : Nat} (ha1 : pSH[a1]? = some (1, z1)) {a2 : Int32} {I : pI} {R : pR} {Q : Int32 → pI → pR → Prop} (hL : pw_Lay R) (h : w_sr_pick a1 z1 a2 I R Q) : Cm (d + 1) m_sr_pick [.ref a1, .int a2] I R (qi Q) := by
  refine Cm.of [some (.ref a1), some (.int a2)] (by decide) rfl (Nat.le_of_ble_eq_true rfl) (by simp) (fun E B g hF => ?_)
  unfold w_sr_pick at h
  refine PW.iload_n g rfl rfl d_sr_pick_0 ?_
  refine PW.if_lt g 16 (by decide) d_sr_pick_1 (fun c1 => ?_) (fun c1 => ?_)
  · have h := h.1 c1
    refine PW.iconst g (0) (by decide) d_sr_pick_16 ?_
    exact PX.iret g hF rfl d_sr_pick_17 hL h
  · have h := h.2 c1
    refine PW.iload_n g rfl rfl d_sr_pick_4 ?_
    refine PW.aload_n g rfl rfl d_sr_pick_5 ?_
    refine PW.alen g (by decide) (by decide) ha1 rfl d_sr_pick_6 ?_
    refine PW.icmp_ge g 16 (by decide) d_sr_pick_7 (fun c2 => ?_) (fun c2 => ?_)
    · have h := h.1 c2
      refine PW.iconst g (0) (by decide) d_sr_pick_16 ?_
      exact PX.iret g hF rfl d_sr_pick_17 hL h
    · have h := h.2 c2
      refine PW.aload_n g rfl rfl d_sr_pick_10 ?_
      refine PW.iload_n g rfl rfl d_sr_pick_11 ?_
      refine PW.iald g ha1 h.1 d_sr_pick_12 ?_
      have h := h.2
      refine PW.goto g 17 (by decide) d_sr_pick_13 ?_
      exact PX.iret g hF rfl d_sr_pick_17 hL h
def w_sr_truth (a1 : Int32) (I : pI) (R : pR) (Q : Int32 → pI → pR → Prop) : Prop := ((a1 = 0 → Q (0 : Int32) I R) ∧ (¬ a1 = 0 → Q (1 : Int32) I R))
set_option maxHeartbeats 4000000 in
set_option maxRecDepth 100000 in
theorem c_sr_truth (d : Nat) {a1 : Int32} {I : pI} {R : pR} {Q : Int32 → pI → pR → Prop} (hL : pw_Lay R) (h : w_sr_truth a1 I R Q) : Cm (d + 1) m_sr_truth [.int a1] I R (qi Q) := by
  refine Cm.of [some (.int a1)] (by decide) rfl (Nat.le_of_ble_eq_true rfl) (by simp) (fun E B g hF => ?_)
  unfold w_sr_truth at h
  refine PW.iload_n g rfl rfl d_sr_truth_0 ?_
  refine PW.if_eq g 8 (by decide) d_sr_truth_1 (fun c1 => ?_) (fun c1 => ?_)
  · have h := h.1 c1
    refine PW.iconst g (0) (by decide) d_sr_truth_8 ?_
    exact PX.iret g hF rfl d_sr_truth_9 hL h
  · have h := h.2 c1
    refine PW.iconst g (1) (by decide) d_sr_truth_4 ?_
    refine PW.goto g 9 (by decide) d_sr_truth_5 ?_
    exact PX.iret g hF rfl d_sr_truth_9 hL h
