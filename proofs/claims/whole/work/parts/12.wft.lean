def w_ft_begin (t : Nat) (a1 : Nat) (a2 : Int32) (I : pI) (R : pR) (Q : pI → pR → Prop) : Prop := (pw_cpo I a1 120 120 (0 : Int32) (0 : Int32) (if (0 : Int32) < (if (if (120 : Int32) < (Int32.ofNat 120) then (120 : Int32) else (Int32.ofNat 120)) < a2 then (if (120 : Int32) < (Int32.ofNat 120) then (120 : Int32) else (Int32.ofNat 120)) else a2) then (if (if (120 : Int32) < (Int32.ofNat 120) then (120 : Int32) else (Int32.ofNat 120)) < a2 then (if (120 : Int32) < (Int32.ofNat 120) then (120 : Int32) else (Int32.ofNat 120)) else a2) else (0 : Int32)) ∧ ∀ I1, I1 = pw_cp I a1 (t + 1) (0 : Int32).toNatClampNeg (0 : Int32).toNatClampNeg (if (0 : Int32) < (if (if (120 : Int32) < (Int32.ofNat 120) then (120 : Int32) else (Int32.ofNat 120)) < a2 then (if (120 : Int32) < (Int32.ofNat 120) then (120 : Int32) else (Int32.ofNat 120)) else a2) then (if (if (120 : Int32) < (Int32.ofNat 120) then (120 : Int32) else (Int32.ofNat 120)) < a2 then (if (120 : Int32) < (Int32.ofNat 120) then (120 : Int32) else (Int32.ofNat 120)) else a2) else (0 : Int32)).toNatClampNeg → (∀ I2, I2 = pw_wI I1 (t + 2) 4 (0 : Int32) → (∀ I3, I3 = pw_wI I2 (t + 7) 6 (0 : Int32) → (∀ I4, I4 = pw_wI I3 (t + 14) 8 (0 : Int32) → (∀ I5, I5 = pw_wI I4 (t + 14) 9 (0 : Int32) → (∀ I6, I6 = pw_wI I5 t 8 (0 : Int32) → (∀ I7, I7 = pw_wI I6 t 9 (0 : Int32) → (∀ I8, I8 = pw_wI I7 t 10 (0 : Int32) → (vp_in (0 : Int32) 42 ∧ ∀ I9, I9 = pw_wI I8 (t + 23) (0 : Int32).toNatClampNeg (0 : Int32) → Q I9 R)))))))))
set_option maxHeartbeats 4000000 in
set_option maxRecDepth 100000 in
theorem c_ft_begin (d : Nat) {t : Nat} {a1 : Nat} (ht : pSH[t]? = some (0, 5)) (ha1 : pSH[a1]? = some (2, 120)) {a2 : Int32} {I : pI} {R : pR} {Q : pI → pR → Prop} (hL : pw_Lay R) (h : w_ft_begin t a1 a2 I R Q) : Cm (d + 2) m_ft_begin [.ref t, .ref a1, .int a2] I R (qv Q) := by
  refine Cm.of [some (.ref t), some (.ref a1), some (.int a2)] (by decide) rfl (Nat.le_of_ble_eq_true rfl) (by simp) (fun E B g hF => ?_)
  unfold w_ft_begin at h
  refine PW.aload_n g rfl rfl d_ft_begin_0 ?_
  refine PW.iconst g (0) (by decide) d_ft_begin_1 ?_
  refine PW.aload_n g rfl rfl d_ft_begin_2 ?_
  refine PW.getR (q := (t + 1)) g fi_ft_9 ht (hL t 5 0 ht (by decide)) d_ft_begin_3 ?_
  refine PW.iconst g (0) (by decide) d_ft_begin_6 ?_
  refine PW.iconst g (0) (by decide) d_ft_begin_7 ?_
  refine PW.iload_n g rfl rfl d_ft_begin_8 ?_
  refine PW.aload_n g rfl rfl d_ft_begin_9 ?_
  refine PW.alen g (by decide) (by decide) ha1 rfl d_ft_begin_10 ?_
  refine PW.bipush g (120) (by decide) d_ft_begin_11 ?_
  refine PX.mmin g (pw_gw 673 (by decide +kernel) (by decide +kernel)) (by omega) rfl (Nat.le_of_ble_eq_true rfl) d_ft_begin_13 ?_
  refine PX.mmin g (pw_gw 673 (by decide +kernel) (by decide +kernel)) (by omega) rfl (Nat.le_of_ble_eq_true rfl) d_ft_begin_16 ?_
  refine PX.mmax g (pw_gw 674 (by decide +kernel) (by decide +kernel)) (by omega) rfl (Nat.le_of_ble_eq_true rfl) d_ft_begin_19 ?_
  refine PX.acopy g (pw_gw 675 (by decide +kernel) (by decide +kernel)) (by omega) rfl ha1 (pw_shp ht 0 (by decide)) h.1 (Nat.le_of_ble_eq_true rfl) d_ft_begin_22 ?_
  refine PX.gI (fun I1 eI1 => ?_)
  have h := h.2 _ eI1
  refine PW.aload_n g rfl rfl d_ft_begin_25 ?_
  refine PW.getR (q := (t + 2)) g fi_ft_18 ht (hL t 5 1 ht (by decide)) d_ft_begin_26 ?_
  refine PW.iconst g (0) (by decide) d_ft_begin_29 ?_
  refine PW.putI g fi_ft_64 (pw_shp ht 1 (by decide)) rfl rfl d_ft_begin_30 ?_
  refine PX.gI (fun I2 eI2 => ?_)
  have h := h _ eI2
  refine PW.aload_n g rfl rfl d_ft_begin_33 ?_
  refine PW.getR (q := (t + 7)) g fi_ft_25 ht (hL t 5 2 ht (by decide)) d_ft_begin_34 ?_
  refine PW.iconst g (0) (by decide) d_ft_begin_37 ?_
  refine PW.putI g fi_ft_68 (pw_shp ht 2 (by decide)) rfl rfl d_ft_begin_38 ?_
  refine PX.gI (fun I3 eI3 => ?_)
  have h := h _ eI3
  refine PW.aload_n g rfl rfl d_ft_begin_41 ?_
  refine PW.getR (q := (t + 14)) g fi_ft_32 ht (hL t 5 3 ht (by decide)) d_ft_begin_42 ?_
  refine PW.iconst g (0) (by decide) d_ft_begin_45 ?_
  refine PW.putI g fi_ft_69 (pw_shp ht 3 (by decide)) rfl rfl d_ft_begin_46 ?_
  refine PX.gI (fun I4 eI4 => ?_)
  have h := h _ eI4
  refine PW.aload_n g rfl rfl d_ft_begin_49 ?_
  refine PW.getR (q := (t + 14)) g fi_ft_32 ht (hL t 5 3 ht (by decide)) d_ft_begin_50 ?_
  refine PW.iconst g (0) (by decide) d_ft_begin_53 ?_
  refine PW.putI g fi_ft_70 (pw_shp ht 3 (by decide)) rfl rfl d_ft_begin_54 ?_
  refine PX.gI (fun I5 eI5 => ?_)
  have h := h _ eI5
  refine PW.aload_n g rfl rfl d_ft_begin_57 ?_
  refine PW.iconst g (0) (by decide) d_ft_begin_58 ?_
  refine PW.putI g fi_ft_73 ht rfl rfl d_ft_begin_59 ?_
  refine PX.gI (fun I6 eI6 => ?_)
  have h := h _ eI6
  refine PW.aload_n g rfl rfl d_ft_begin_62 ?_
  refine PW.iconst g (0) (by decide) d_ft_begin_63 ?_
  refine PW.putI g fi_ft_76 ht rfl rfl d_ft_begin_64 ?_
  refine PX.gI (fun I7 eI7 => ?_)
  have h := h _ eI7
  refine PW.aload_n g rfl rfl d_ft_begin_67 ?_
  refine PW.iconst g (0) (by decide) d_ft_begin_68 ?_
  refine PW.putI g fi_ft_79 ht rfl rfl d_ft_begin_69 ?_
  refine PX.gI (fun I8 eI8 => ?_)
  have h := h _ eI8
  refine PW.aload_n g rfl rfl d_ft_begin_72 ?_
  refine PW.getR (q := (t + 23)) g fi_ft_36 ht (hL t 5 4 ht (by decide)) d_ft_begin_73 ?_
  refine PW.iconst g (0) (by decide) d_ft_begin_76 ?_
  refine PW.iconst g (0) (by decide) d_ft_begin_77 ?_
  refine PW.iast g (pw_shp ht 4 (by decide)) h.1 d_ft_begin_78 ?_
  refine PX.gI (fun I9 eI9 => ?_)
  have h := h.2 _ eI9
  exact PX.vret g hF rfl d_ft_begin_79 hL h
def w_ft_openPart (t : Nat) (I : pI) (R : pR) (Q : pI → pR → Prop) : Prop := (w_sr_put (t + 23) 42 (I t 8) (I (t + 7) 6) I R (fun I1 R1 => Q I1 R1))
set_option maxHeartbeats 4000000 in
set_option maxRecDepth 100000 in
theorem c_ft_openPart (d : Nat) {t : Nat} (ht : pSH[t]? = some (0, 5)) {I : pI} {R : pR} {Q : pI → pR → Prop} (hL : pw_Lay R) (h : w_ft_openPart t I R Q) : Cm (d + 2) m_ft_openPart [.ref t] I R (qv Q) := by
  refine Cm.of [some (.ref t)] (by decide) rfl (Nat.le_of_ble_eq_true rfl) (by simp) (fun E B g hF => ?_)
  unfold w_ft_openPart at h
  refine PW.aload_n g rfl rfl d_ft_openPart_0 ?_
  refine PW.getR (q := (t + 23)) g fi_ft_36 ht (hL t 5 4 ht (by decide)) d_ft_openPart_1 ?_
  refine PW.aload_n g rfl rfl d_ft_openPart_4 ?_
  refine PW.getI g fi_ft_73 ht d_ft_openPart_5 ?_
  refine PW.aload_n g rfl rfl d_ft_openPart_8 ?_
  refine PW.getR (q := (t + 7)) g fi_ft_25 ht (hL t 5 2 ht (by decide)) d_ft_openPart_9 ?_
  refine PW.getI g fi_ft_68 (pw_shp ht 2 (by decide)) d_ft_openPart_12 ?_
  refine PX.cSv [.ref (t + 23), .int (I t 8), .int (I (t + 7) 6)] [] g (c_sr_put d (pw_shp ht 4 (by decide)) hL h) cl_ft_82 (by omega) (by decide) rfl rfl (Nat.le_of_ble_eq_true rfl) d_ft_openPart_15 (fun I1 R1 hL h => ?_)
  exact PX.vret g hF rfl d_ft_openPart_18 hL h
def w_ft_closePart (t : Nat) (I : pI) (R : pR) (Q : pI → pR → Prop) : Prop := (((41 : Int32) ≤ (I t 8) → Q I R) ∧ (¬ (41 : Int32) ≤ (I t 8) → (∀ I1, I1 = pw_wI I t 8 ((I t 8) + (1 : Int32)) → (w_sr_put (t + 23) 42 (I1 t 8) (I1 (t + 7) 6) I1 R (fun I2 R1 => Q I2 R1)))))
set_option maxHeartbeats 4000000 in
set_option maxRecDepth 100000 in
theorem c_ft_closePart (d : Nat) {t : Nat} (ht : pSH[t]? = some (0, 5)) {I : pI} {R : pR} {Q : pI → pR → Prop} (hL : pw_Lay R) (h : w_ft_closePart t I R Q) : Cm (d + 2) m_ft_closePart [.ref t] I R (qv Q) := by
  refine Cm.of [some (.ref t)] (by decide) rfl (Nat.le_of_ble_eq_true rfl) (by simp) (fun E B g hF => ?_)
  unfold w_ft_closePart at h
  refine PW.aload_n g rfl rfl d_ft_closePart_0 ?_
  refine PW.getI g fi_ft_73 ht d_ft_closePart_1 ?_
  refine PW.bipush g (41) (by decide) d_ft_closePart_4 ?_
  refine PW.icmp_ge g 37 (by decide) d_ft_closePart_6 (fun c1 => ?_) (fun c1 => ?_)
  · have h := h.1 c1
    exact PX.vret g hF rfl d_ft_closePart_37 hL h
  · have h := h.2 c1
    refine PW.aload_n g rfl rfl d_ft_closePart_9 ?_
    refine PW.dup g rfl d_ft_closePart_10 ?_
    refine PW.getI g fi_ft_73 ht d_ft_closePart_11 ?_
    refine PW.iconst g (1) (by decide) d_ft_closePart_14 ?_
    refine PW.iadd g d_ft_closePart_15 ?_
    refine PW.putI g fi_ft_73 ht rfl rfl d_ft_closePart_16 ?_
    refine PX.gI (fun I1 eI1 => ?_)
    have h := h _ eI1
    refine PW.aload_n g rfl rfl d_ft_closePart_19 ?_
    refine PW.getR (q := (t + 23)) g fi_ft_36 ht (hL t 5 4 ht (by decide)) d_ft_closePart_20 ?_
    refine PW.aload_n g rfl rfl d_ft_closePart_23 ?_
    refine PW.getI g fi_ft_73 ht d_ft_closePart_24 ?_
    refine PW.aload_n g rfl rfl d_ft_closePart_27 ?_
    refine PW.getR (q := (t + 7)) g fi_ft_25 ht (hL t 5 2 ht (by decide)) d_ft_closePart_28 ?_
    refine PW.getI g fi_ft_68 (pw_shp ht 2 (by decide)) d_ft_closePart_31 ?_
    refine PX.cSv [.ref (t + 23), .int (I1 t 8), .int (I1 (t + 7) 6)] [] g (c_sr_put d (pw_shp ht 4 (by decide)) hL h) cl_ft_82 (by omega) (by decide) rfl rfl (Nat.le_of_ble_eq_true rfl) d_ft_closePart_34 (fun I2 R1 hL h => ?_)
    exact PX.vret g hF rfl d_ft_closePart_37 hL h
def w_ft_addColumn (t : Nat) (a1 : Int32) (a2 : Int32) (I : pI) (R : pR) (Q : pI → pR → Prop) : Prop := (((61 : Int32) ≤ (I t 10) → Q I R) ∧ (¬ (61 : Int32) ≤ (I t 10) → (vp_in (I t 10) 61 ∧ ∀ I1, I1 = pw_wI I (t + 25) (I t 10).toNatClampNeg a1 → (vp_in (I1 t 10) 61 ∧ ∀ I2, I2 = pw_wI I1 (t + 26) (I1 t 10).toNatClampNeg a2 → (∀ I3, I3 = pw_wI I2 t 10 ((I2 t 10) + (1 : Int32)) → Q I3 R)))))
set_option maxHeartbeats 4000000 in
set_option maxRecDepth 100000 in
theorem c_ft_addColumn (d : Nat) {t : Nat} (ht : pSH[t]? = some (0, 5)) {a1 : Int32} {a2 : Int32} {I : pI} {R : pR} {Q : pI → pR → Prop} (hL : pw_Lay R) (h : w_ft_addColumn t a1 a2 I R Q) : Cm (d + 1) m_ft_addColumn [.ref t, .int a1, .int a2] I R (qv Q) := by
  refine Cm.of [some (.ref t), some (.int a1), some (.int a2)] (by decide) rfl (Nat.le_of_ble_eq_true rfl) (by simp) (fun E B g hF => ?_)
  unfold w_ft_addColumn at h
  refine PW.aload_n g rfl rfl d_ft_addColumn_0 ?_
  refine PW.getI g fi_ft_79 ht d_ft_addColumn_1 ?_
  refine PW.bipush g (61) (by decide) d_ft_addColumn_4 ?_
  refine PW.icmp_ge g 39 (by decide) d_ft_addColumn_6 (fun c1 => ?_) (fun c1 => ?_)
  · have h := h.1 c1
    exact PX.vret g hF rfl d_ft_addColumn_39 hL h
  · have h := h.2 c1
    refine PW.aload_n g rfl rfl d_ft_addColumn_9 ?_
    refine PW.getR (q := (t + 25)) g fi_ft_43 ht (hL t 5 6 ht (by decide)) d_ft_addColumn_10 ?_
    refine PW.aload_n g rfl rfl d_ft_addColumn_13 ?_
    refine PW.getI g fi_ft_79 ht d_ft_addColumn_14 ?_
    refine PW.iload_n g rfl rfl d_ft_addColumn_17 ?_
    refine PW.iast g (pw_shp ht 6 (by decide)) h.1 d_ft_addColumn_18 ?_
    refine PX.gI (fun I1 eI1 => ?_)
    have h := h.2 _ eI1
    refine PW.aload_n g rfl rfl d_ft_addColumn_19 ?_
    refine PW.getR (q := (t + 26)) g fi_ft_46 ht (hL t 5 7 ht (by decide)) d_ft_addColumn_20 ?_
    refine PW.aload_n g rfl rfl d_ft_addColumn_23 ?_
    refine PW.getI g fi_ft_79 ht d_ft_addColumn_24 ?_
    refine PW.iload_n g rfl rfl d_ft_addColumn_27 ?_
    refine PW.iast g (pw_shp ht 7 (by decide)) h.1 d_ft_addColumn_28 ?_
    refine PX.gI (fun I2 eI2 => ?_)
    have h := h.2 _ eI2
    refine PW.aload_n g rfl rfl d_ft_addColumn_29 ?_
    refine PW.dup g rfl d_ft_addColumn_30 ?_
    refine PW.getI g fi_ft_79 ht d_ft_addColumn_31 ?_
    refine PW.iconst g (1) (by decide) d_ft_addColumn_34 ?_
    refine PW.iadd g d_ft_addColumn_35 ?_
    refine PW.putI g fi_ft_79 ht rfl rfl d_ft_addColumn_36 ?_
    refine PX.gI (fun I3 eI3 => ?_)
    have h := h _ eI3
    exact PX.vret g hF rfl d_ft_addColumn_39 hL h
def w_ft_addRow (t : Nat) (I : pI) (R : pR) (Q : pI → pR → Prop) : Prop := (((61 : Int32) ≤ (I t 9) → Q I R) ∧ (¬ (61 : Int32) ≤ (I t 9) → (vp_in (I t 9) 61 ∧ ∀ I1, I1 = pw_wI I (t + 24) (I t 9).toNatClampNeg (I (t + 7) 6) → (∀ I2, I2 = pw_wI I1 t 9 ((I1 t 9) + (1 : Int32)) → Q I2 R))))
set_option maxHeartbeats 4000000 in
set_option maxRecDepth 100000 in
theorem c_ft_addRow (d : Nat) {t : Nat} (ht : pSH[t]? = some (0, 5)) {I : pI} {R : pR} {Q : pI → pR → Prop} (hL : pw_Lay R) (h : w_ft_addRow t I R Q) : Cm (d + 1) m_ft_addRow [.ref t] I R (qv Q) := by
  refine Cm.of [some (.ref t)] (by decide) rfl (Nat.le_of_ble_eq_true rfl) (by simp) (fun E B g hF => ?_)
  unfold w_ft_addRow at h
  refine PW.aload_n g rfl rfl d_ft_addRow_0 ?_
  refine PW.getI g fi_ft_76 ht d_ft_addRow_1 ?_
  refine PW.bipush g (61) (by decide) d_ft_addRow_4 ?_
  refine PW.icmp_ge g 35 (by decide) d_ft_addRow_6 (fun c1 => ?_) (fun c1 => ?_)
  · have h := h.1 c1
    exact PX.vret g hF rfl d_ft_addRow_35 hL h
  · have h := h.2 c1
    refine PW.aload_n g rfl rfl d_ft_addRow_9 ?_
    refine PW.getR (q := (t + 24)) g fi_ft_40 ht (hL t 5 5 ht (by decide)) d_ft_addRow_10 ?_
    refine PW.aload_n g rfl rfl d_ft_addRow_13 ?_
    refine PW.getI g fi_ft_76 ht d_ft_addRow_14 ?_
    refine PW.aload_n g rfl rfl d_ft_addRow_17 ?_
    refine PW.getR (q := (t + 7)) g fi_ft_25 ht (hL t 5 2 ht (by decide)) d_ft_addRow_18 ?_
    refine PW.getI g fi_ft_68 (pw_shp ht 2 (by decide)) d_ft_addRow_21 ?_
    refine PW.iast g (pw_shp ht 5 (by decide)) h.1 d_ft_addRow_24 ?_
    refine PX.gI (fun I1 eI1 => ?_)
    have h := h.2 _ eI1
    refine PW.aload_n g rfl rfl d_ft_addRow_25 ?_
    refine PW.dup g rfl d_ft_addRow_26 ?_
    refine PW.getI g fi_ft_76 ht d_ft_addRow_27 ?_
    refine PW.iconst g (1) (by decide) d_ft_addRow_30 ?_
    refine PW.iadd g d_ft_addRow_31 ?_
    refine PW.putI g fi_ft_76 ht rfl rfl d_ft_addRow_32 ?_
    refine PX.gI (fun I2 eI2 => ?_)
    have h := h _ eI2
    exact PX.vret g hF rfl d_ft_addRow_35 hL h
def w_ck_tell (a1 : Int32) (a2 : Int32) (I : pI) (R : pR) (Q : pI → pR → Prop) : Prop := (((I 2 2) = 0 → (∀ I1, I1 = pw_wI I 2 2 a1 → (∀ I2, I2 = pw_wI I1 2 3 a2 → Q I2 R))) ∧ (¬ (I 2 2) = 0 → ((a2 < (I 2 3) → (∀ I3, I3 = pw_wI I 2 2 a1 → (∀ I4, I4 = pw_wI I3 2 3 a2 → Q I4 R))) ∧ (¬ a2 < (I 2 3) → ((¬ a2 = (I 2 3) → Q I R) ∧ (a2 = (I 2 3) → (((I 2 2) ≤ a1 → Q I R) ∧ (¬ (I 2 2) ≤ a1 → (∀ I5, I5 = pw_wI I 2 2 a1 → (∀ I6, I6 = pw_wI I5 2 3 a2 → Q I6 R))))))))))
set_option maxHeartbeats 4000000 in
set_option maxRecDepth 100000 in
theorem c_ck_tell (d : Nat) {a1 : Int32} {a2 : Int32} {I : pI} {R : pR} {Q : pI → pR → Prop} (hL : pw_Lay R) (h : w_ck_tell a1 a2 I R Q) : Cm (d + 1) m_ck_tell [.ref 2, .int a1, .int a2] I R (qv Q) := by
  refine Cm.of [some (.ref 2), some (.int a1), some (.int a2)] (by decide) rfl (Nat.le_of_ble_eq_true rfl) (by simp) (fun E B g hF => ?_)
  unfold w_ck_tell at h
  refine PW.aload_n g rfl rfl d_ck_tell_0 ?_
  refine PW.getI g fi_ck_18 rfl d_ck_tell_1 ?_
  refine PW.if_eq g 31 (by decide) d_ck_tell_4 (fun c1 => ?_) (fun c1 => ?_)
  · have h := h.1 c1
    refine PW.aload_n g rfl rfl d_ck_tell_31 ?_
    refine PW.iload_n g rfl rfl d_ck_tell_32 ?_
    refine PW.putI g fi_ck_18 rfl rfl rfl d_ck_tell_33 ?_
    refine PX.gI (fun I1 eI1 => ?_)
    have h := h _ eI1
    refine PW.aload_n g rfl rfl d_ck_tell_36 ?_
    refine PW.iload_n g rfl rfl d_ck_tell_37 ?_
    refine PW.putI g fi_ck_22 rfl rfl rfl d_ck_tell_38 ?_
    refine PX.gI (fun I2 eI2 => ?_)
    have h := h _ eI2
    exact PX.vret g hF rfl d_ck_tell_41 hL h
  · have h := h.2 c1
    refine PW.iload_n g rfl rfl d_ck_tell_7 ?_
    refine PW.aload_n g rfl rfl d_ck_tell_8 ?_
    refine PW.getI g fi_ck_22 rfl d_ck_tell_9 ?_
    refine PW.icmp_lt g 31 (by decide) d_ck_tell_12 (fun c2 => ?_) (fun c2 => ?_)
    · have h := h.1 c2
      refine PW.aload_n g rfl rfl d_ck_tell_31 ?_
      refine PW.iload_n g rfl rfl d_ck_tell_32 ?_
      refine PW.putI g fi_ck_18 rfl rfl rfl d_ck_tell_33 ?_
      refine PX.gI (fun I3 eI3 => ?_)
      have h := h _ eI3
      refine PW.aload_n g rfl rfl d_ck_tell_36 ?_
      refine PW.iload_n g rfl rfl d_ck_tell_37 ?_
      refine PW.putI g fi_ck_22 rfl rfl rfl d_ck_tell_38 ?_
      refine PX.gI (fun I4 eI4 => ?_)
      have h := h _ eI4
      exact PX.vret g hF rfl d_ck_tell_41 hL h
    · have h := h.2 c2
      refine PW.iload_n g rfl rfl d_ck_tell_15 ?_
      refine PW.aload_n g rfl rfl d_ck_tell_16 ?_
      refine PW.getI g fi_ck_22 rfl d_ck_tell_17 ?_
      refine PW.icmp_ne g 41 (by decide) d_ck_tell_20 (fun c3 => ?_) (fun c3 => ?_)
      · have h := h.1 c3
        exact PX.vret g hF rfl d_ck_tell_41 hL h
      · have h := h.2 c3
        refine PW.iload_n g rfl rfl d_ck_tell_23 ?_
        refine PW.aload_n g rfl rfl d_ck_tell_24 ?_
        refine PW.getI g fi_ck_18 rfl d_ck_tell_25 ?_
        refine PW.icmp_ge g 41 (by decide) d_ck_tell_28 (fun c4 => ?_) (fun c4 => ?_)
        · have h := h.1 c4
          exact PX.vret g hF rfl d_ck_tell_41 hL h
        · have h := h.2 c4
          refine PW.aload_n g rfl rfl d_ck_tell_31 ?_
          refine PW.iload_n g rfl rfl d_ck_tell_32 ?_
          refine PW.putI g fi_ck_18 rfl rfl rfl d_ck_tell_33 ?_
          refine PX.gI (fun I5 eI5 => ?_)
          have h := h _ eI5
          refine PW.aload_n g rfl rfl d_ck_tell_36 ?_
          refine PW.iload_n g rfl rfl d_ck_tell_37 ?_
          refine PW.putI g fi_ck_22 rfl rfl rfl d_ck_tell_38 ?_
          refine PX.gI (fun I6 eI6 => ?_)
          have h := h _ eI6
          exact PX.vret g hF rfl d_ck_tell_41 hL h
def j_ck_checkHeader_59 (a1 : Nat) (K2 : Int32 → pI → pR → Prop) (Q : pI → pR → Prop) (x2 : Int32) (x4 : Int32) (I : pI) (R : pR) : Prop := ((¬ x2 = (4 : Int32) → K2 (x2 + 1) I R) ∧ (x2 = (4 : Int32) → (w_ck_tell (4 : Int32) x4 I R (fun I5 R5 => K2 (x2 + 1) I5 R5))))
set_option maxHeartbeats 4000000 in
set_option maxRecDepth 100000 in
theorem J_ck_checkHeader_59 (d : Nat) {a1 : Nat} (ha1 : pSH[a1]? = some (0, 5)) {K2 : Int32 → pI → pR → Prop} {Q : pI → pR → Prop} {x2 : Int32} {x4 : Int32} {E : pE} {B : pB} (g : pw_G m_ck_checkHeader (d + 2) 0 0 E B) (hF : pX (qv Q) E B) (hK2 : ∀ (y2 : Int32) (I : pI) (R : pR), pw_Lay R → K2 y2 I R → PX E B m_ck_checkHeader.2.2.1 2 [some (.ref 2), some (.ref a1), some (.int y2), none, none] [] I R) {I : pI} {R : pR} (hL : pw_Lay R) (h : j_ck_checkHeader_59 a1 K2 Q x2 x4 I R) : PX E B m_ck_checkHeader.2.2.1 59 [some (.ref 2), some (.ref a1), some (.int x2), none, some (.int x4)] [] I R := by
  unfold j_ck_checkHeader_59 at h
  refine PW.iload_n g rfl rfl d_ck_checkHeader_59 ?_
  refine PW.iconst g (4) (by decide) d_ck_checkHeader_60 ?_
  refine PW.icmp_ne g 71 (by decide) d_ck_checkHeader_61 (fun c3 => ?_) (fun c3 => ?_)
  · have h := h.1 c3
    refine PW.iinc g rfl (show x2 + Int32.ofInt (1) = (x2 + 1) from congrArg (HAdd.hAdd x2) (by decide)) (by decide) rfl (L' := [some (.ref 2), some (.ref a1), some (.int (x2 + 1)), none, some (.int x4)]) rfl d_ck_checkHeader_71 ?_
    refine PW.goto g 2 (by decide) d_ck_checkHeader_74 ?_
    refine PX.sub [some (.ref 2), some (.ref a1), some (.int (x2 + 1)), none, none] ⟨rfl, ⟨rfl, ⟨rfl, trivial⟩⟩⟩ ?_
    exact hK2 _ _ _ hL h
  · have h := h.2 c3
    refine PW.aload_n g rfl rfl d_ck_checkHeader_64 ?_
    refine PW.iconst g (4) (by decide) d_ck_checkHeader_65 ?_
    refine PW.iload g rfl d_ck_checkHeader_66 ?_
    refine PX.cVv [.int (4 : Int32), .int x4] [] g rfl ck_ck (c_ck_tell d  hL h) cl_ck_62 (by omega) (by decide) rfl rfl (Nat.le_of_ble_eq_true rfl) d_ck_checkHeader_68 (fun I5 R5 hL h => ?_)
    refine PW.iinc g rfl (show x2 + Int32.ofInt (1) = (x2 + 1) from congrArg (HAdd.hAdd x2) (by decide)) (by decide) rfl (L' := [some (.ref 2), some (.ref a1), some (.int (x2 + 1)), none, some (.int x4)]) rfl d_ck_checkHeader_71 ?_
    refine PW.goto g 2 (by decide) d_ck_checkHeader_74 ?_
    refine PX.sub [some (.ref 2), some (.ref a1), some (.int (x2 + 1)), none, none] ⟨rfl, ⟨rfl, ⟨rfl, trivial⟩⟩⟩ ?_
    exact hK2 _ _ _ hL h
def l_ck_checkHeader_2 (a1 : Nat) (K : pI → pR → Prop) (Q : pI → pR → Prop) : Nat → Int32 → pI → pR → Prop
  | 0, _, _, _ => False
  | n + 1, x2, I, R => (((I a1 10) ≤ x2 → K I R) ∧ (¬ (I a1 10) ≤ x2 → (w_sr_pick (a1 + 25) 61 x2 I R (fun v1 I1 R1 => (w_sr_pick (a1 + 26) 61 x2 I1 R1 (fun v2 I2 R2 => (w_sr_pick 3 26 v1 I2 R2 (fun v3 I3 R3 => ((v3 < 0 → (w_sr_put 3 26 v1 x2 I3 R3 (fun I4 R4 => (j_ck_checkHeader_59 a1 (fun y1 I6 R6 => l_ck_checkHeader_2 a1 K Q n y1 I6 R6) Q x2 v2 I4 R4)))) ∧ (¬ v3 < 0 → (w_ck_tell (3 : Int32) v2 I3 R3 (fun I7 R7 => (j_ck_checkHeader_59 a1 (fun y2 I8 R8 => l_ck_checkHeader_2 a1 K Q n y2 I8 R8) Q x2 v2 I7 R7)))))))))))))
set_option maxHeartbeats 4000000 in
set_option maxRecDepth 100000 in
theorem L_ck_checkHeader_2 (d : Nat) {a1 : Nat} (ha1 : pSH[a1]? = some (0, 5)) {K : pI → pR → Prop} {Q : pI → pR → Prop} {E : pE} {B : pB} (g : pw_G m_ck_checkHeader (d + 2) 0 0 E B) (hF : pX (qv Q) E B) (hK : ∀ (I : pI) (R : pR), pw_Lay R → K  I R → PX E B m_ck_checkHeader.2.2.1 77 [none, none, none, none, none] [] I R) : ∀ (n : Nat) (x2 : Int32) (I : pI) (R : pR), pw_Lay R → l_ck_checkHeader_2 a1 K Q n x2 I R → PX E B m_ck_checkHeader.2.2.1 2 [some (.ref 2), some (.ref a1), some (.int x2), none, none] [] I R := by
  intro n
  induction n with
  | zero => intro x2 I R hL h; exact False.elim h
  | succ n ih =>
    intro x2 I R hL h
    refine PW.iload_n g rfl rfl d_ck_checkHeader_2 ?_
    refine PW.aload_n g rfl rfl d_ck_checkHeader_3 ?_
    refine PW.getI g fi_ck_50 ha1 d_ck_checkHeader_4 ?_
    refine PW.icmp_ge g 77 (by decide) d_ck_checkHeader_7 (fun c1 => ?_) (fun c1 => ?_)
    · have h := h.1 c1
      refine PX.sub [none, none, none, none, none] trivial ?_
      exact hK _ _ hL h
    · have h := h.2 c1
      refine PW.aload_n g rfl rfl d_ck_checkHeader_10 ?_
      refine PW.getR (q := (a1 + 25)) g fi_ck_52 ha1 (hL a1 5 6 ha1 (by decide)) d_ck_checkHeader_11 ?_
      refine PW.iload_n g rfl rfl d_ck_checkHeader_14 ?_
      refine PX.cSi [.ref (a1 + 25), .int x2] [] g (c_sr_pick d (pw_shp ha1 6 (by decide)) hL h) cl_ck_55 (by omega) (by decide) rfl rfl (Nat.le_of_ble_eq_true rfl) d_ck_checkHeader_15 (fun v1 I1 R1 hL h => ?_)
      refine PW.istore_n g rfl (L' := [some (.ref 2), some (.ref a1), some (.int x2), some (.int v1), none]) (by decide) rfl rfl d_ck_checkHeader_18 ?_
      refine PW.aload_n g rfl rfl d_ck_checkHeader_19 ?_
      refine PW.getR (q := (a1 + 26)) g fi_ck_59 ha1 (hL a1 5 7 ha1 (by decide)) d_ck_checkHeader_20 ?_
      refine PW.iload_n g rfl rfl d_ck_checkHeader_23 ?_
      refine PX.cSi [.ref (a1 + 26), .int x2] [] g (c_sr_pick d (pw_shp ha1 7 (by decide)) hL h) cl_ck_55 (by omega) (by decide) rfl rfl (Nat.le_of_ble_eq_true rfl) d_ck_checkHeader_24 (fun v2 I2 R2 hL h => ?_)
      refine PW.istore g (L' := [some (.ref 2), some (.ref a1), some (.int x2), some (.int v1), some (.int v2)]) (by decide) rfl rfl d_ck_checkHeader_27 ?_
      refine PW.aload_n g rfl rfl d_ck_checkHeader_29 ?_
      refine PW.getR (q := 3) g fi_ck_9 rfl (hL 2 1 0 rfl (by decide)) d_ck_checkHeader_30 ?_
      refine PW.iload_n g rfl rfl d_ck_checkHeader_33 ?_
      refine PX.cSi [.ref 3, .int v1] [] g (c_sr_pick d rfl hL h) cl_ck_55 (by omega) (by decide) rfl rfl (Nat.le_of_ble_eq_true rfl) d_ck_checkHeader_34 (fun v3 I3 R3 hL h => ?_)
      refine PW.if_lt g 50 (by decide) d_ck_checkHeader_37 (fun c2 => ?_) (fun c2 => ?_)
      · have h := h.1 c2
        refine PW.aload_n g rfl rfl d_ck_checkHeader_50 ?_
        refine PW.getR (q := 3) g fi_ck_9 rfl (hL 2 1 0 rfl (by decide)) d_ck_checkHeader_51 ?_
        refine PW.iload_n g rfl rfl d_ck_checkHeader_54 ?_
        refine PW.iload_n g rfl rfl d_ck_checkHeader_55 ?_
        refine PX.cSv [.ref 3, .int v1, .int x2] [] g (c_sr_put d rfl hL h) cl_ck_66 (by omega) (by decide) rfl rfl (Nat.le_of_ble_eq_true rfl) d_ck_checkHeader_56 (fun I4 R4 hL h => ?_)
        refine PX.sub [some (.ref 2), some (.ref a1), some (.int x2), none, some (.int v2)] ⟨rfl, ⟨rfl, ⟨rfl, ⟨rfl, trivial⟩⟩⟩⟩ ?_
        refine J_ck_checkHeader_59 d ha1 g hF (fun y1 I6 R6 hL h => ?_) hL h
        refine PX.sub [some (.ref 2), some (.ref a1), some (.int y1), none, none] ⟨rfl, ⟨rfl, ⟨rfl, trivial⟩⟩⟩ ?_
        exact ih _ _ _ hL h
      · have h := h.2 c2
        refine PW.aload_n g rfl rfl d_ck_checkHeader_40 ?_
        refine PW.iconst g (3) (by decide) d_ck_checkHeader_41 ?_
        refine PW.iload g rfl d_ck_checkHeader_42 ?_
        refine PX.cVv [.int (3 : Int32), .int v2] [] g rfl ck_ck (c_ck_tell d  hL h) cl_ck_62 (by omega) (by decide) rfl rfl (Nat.le_of_ble_eq_true rfl) d_ck_checkHeader_44 (fun I7 R7 hL h => ?_)
        refine PW.goto g 59 (by decide) d_ck_checkHeader_47 ?_
        refine PX.sub [some (.ref 2), some (.ref a1), some (.int x2), none, some (.int v2)] ⟨rfl, ⟨rfl, ⟨rfl, ⟨rfl, trivial⟩⟩⟩⟩ ?_
        refine J_ck_checkHeader_59 d ha1 g hF (fun y2 I8 R8 hL h => ?_) hL h
        refine PX.sub [some (.ref 2), some (.ref a1), some (.int y2), none, none] ⟨rfl, ⟨rfl, ⟨rfl, trivial⟩⟩⟩ ?_
        exact ih _ _ _ hL h
def w_ck_checkHeader (a1 : Nat) (I : pI) (R : pR) (Q : pI → pR → Prop) : Prop := (∃ n1, l_ck_checkHeader_2 a1 (fun I9 R9 => Q I9 R9) Q n1 (0 : Int32) I R)
set_option maxHeartbeats 4000000 in
set_option maxRecDepth 100000 in
theorem c_ck_checkHeader (d : Nat) {a1 : Nat} (ha1 : pSH[a1]? = some (0, 5)) {I : pI} {R : pR} {Q : pI → pR → Prop} (hL : pw_Lay R) (h : w_ck_checkHeader a1 I R Q) : Cm (d + 2) m_ck_checkHeader [.ref 2, .ref a1] I R (qv Q) := by
  refine Cm.of [some (.ref 2), some (.ref a1), none, none, none] (by decide) rfl (Nat.le_of_ble_eq_true rfl) (by simp) (fun E B g hF => ?_)
  unfold w_ck_checkHeader at h
  refine PW.iconst g (0) (by decide) d_ck_checkHeader_0 ?_
  refine PW.istore_n g rfl (L' := [some (.ref 2), some (.ref a1), some (.int (0 : Int32)), none, none]) (by decide) rfl rfl d_ck_checkHeader_1 ?_
  refine PX.sub [some (.ref 2), some (.ref a1), some (.int (0 : Int32)), none, none] ⟨rfl, ⟨rfl, ⟨rfl, trivial⟩⟩⟩ ?_
  obtain ⟨n1, h⟩ := h
  refine L_ck_checkHeader_2 d ha1 g hF (fun I9 R9 hL h => ?_) n1 (0 : Int32) I R hL h
  exact PX.vret g hF rfl d_ck_checkHeader_77 hL h
def w_ck_isLeftOf (a1 : Int32) (a2 : Int32) (I : pI) (R : pR) (Q : Int32 → pI → pR → Prop) : Prop := (w_sr_pick 3 26 a1 I R (fun v1 I1 R1 => ((v1 < 0 → Q (0 : Int32) I1 R1) ∧ (¬ v1 < 0 → (w_sr_pick 3 26 a1 I1 R1 (fun v2 I2 R2 => ((a2 ≤ v2 → Q (0 : Int32) I2 R2) ∧ (¬ a2 ≤ v2 → Q (1 : Int32) I2 R2))))))))
set_option maxHeartbeats 4000000 in
set_option maxRecDepth 100000 in
theorem c_ck_isLeftOf (d : Nat) {a1 : Int32} {a2 : Int32} {I : pI} {R : pR} {Q : Int32 → pI → pR → Prop} (hL : pw_Lay R) (h : w_ck_isLeftOf a1 a2 I R Q) : Cm (d + 2) m_ck_isLeftOf [.ref 2, .int a1, .int a2] I R (qz Q) := by
  refine Cm.of [some (.ref 2), some (.int a1), some (.int a2)] (by decide) rfl (Nat.le_of_ble_eq_true rfl) (by simp) (fun E B g hF => ?_)
  unfold w_ck_isLeftOf at h
  refine PW.aload_n g rfl rfl d_ck_isLeftOf_0 ?_
  refine PW.getR (q := 3) g fi_ck_9 rfl (hL 2 1 0 rfl (by decide)) d_ck_isLeftOf_1 ?_
  refine PW.iload_n g rfl rfl d_ck_isLeftOf_4 ?_
  refine PX.cSi [.ref 3, .int a1] [] g (c_sr_pick d rfl hL h) cl_ck_55 (by omega) (by decide) rfl rfl (Nat.le_of_ble_eq_true rfl) d_ck_isLeftOf_5 (fun v1 I1 R1 hL h => ?_)
  refine PW.if_lt g 27 (by decide) d_ck_isLeftOf_8 (fun c1 => ?_) (fun c1 => ?_)
  · have h := h.1 c1
    refine PW.iconst g (0) (by decide) d_ck_isLeftOf_27 ?_
    exact PX.zret g hF rfl (Or.inl rfl) d_ck_isLeftOf_28 hL h
  · have h := h.2 c1
    refine PW.aload_n g rfl rfl d_ck_isLeftOf_11 ?_
    refine PW.getR (q := 3) g fi_ck_9 rfl (hL 2 1 0 rfl (by decide)) d_ck_isLeftOf_12 ?_
    refine PW.iload_n g rfl rfl d_ck_isLeftOf_15 ?_
    refine PX.cSi [.ref 3, .int a1] [] g (c_sr_pick d rfl hL h) cl_ck_55 (by omega) (by decide) rfl rfl (Nat.le_of_ble_eq_true rfl) d_ck_isLeftOf_16 (fun v2 I2 R2 hL h => ?_)
    refine PW.iload_n g rfl rfl d_ck_isLeftOf_19 ?_
    refine PW.icmp_ge g 27 (by decide) d_ck_isLeftOf_20 (fun c2 => ?_) (fun c2 => ?_)
    · have h := h.1 c2
      refine PW.iconst g (0) (by decide) d_ck_isLeftOf_27 ?_
      exact PX.zret g hF rfl (Or.inl rfl) d_ck_isLeftOf_28 hL h
    · have h := h.2 c2
      refine PW.iconst g (1) (by decide) d_ck_isLeftOf_23 ?_
      refine PW.goto g 28 (by decide) d_ck_isLeftOf_24 ?_
      exact PX.zret g hF rfl (Or.inr rfl) d_ck_isLeftOf_28 hL h
def w_ck_isKnown (a1 : Int32) (I : pI) (R : pR) (Q : Int32 → pI → pR → Prop) : Prop := (w_sr_pick 3 26 a1 I R (fun v1 I1 R1 => ((0 ≤ v1 → Q (1 : Int32) I1 R1) ∧ (¬ 0 ≤ v1 → (w_sr_pick 4 26 a1 I1 R1 (fun v2 I2 R2 => ((v2 = 0 → Q (0 : Int32) I2 R2) ∧ (¬ v2 = 0 → Q (1 : Int32) I2 R2))))))))
set_option maxHeartbeats 4000000 in
set_option maxRecDepth 100000 in
theorem c_ck_isKnown (d : Nat) {a1 : Int32} {I : pI} {R : pR} {Q : Int32 → pI → pR → Prop} (hL : pw_Lay R) (h : w_ck_isKnown a1 I R Q) : Cm (d + 2) m_ck_isKnown [.ref 2, .int a1] I R (qz Q) := by
  refine Cm.of [some (.ref 2), some (.int a1)] (by decide) rfl (Nat.le_of_ble_eq_true rfl) (by simp) (fun E B g hF => ?_)
  unfold w_ck_isKnown at h
  refine PW.aload_n g rfl rfl d_ck_isKnown_0 ?_
  refine PW.getR (q := 3) g fi_ck_9 rfl (hL 2 1 0 rfl (by decide)) d_ck_isKnown_1 ?_
  refine PW.iload_n g rfl rfl d_ck_isKnown_4 ?_
  refine PX.cSi [.ref 3, .int a1] [] g (c_sr_pick d rfl hL h) cl_ck_55 (by omega) (by decide) rfl rfl (Nat.le_of_ble_eq_true rfl) d_ck_isKnown_5 (fun v1 I1 R1 hL h => ?_)
  refine PW.if_ge g 22 (by decide) d_ck_isKnown_8 (fun c1 => ?_) (fun c1 => ?_)
  · have h := h.1 c1
    refine PW.iconst g (1) (by decide) d_ck_isKnown_22 ?_
    refine PW.goto g 27 (by decide) d_ck_isKnown_23 ?_
    exact PX.zret g hF rfl (Or.inr rfl) d_ck_isKnown_27 hL h
  · have h := h.2 c1
    refine PW.aload_n g rfl rfl d_ck_isKnown_11 ?_
    refine PW.getR (q := 4) g fi_ck_15 rfl (hL 2 1 1 rfl (by decide)) d_ck_isKnown_12 ?_
    refine PW.iload_n g rfl rfl d_ck_isKnown_15 ?_
    refine PX.cSi [.ref 4, .int a1] [] g (c_sr_pick d rfl hL h) cl_ck_55 (by omega) (by decide) rfl rfl (Nat.le_of_ble_eq_true rfl) d_ck_isKnown_16 (fun v2 I2 R2 hL h => ?_)
    refine PW.if_eq g 26 (by decide) d_ck_isKnown_19 (fun c2 => ?_) (fun c2 => ?_)
    · have h := h.1 c2
      refine PW.iconst g (0) (by decide) d_ck_isKnown_26 ?_
      exact PX.zret g hF rfl (Or.inl rfl) d_ck_isKnown_27 hL h
    · have h := h.2 c2
      refine PW.iconst g (1) (by decide) d_ck_isKnown_22 ?_
      refine PW.goto g 27 (by decide) d_ck_isKnown_23 ?_
      exact PX.zret g hF rfl (Or.inr rfl) d_ck_isKnown_27 hL h
def j_ck_checkStatement_132 (a1 : Nat) (K87 : Int32 → pI → pR → Prop) (Q : pI → pR → Prop) (f2 : Int32) (f4 : Int32) (f5 : Int32) (f6 : Int32) (x7 : Int32) (s0 : Int32) (I : pI) (R : pR) : Prop := (w_sr_pick (a1 + 3) 120 x7 I R (fun v7 I7 R7 => ((¬ v7 = (1 : Int32) → K87 (x7 + 1) I7 R7) ∧ (v7 = (1 : Int32) → ((¬ s0 = 0 → K87 (x7 + 1) I7 R7) ∧ (s0 = 0 → (w_sr_pick (a1 + 6) 120 x7 I7 R7 (fun v8 I8 R8 => (w_ck_tell (2 : Int32) v8 I8 R8 (fun I9 R9 => K87 (x7 + 1) I9 R9))))))))))
set_option maxHeartbeats 4000000 in
set_option maxRecDepth 100000 in
theorem J_ck_checkStatement_132 (d : Nat) {a1 : Nat} (ha1 : pSH[a1]? = some (0, 5)) {K87 : Int32 → pI → pR → Prop} {Q : pI → pR → Prop} {f2 : Int32} {f4 : Int32} {f5 : Int32} {f6 : Int32} {x7 : Int32} {s0 : Int32} {E : pE} {B : pB} (g : pw_G m_ck_checkStatement (d + 3) 0 0 E B) (hF : pX (qv Q) E B) (hK87 : ∀ (y7 : Int32) (I : pI) (R : pR), pw_Lay R → K87 y7 I R → PX E B m_ck_checkStatement.2.2.1 87 [some (.ref 2), some (.ref a1), some (.int f2), some (.ref (a1 + 7)), some (.int f4), some (.int f5), some (.int f6), some (.int y7), none, none] [] I R) {I : pI} {R : pR} (hL : pw_Lay R) (h : j_ck_checkStatement_132 a1 K87 Q f2 f4 f5 f6 x7 s0 I R) : PX E B m_ck_checkStatement.2.2.1 132 [some (.ref 2), some (.ref a1), some (.int f2), some (.ref (a1 + 7)), some (.int f4), some (.int f5), some (.int f6), some (.int x7), none, none] [.int s0] I R := by
  unfold j_ck_checkStatement_132 at h
  refine PW.istore g (L' := [some (.ref 2), some (.ref a1), some (.int f2), some (.ref (a1 + 7)), some (.int f4), some (.int f5), some (.int f6), some (.int x7), none, some (.int s0)]) (by decide) rfl rfl d_ck_checkStatement_132 ?_
  refine PW.aload_n g rfl rfl d_ck_checkStatement_134 ?_
  refine PW.getR (q := (a1 + 2)) g fi_ck_98 ha1 (hL a1 5 1 ha1 (by decide)) d_ck_checkStatement_135 ?_
  refine PW.getR (q := (a1 + 3)) g fi_ck_113 (pw_shp ha1 1 (by decide)) (hL (a1 + 2) 2 0 (pw_shp ha1 1 (by decide)) (by decide)) d_ck_checkStatement_138 ?_
  refine PW.iload g rfl d_ck_checkStatement_141 ?_
  refine PX.cSi [.ref (a1 + 3), .int x7] [] g (c_sr_pick d (pw_shp (pw_shp ha1 1 (by decide)) 0 (by decide)) hL h) cl_ck_55 (by omega) (by decide) rfl rfl (Nat.le_of_ble_eq_true rfl) d_ck_checkStatement_143 (fun v7 I7 R7 hL h => ?_)
  refine PW.iconst g (1) (by decide) d_ck_checkStatement_146 ?_
  refine PW.icmp_ne g 172 (by decide) d_ck_checkStatement_147 (fun c4 => ?_) (fun c4 => ?_)
  · have h := h.1 c4
    refine PW.iinc g rfl (show x7 + Int32.ofInt (1) = (x7 + 1) from congrArg (HAdd.hAdd x7) (by decide)) (by decide) rfl (L' := [some (.ref 2), some (.ref a1), some (.int f2), some (.ref (a1 + 7)), some (.int f4), some (.int f5), some (.int f6), some (.int (x7 + 1)), none, some (.int s0)]) rfl d_ck_checkStatement_172 ?_
    refine PW.goto g 87 (by decide) d_ck_checkStatement_175 ?_
    refine PX.sub [some (.ref 2), some (.ref a1), some (.int f2), some (.ref (a1 + 7)), some (.int f4), some (.int f5), some (.int f6), some (.int (x7 + 1)), none, none] ⟨rfl, ⟨rfl, ⟨rfl, ⟨rfl, ⟨rfl, ⟨rfl, ⟨rfl, ⟨rfl, trivial⟩⟩⟩⟩⟩⟩⟩⟩ ?_
    exact hK87 _ _ _ hL h
  · have h := h.2 c4
    refine PW.iload g rfl d_ck_checkStatement_150 ?_
    refine PW.if_ne g 172 (by decide) d_ck_checkStatement_152 (fun c5 => ?_) (fun c5 => ?_)
    · have h := h.1 c5
      refine PW.iinc g rfl (show x7 + Int32.ofInt (1) = (x7 + 1) from congrArg (HAdd.hAdd x7) (by decide)) (by decide) rfl (L' := [some (.ref 2), some (.ref a1), some (.int f2), some (.ref (a1 + 7)), some (.int f4), some (.int f5), some (.int f6), some (.int (x7 + 1)), none, some (.int s0)]) rfl d_ck_checkStatement_172 ?_
      refine PW.goto g 87 (by decide) d_ck_checkStatement_175 ?_
      refine PX.sub [some (.ref 2), some (.ref a1), some (.int f2), some (.ref (a1 + 7)), some (.int f4), some (.int f5), some (.int f6), some (.int (x7 + 1)), none, none] ⟨rfl, ⟨rfl, ⟨rfl, ⟨rfl, ⟨rfl, ⟨rfl, ⟨rfl, ⟨rfl, trivial⟩⟩⟩⟩⟩⟩⟩⟩ ?_
      exact hK87 _ _ _ hL h
    · have h := h.2 c5
      refine PW.aload_n g rfl rfl d_ck_checkStatement_155 ?_
      refine PW.iconst g (2) (by decide) d_ck_checkStatement_156 ?_
      refine PW.aload_n g rfl rfl d_ck_checkStatement_157 ?_
      refine PW.getR (q := (a1 + 2)) g fi_ck_98 ha1 (hL a1 5 1 ha1 (by decide)) d_ck_checkStatement_158 ?_
      refine PW.getR (q := (a1 + 6)) g fi_ck_116 (pw_shp ha1 1 (by decide)) (hL (a1 + 2) 2 3 (pw_shp ha1 1 (by decide)) (by decide)) d_ck_checkStatement_161 ?_
      refine PW.iload g rfl d_ck_checkStatement_164 ?_
      refine PX.cSi [.ref (a1 + 6), .int x7] [.int (2 : Int32), .ref 2] g (c_sr_pick d (pw_shp (pw_shp ha1 1 (by decide)) 3 (by decide)) hL h) cl_ck_55 (by omega) (by decide) rfl rfl (Nat.le_of_ble_eq_true rfl) d_ck_checkStatement_166 (fun v8 I8 R8 hL h => ?_)
      refine PX.cVv [.int (2 : Int32), .int v8] [] g rfl ck_ck (c_ck_tell d  hL h) cl_ck_62 (by omega) (by decide) rfl rfl (Nat.le_of_ble_eq_true rfl) d_ck_checkStatement_169 (fun I9 R9 hL h => ?_)
      refine PW.iinc g rfl (show x7 + Int32.ofInt (1) = (x7 + 1) from congrArg (HAdd.hAdd x7) (by decide)) (by decide) rfl (L' := [some (.ref 2), some (.ref a1), some (.int f2), some (.ref (a1 + 7)), some (.int f4), some (.int f5), some (.int f6), some (.int (x7 + 1)), none, some (.int s0)]) rfl d_ck_checkStatement_172 ?_
      refine PW.goto g 87 (by decide) d_ck_checkStatement_175 ?_
      refine PX.sub [some (.ref 2), some (.ref a1), some (.int f2), some (.ref (a1 + 7)), some (.int f4), some (.int f5), some (.int f6), some (.int (x7 + 1)), none, none] ⟨rfl, ⟨rfl, ⟨rfl, ⟨rfl, ⟨rfl, ⟨rfl, ⟨rfl, ⟨rfl, trivial⟩⟩⟩⟩⟩⟩⟩⟩ ?_
      exact hK87 _ _ _ hL h
def l_ck_checkStatement_87 (a1 : Nat) (f2 : Int32) (f4 : Int32) (f5 : Int32) (f6 : Int32) (K : pI → pR → Prop) (Q : pI → pR → Prop) : Nat → Int32 → pI → pR → Prop
  | 0, _, _, _ => False
  | n + 1, x7, I, R => ((f6 ≤ x7 → K I R) ∧ (¬ f6 ≤ x7 → (w_sr_pick (a1 + 4) 120 x7 I R (fun v5 I5 R5 => ((¬ f4 = (8 : Int32) → (w_ck_isKnown v5 I5 R5 (fun v6 I6 R6 => (j_ck_checkStatement_132 a1 (fun y1 I10 R10 => l_ck_checkStatement_87 a1 f2 f4 f5 f6 K Q n y1 I10 R10) Q f2 f4 f5 f6 x7 v6 I6 R6)))) ∧ (f4 = (8 : Int32) → (w_ck_isLeftOf v5 f5 I5 R5 (fun v10 I11 R11 => (j_ck_checkStatement_132 a1 (fun y2 I12 R12 => l_ck_checkStatement_87 a1 f2 f4 f5 f6 K Q n y2 I12 R12) Q f2 f4 f5 f6 x7 v10 I11 R11)))))))))
set_option maxHeartbeats 4000000 in
set_option maxRecDepth 100000 in
theorem L_ck_checkStatement_87 (d : Nat) {a1 : Nat} (ha1 : pSH[a1]? = some (0, 5)) {f2 : Int32} {f4 : Int32} {f5 : Int32} {f6 : Int32} {K : pI → pR → Prop} {Q : pI → pR → Prop} {E : pE} {B : pB} (g : pw_G m_ck_checkStatement (d + 3) 0 0 E B) (hF : pX (qv Q) E B) (hK : ∀ (I : pI) (R : pR), pw_Lay R → K  I R → PX E B m_ck_checkStatement.2.2.1 178 [some (.ref 2), none, some (.int f2), some (.ref (a1 + 7)), some (.int f4), some (.int f5), none, none, none, none] [] I R) : ∀ (n : Nat) (x7 : Int32) (I : pI) (R : pR), pw_Lay R → l_ck_checkStatement_87 a1 f2 f4 f5 f6 K Q n x7 I R → PX E B m_ck_checkStatement.2.2.1 87 [some (.ref 2), some (.ref a1), some (.int f2), some (.ref (a1 + 7)), some (.int f4), some (.int f5), some (.int f6), some (.int x7), none, none] [] I R := by
  intro n
  induction n with
  | zero => intro x7 I R hL h; exact False.elim h
  | succ n ih =>
    intro x7 I R hL h
    refine PW.iload g rfl d_ck_checkStatement_87 ?_
    refine PW.iload g rfl d_ck_checkStatement_89 ?_
    refine PW.icmp_ge g 178 (by decide) d_ck_checkStatement_91 (fun c2 => ?_) (fun c2 => ?_)
    · have h := h.1 c2
      refine PX.sub [some (.ref 2), none, some (.int f2), some (.ref (a1 + 7)), some (.int f4), some (.int f5), none, none, none, none] ⟨rfl, ⟨rfl, ⟨rfl, ⟨rfl, ⟨rfl, trivial⟩⟩⟩⟩⟩ ?_
      exact hK _ _ hL h
    · have h := h.2 c2
      refine PW.aload_n g rfl rfl d_ck_checkStatement_94 ?_
      refine PW.getR (q := (a1 + 2)) g fi_ck_98 ha1 (hL a1 5 1 ha1 (by decide)) d_ck_checkStatement_95 ?_
      refine PW.getR (q := (a1 + 4)) g fi_ck_102 (pw_shp ha1 1 (by decide)) (hL (a1 + 2) 2 1 (pw_shp ha1 1 (by decide)) (by decide)) d_ck_checkStatement_98 ?_
      refine PW.iload g rfl d_ck_checkStatement_101 ?_
      refine PX.cSi [.ref (a1 + 4), .int x7] [] g (c_sr_pick d (pw_shp (pw_shp ha1 1 (by decide)) 1 (by decide)) hL h) cl_ck_55 (by omega) (by decide) rfl rfl (Nat.le_of_ble_eq_true rfl) d_ck_checkStatement_103 (fun v5 I5 R5 hL h => ?_)
      refine PW.istore g (L' := [some (.ref 2), some (.ref a1), some (.int f2), some (.ref (a1 + 7)), some (.int f4), some (.int f5), some (.int f6), some (.int x7), some (.int v5), none]) (by decide) rfl rfl d_ck_checkStatement_106 ?_
      refine PW.iload g rfl d_ck_checkStatement_108 ?_
      refine PW.bipush g (8) (by decide) d_ck_checkStatement_110 ?_
      refine PW.icmp_ne g 126 (by decide) d_ck_checkStatement_112 (fun c3 => ?_) (fun c3 => ?_)
      · have h := h.1 c3
        refine PW.aload_n g rfl rfl d_ck_checkStatement_126 ?_
        refine PW.iload g rfl d_ck_checkStatement_127 ?_
        refine PX.cVz [.int v5] [] g rfl ck_ck (c_ck_isKnown d  hL h) cl_ck_109 (by omega) (by decide) rfl rfl (Nat.le_of_ble_eq_true rfl) d_ck_checkStatement_129 (fun v6 I6 R6 hL hzv6 h => ?_)
        refine PX.sub [some (.ref 2), some (.ref a1), some (.int f2), some (.ref (a1 + 7)), some (.int f4), some (.int f5), some (.int f6), some (.int x7), none, none] ⟨rfl, ⟨rfl, ⟨rfl, ⟨rfl, ⟨rfl, ⟨rfl, ⟨rfl, ⟨rfl, trivial⟩⟩⟩⟩⟩⟩⟩⟩ ?_
        refine J_ck_checkStatement_132 d ha1 g hF (fun y1 I10 R10 hL h => ?_) hL h
        refine PX.sub [some (.ref 2), some (.ref a1), some (.int f2), some (.ref (a1 + 7)), some (.int f4), some (.int f5), some (.int f6), some (.int y1), none, none] ⟨rfl, ⟨rfl, ⟨rfl, ⟨rfl, ⟨rfl, ⟨rfl, ⟨rfl, ⟨rfl, trivial⟩⟩⟩⟩⟩⟩⟩⟩ ?_
        exact ih _ _ _ hL h
      · have h := h.2 c3
        refine PW.aload_n g rfl rfl d_ck_checkStatement_115 ?_
        refine PW.iload g rfl d_ck_checkStatement_116 ?_
        refine PW.iload g rfl d_ck_checkStatement_118 ?_
        refine PX.cVz [.int v5, .int f5] [] g rfl ck_ck (c_ck_isLeftOf d  hL h) cl_ck_105 (by omega) (by decide) rfl rfl (Nat.le_of_ble_eq_true rfl) d_ck_checkStatement_120 (fun v10 I11 R11 hL hzv10 h => ?_)
        refine PW.goto g 132 (by decide) d_ck_checkStatement_123 ?_
        refine PX.sub [some (.ref 2), some (.ref a1), some (.int f2), some (.ref (a1 + 7)), some (.int f4), some (.int f5), some (.int f6), some (.int x7), none, none] ⟨rfl, ⟨rfl, ⟨rfl, ⟨rfl, ⟨rfl, ⟨rfl, ⟨rfl, ⟨rfl, trivial⟩⟩⟩⟩⟩⟩⟩⟩ ?_
        refine J_ck_checkStatement_132 d ha1 g hF (fun y2 I12 R12 hL h => ?_) hL h
        refine PX.sub [some (.ref 2), some (.ref a1), some (.int f2), some (.ref (a1 + 7)), some (.int f4), some (.int f5), some (.int f6), some (.int y2), none, none] ⟨rfl, ⟨rfl, ⟨rfl, ⟨rfl, ⟨rfl, ⟨rfl, ⟨rfl, ⟨rfl, trivial⟩⟩⟩⟩⟩⟩⟩⟩ ?_
        exact ih _ _ _ hL h
def w_ck_checkStatement (a1 : Nat) (a2 : Int32) (I : pI) (R : pR) (Q : pI → pR → Prop) : Prop := (w_st_kindOf (a1 + 7) a2 I R (fun v1 I1 R1 => (w_sr_pick (a1 + 13) 61 a2 I1 R1 (fun v2 I2 R2 => ((¬ v1 = (7 : Int32) → (w_sr_pick (a1 + 12) 61 a2 I2 R2 (fun v3 I3 R3 => (w_sr_pick (a1 + 11) 61 a2 I3 R3 (fun v4 I4 R4 => (∃ n1, l_ck_checkStatement_87 a1 a2 v1 v2 v3 (fun I13 R13 => (((2 : Int32) < v1 → Q I13 R13) ∧ (¬ (2 : Int32) < v1 → ((v2 < 0 → Q I13 R13) ∧ (¬ v2 < 0 → (w_sr_pick 3 26 v2 I13 R13 (fun v11 I14 R14 => ((v11 < 0 → (w_sr_put 4 26 v2 (1 : Int32) I14 R14 (fun I15 R15 => Q I15 R15))) ∧ (¬ v11 < 0 → (w_st_placeOf (a1 + 7) a2 I14 R14 (fun v13 I16 R16 => (w_ck_tell (3 : Int32) v13 I16 R16 (fun I17 R17 => (w_sr_put 4 26 v2 (1 : Int32) I17 R17 (fun I18 R18 => Q I18 R18))))))))))))))) Q n1 v4 I4 R4)))))) ∧ (v1 = (7 : Int32) → (w_sr_pick (a1 + 16) 22 v2 I2 R2 (fun v16 I19 R19 => (w_sr_pick (a1 + 15) 22 v2 I19 R19 (fun v17 I20 R20 => ((v17 ≤ v16 → Q I20 R20) ∧ (¬ v17 ≤ v16 → (w_st_placeOf (a1 + 7) a2 I20 R20 (fun v18 I21 R21 => (w_ck_tell (5 : Int32) v18 I21 R21 (fun I22 R22 => Q I22 R22))))))))))))))))
set_option maxHeartbeats 4000000 in
set_option maxRecDepth 100000 in
theorem c_ck_checkStatement (d : Nat) {a1 : Nat} (ha1 : pSH[a1]? = some (0, 5)) {a2 : Int32} {I : pI} {R : pR} {Q : pI → pR → Prop} (hL : pw_Lay R) (h : w_ck_checkStatement a1 a2 I R Q) : Cm (d + 3) m_ck_checkStatement [.ref 2, .ref a1, .int a2] I R (qv Q) := by
  refine Cm.of [some (.ref 2), some (.ref a1), some (.int a2), none, none, none, none, none, none, none] (by decide) rfl (Nat.le_of_ble_eq_true rfl) (by simp) (fun E B g hF => ?_)
  unfold w_ck_checkStatement at h
  refine PW.aload_n g rfl rfl d_ck_checkStatement_0 ?_
  refine PW.getR (q := (a1 + 7)) g fi_ck_29 ha1 (hL a1 5 2 ha1 (by decide)) d_ck_checkStatement_1 ?_
  refine PW.astore_n g rfl (L' := [some (.ref 2), some (.ref a1), some (.int a2), some (.ref (a1 + 7)), none, none, none, none, none, none]) (by decide) rfl rfl d_ck_checkStatement_4 ?_
  refine PW.aload_n g rfl rfl d_ck_checkStatement_5 ?_
  refine PW.iload_n g rfl rfl d_ck_checkStatement_6 ?_
  refine PX.cVi [.int a2] [] g (pw_shp ha1 2 (by decide)) ck_st (c_st_kindOf d (pw_shp ha1 2 (by decide)) hL h) cl_ck_70 (by omega) (by decide) rfl rfl (Nat.le_of_ble_eq_true rfl) d_ck_checkStatement_7 (fun v1 I1 R1 hL h => ?_)
  refine PW.istore g (L' := [some (.ref 2), some (.ref a1), some (.int a2), some (.ref (a1 + 7)), some (.int v1), none, none, none, none, none]) (by decide) rfl rfl d_ck_checkStatement_10 ?_
  refine PW.aload_n g rfl rfl d_ck_checkStatement_12 ?_
  refine PW.getR (q := (a1 + 13)) g fi_ck_74 (pw_shp ha1 2 (by decide)) (hL (a1 + 7) 10 5 (pw_shp ha1 2 (by decide)) (by decide)) d_ck_checkStatement_13 ?_
  refine PW.iload_n g rfl rfl d_ck_checkStatement_16 ?_
  refine PX.cSi [.ref (a1 + 13), .int a2] [] g (c_sr_pick d (pw_shp (pw_shp ha1 2 (by decide)) 5 (by decide)) hL h) cl_ck_55 (by omega) (by decide) rfl rfl (Nat.le_of_ble_eq_true rfl) d_ck_checkStatement_17 (fun v2 I2 R2 hL h => ?_)
  refine PW.istore g (L' := [some (.ref 2), some (.ref a1), some (.int a2), some (.ref (a1 + 7)), some (.int v1), some (.int v2), none, none, none, none]) (by decide) rfl rfl d_ck_checkStatement_20 ?_
  refine PW.iload g rfl d_ck_checkStatement_22 ?_
  refine PW.bipush g (7) (by decide) d_ck_checkStatement_24 ?_
  refine PW.icmp_ne g 67 (by decide) d_ck_checkStatement_26 (fun c1 => ?_) (fun c1 => ?_)
  · have h := h.1 c1
    refine PW.aload_n g rfl rfl d_ck_checkStatement_67 ?_
    refine PW.getR (q := (a1 + 12)) g fi_ck_92 (pw_shp ha1 2 (by decide)) (hL (a1 + 7) 10 4 (pw_shp ha1 2 (by decide)) (by decide)) d_ck_checkStatement_68 ?_
    refine PW.iload_n g rfl rfl d_ck_checkStatement_71 ?_
    refine PX.cSi [.ref (a1 + 12), .int a2] [] g (c_sr_pick d (pw_shp (pw_shp ha1 2 (by decide)) 4 (by decide)) hL h) cl_ck_55 (by omega) (by decide) rfl rfl (Nat.le_of_ble_eq_true rfl) d_ck_checkStatement_72 (fun v3 I3 R3 hL h => ?_)
    refine PW.istore g (L' := [some (.ref 2), some (.ref a1), some (.int a2), some (.ref (a1 + 7)), some (.int v1), some (.int v2), some (.int v3), none, none, none]) (by decide) rfl rfl d_ck_checkStatement_75 ?_
    refine PW.aload_n g rfl rfl d_ck_checkStatement_77 ?_
    refine PW.getR (q := (a1 + 11)) g fi_ck_95 (pw_shp ha1 2 (by decide)) (hL (a1 + 7) 10 3 (pw_shp ha1 2 (by decide)) (by decide)) d_ck_checkStatement_78 ?_
    refine PW.iload_n g rfl rfl d_ck_checkStatement_81 ?_
    refine PX.cSi [.ref (a1 + 11), .int a2] [] g (c_sr_pick d (pw_shp (pw_shp ha1 2 (by decide)) 3 (by decide)) hL h) cl_ck_55 (by omega) (by decide) rfl rfl (Nat.le_of_ble_eq_true rfl) d_ck_checkStatement_82 (fun v4 I4 R4 hL h => ?_)
    refine PW.istore g (L' := [some (.ref 2), some (.ref a1), some (.int a2), some (.ref (a1 + 7)), some (.int v1), some (.int v2), some (.int v3), some (.int v4), none, none]) (by decide) rfl rfl d_ck_checkStatement_85 ?_
    refine PX.sub [some (.ref 2), some (.ref a1), some (.int a2), some (.ref (a1 + 7)), some (.int v1), some (.int v2), some (.int v3), some (.int v4), none, none] ⟨rfl, ⟨rfl, ⟨rfl, ⟨rfl, ⟨rfl, ⟨rfl, ⟨rfl, ⟨rfl, trivial⟩⟩⟩⟩⟩⟩⟩⟩ ?_
    obtain ⟨n1, h⟩ := h
    refine L_ck_checkStatement_87 d ha1 g hF (fun I13 R13 hL h => ?_) n1 v4 I4 R4 hL h
    refine PW.iload g rfl d_ck_checkStatement_178 ?_
    refine PW.iconst g (2) (by decide) d_ck_checkStatement_180 ?_
    refine PW.icmp_gt g 221 (by decide) d_ck_checkStatement_181 (fun c6 => ?_) (fun c6 => ?_)
    · have h := h.1 c6
      exact PX.vret g hF rfl d_ck_checkStatement_221 hL h
    · have h := h.2 c6
      refine PW.iload g rfl d_ck_checkStatement_184 ?_
      refine PW.if_lt g 221 (by decide) d_ck_checkStatement_186 (fun c7 => ?_) (fun c7 => ?_)
      · have h := h.1 c7
        exact PX.vret g hF rfl d_ck_checkStatement_221 hL h
      · have h := h.2 c7
        refine PW.aload_n g rfl rfl d_ck_checkStatement_189 ?_
        refine PW.getR (q := 3) g fi_ck_9 rfl (hL 2 1 0 rfl (by decide)) d_ck_checkStatement_190 ?_
        refine PW.iload g rfl d_ck_checkStatement_193 ?_
        refine PX.cSi [.ref 3, .int v2] [] g (c_sr_pick d rfl hL h) cl_ck_55 (by omega) (by decide) rfl rfl (Nat.le_of_ble_eq_true rfl) d_ck_checkStatement_195 (fun v11 I14 R14 hL h => ?_)
        refine PW.if_lt g 211 (by decide) d_ck_checkStatement_198 (fun c8 => ?_) (fun c8 => ?_)
        · have h := h.1 c8
          refine PW.aload_n g rfl rfl d_ck_checkStatement_211 ?_
          refine PW.getR (q := 4) g fi_ck_15 rfl (hL 2 1 1 rfl (by decide)) d_ck_checkStatement_212 ?_
          refine PW.iload g rfl d_ck_checkStatement_215 ?_
          refine PW.iconst g (1) (by decide) d_ck_checkStatement_217 ?_
          refine PX.cSv [.ref 4, .int v2, .int (1 : Int32)] [] g (c_sr_put d rfl hL h) cl_ck_66 (by omega) (by decide) rfl rfl (Nat.le_of_ble_eq_true rfl) d_ck_checkStatement_218 (fun I15 R15 hL h => ?_)
          exact PX.vret g hF rfl d_ck_checkStatement_221 hL h
        · have h := h.2 c8
          refine PW.aload_n g rfl rfl d_ck_checkStatement_201 ?_
          refine PW.iconst g (3) (by decide) d_ck_checkStatement_202 ?_
          refine PW.aload_n g rfl rfl d_ck_checkStatement_203 ?_
          refine PW.iload_n g rfl rfl d_ck_checkStatement_204 ?_
          refine PX.cVi [.int a2] [.int (3 : Int32), .ref 2] g (pw_shp ha1 2 (by decide)) ck_st (c_st_placeOf d (pw_shp ha1 2 (by decide)) hL h) cl_ck_89 (by omega) (by decide) rfl rfl (Nat.le_of_ble_eq_true rfl) d_ck_checkStatement_205 (fun v13 I16 R16 hL h => ?_)
          refine PX.cVv [.int (3 : Int32), .int v13] [] g rfl ck_ck (c_ck_tell d  hL h) cl_ck_62 (by omega) (by decide) rfl rfl (Nat.le_of_ble_eq_true rfl) d_ck_checkStatement_208 (fun I17 R17 hL h => ?_)
          refine PW.aload_n g rfl rfl d_ck_checkStatement_211 ?_
          refine PW.getR (q := 4) g fi_ck_15 rfl (hL 2 1 1 rfl (by decide)) d_ck_checkStatement_212 ?_
          refine PW.iload g rfl d_ck_checkStatement_215 ?_
          refine PW.iconst g (1) (by decide) d_ck_checkStatement_217 ?_
          refine PX.cSv [.ref 4, .int v2, .int (1 : Int32)] [] g (c_sr_put d rfl hL h) cl_ck_66 (by omega) (by decide) rfl rfl (Nat.le_of_ble_eq_true rfl) d_ck_checkStatement_218 (fun I18 R18 hL h => ?_)
          exact PX.vret g hF rfl d_ck_checkStatement_221 hL h
  · have h := h.2 c1
    refine PW.aload_n g rfl rfl d_ck_checkStatement_29 ?_
    refine PW.getR (q := (a1 + 14)) g fi_ck_77 ha1 (hL a1 5 3 ha1 (by decide)) d_ck_checkStatement_30 ?_
    refine PW.getR (q := (a1 + 16)) g fi_ck_81 (pw_shp ha1 3 (by decide)) (hL (a1 + 14) 8 1 (pw_shp ha1 3 (by decide)) (by decide)) d_ck_checkStatement_33 ?_
    refine PW.iload g rfl d_ck_checkStatement_36 ?_
    refine PX.cSi [.ref (a1 + 16), .int v2] [] g (c_sr_pick d (pw_shp (pw_shp ha1 3 (by decide)) 1 (by decide)) hL h) cl_ck_55 (by omega) (by decide) rfl rfl (Nat.le_of_ble_eq_true rfl) d_ck_checkStatement_38 (fun v16 I19 R19 hL h => ?_)
    refine PW.aload_n g rfl rfl d_ck_checkStatement_41 ?_
    refine PW.getR (q := (a1 + 14)) g fi_ck_77 ha1 (hL a1 5 3 ha1 (by decide)) d_ck_checkStatement_42 ?_
    refine PW.getR (q := (a1 + 15)) g fi_ck_86 (pw_shp ha1 3 (by decide)) (hL (a1 + 14) 8 0 (pw_shp ha1 3 (by decide)) (by decide)) d_ck_checkStatement_45 ?_
    refine PW.iload g rfl d_ck_checkStatement_48 ?_
    refine PX.cSi [.ref (a1 + 15), .int v2] [.int v16] g (c_sr_pick d (pw_shp (pw_shp ha1 3 (by decide)) 0 (by decide)) hL h) cl_ck_55 (by omega) (by decide) rfl rfl (Nat.le_of_ble_eq_true rfl) d_ck_checkStatement_50 (fun v17 I20 R20 hL h => ?_)
    refine PW.icmp_ge g 66 (by decide) d_ck_checkStatement_53 (fun c9 => ?_) (fun c9 => ?_)
    · have h := h.1 c9
      exact PX.vret g hF rfl d_ck_checkStatement_66 hL h
    · have h := h.2 c9
      refine PW.aload_n g rfl rfl d_ck_checkStatement_56 ?_
      refine PW.iconst g (5) (by decide) d_ck_checkStatement_57 ?_
      refine PW.aload_n g rfl rfl d_ck_checkStatement_58 ?_
      refine PW.iload_n g rfl rfl d_ck_checkStatement_59 ?_
      refine PX.cVi [.int a2] [.int (5 : Int32), .ref 2] g (pw_shp ha1 2 (by decide)) ck_st (c_st_placeOf d (pw_shp ha1 2 (by decide)) hL h) cl_ck_89 (by omega) (by decide) rfl rfl (Nat.le_of_ble_eq_true rfl) d_ck_checkStatement_60 (fun v18 I21 R21 hL h => ?_)
      refine PX.cVv [.int (5 : Int32), .int v18] [] g rfl ck_ck (c_ck_tell d  hL h) cl_ck_62 (by omega) (by decide) rfl rfl (Nat.le_of_ble_eq_true rfl) d_ck_checkStatement_63 (fun I22 R22 hL h => ?_)
      exact PX.vret g hF rfl d_ck_checkStatement_66 hL h
def w_ft_rowEnd (t : Nat) (a1 : Int32) (I : pI) (R : pR) (Q : Int32 → pI → pR → Prop) : Prop := (((I t 9) ≤ (a1 + (1 : Int32)) → Q (I (t + 7) 6) I R) ∧ (¬ (I t 9) ≤ (a1 + (1 : Int32)) → (w_sr_pick (t + 24) 61 (a1 + (1 : Int32)) I R (fun v1 I1 R1 => Q v1 I1 R1))))
set_option maxHeartbeats 4000000 in
set_option maxRecDepth 100000 in
theorem c_ft_rowEnd (d : Nat) {t : Nat} (ht : pSH[t]? = some (0, 5)) {a1 : Int32} {I : pI} {R : pR} {Q : Int32 → pI → pR → Prop} (hL : pw_Lay R) (h : w_ft_rowEnd t a1 I R Q) : Cm (d + 2) m_ft_rowEnd [.ref t, .int a1] I R (qi Q) := by
  refine Cm.of [some (.ref t), some (.int a1)] (by decide) rfl (Nat.le_of_ble_eq_true rfl) (by simp) (fun E B g hF => ?_)
  unfold w_ft_rowEnd at h
  refine PW.iload_n g rfl rfl d_ft_rowEnd_0 ?_
  refine PW.iconst g (1) (by decide) d_ft_rowEnd_1 ?_
  refine PW.iadd g d_ft_rowEnd_2 ?_
  refine PW.aload_n g rfl rfl d_ft_rowEnd_3 ?_
  refine PW.getI g fi_ft_76 ht d_ft_rowEnd_4 ?_
  refine PW.icmp_ge g 23 (by decide) d_ft_rowEnd_7 (fun c1 => ?_) (fun c1 => ?_)
  · have h := h.1 c1
    refine PW.aload_n g rfl rfl d_ft_rowEnd_23 ?_
    refine PW.getR (q := (t + 7)) g fi_ft_25 ht (hL t 5 2 ht (by decide)) d_ft_rowEnd_24 ?_
    refine PW.getI g fi_ft_68 (pw_shp ht 2 (by decide)) d_ft_rowEnd_27 ?_
    exact PX.iret g hF rfl d_ft_rowEnd_30 hL h
  · have h := h.2 c1
    refine PW.aload_n g rfl rfl d_ft_rowEnd_10 ?_
    refine PW.getR (q := (t + 24)) g fi_ft_40 ht (hL t 5 5 ht (by decide)) d_ft_rowEnd_11 ?_
    refine PW.iload_n g rfl rfl d_ft_rowEnd_14 ?_
    refine PW.iconst g (1) (by decide) d_ft_rowEnd_15 ?_
    refine PW.iadd g d_ft_rowEnd_16 ?_
    refine PX.cSi [.ref (t + 24), .int (a1 + (1 : Int32))] [] g (c_sr_pick d (pw_shp ht 5 (by decide)) hL h) cl_ft_86 (by omega) (by decide) rfl rfl (Nat.le_of_ble_eq_true rfl) d_ft_rowEnd_17 (fun v1 I1 R1 hL h => ?_)
    refine PW.goto g 30 (by decide) d_ft_rowEnd_20 ?_
    exact PX.iret g hF rfl d_ft_rowEnd_30 hL h
def w_ck_checkRow (a1 : Nat) (a2 : Int32) (I : pI) (R : pR) (Q : pI → pR → Prop) : Prop := (w_sr_pick (a1 + 24) 61 a2 I R (fun v1 I1 R1 => (w_ft_rowEnd a1 a2 I1 R1 (fun v2 I2 R2 => ((¬ (v2 - v1) = (I2 a1 10) → (w_st_placeOf (a1 + 7) v1 I2 R2 (fun v3 I3 R3 => (w_ck_tell (4 : Int32) v3 I3 R3 (fun I4 R4 => Q I4 R4))))) ∧ ((v2 - v1) = (I2 a1 10) → ((¬ a2 = (6 : Int32) → Q I2 R2) ∧ (a2 = (6 : Int32) → (w_st_placeOf (a1 + 7) v1 I2 R2 (fun v5 I5 R5 => (w_ck_tell (4 : Int32) v5 I5 R5 (fun I6 R6 => Q I6 R6))))))))))))
set_option maxHeartbeats 4000000 in
set_option maxRecDepth 100000 in
theorem c_ck_checkRow (d : Nat) {a1 : Nat} (ha1 : pSH[a1]? = some (0, 5)) {a2 : Int32} {I : pI} {R : pR} {Q : pI → pR → Prop} (hL : pw_Lay R) (h : w_ck_checkRow a1 a2 I R Q) : Cm (d + 3) m_ck_checkRow [.ref 2, .ref a1, .int a2] I R (qv Q) := by
  refine Cm.of [some (.ref 2), some (.ref a1), some (.int a2), none] (by decide) rfl (Nat.le_of_ble_eq_true rfl) (by simp) (fun E B g hF => ?_)
  unfold w_ck_checkRow at h
  refine PW.aload_n g rfl rfl d_ck_checkRow_0 ?_
  refine PW.getR (q := (a1 + 24)) g fi_ck_119 ha1 (hL a1 5 5 ha1 (by decide)) d_ck_checkRow_1 ?_
  refine PW.iload_n g rfl rfl d_ck_checkRow_4 ?_
  refine PX.cSi [.ref (a1 + 24), .int a2] [] g (c_sr_pick d (pw_shp ha1 5 (by decide)) hL h) cl_ck_55 (by omega) (by decide) rfl rfl (Nat.le_of_ble_eq_true rfl) d_ck_checkRow_5 (fun v1 I1 R1 hL h => ?_)
  refine PW.istore_n g rfl (L' := [some (.ref 2), some (.ref a1), some (.int a2), some (.int v1)]) (by decide) rfl rfl d_ck_checkRow_8 ?_
  refine PW.aload_n g rfl rfl d_ck_checkRow_9 ?_
  refine PW.iload_n g rfl rfl d_ck_checkRow_10 ?_
  refine PX.cVi [.int a2] [] g ha1 ck_ft (c_ft_rowEnd d ha1 hL h) cl_ck_122 (by omega) (by decide) rfl rfl (Nat.le_of_ble_eq_true rfl) d_ck_checkRow_11 (fun v2 I2 R2 hL h => ?_)
  refine PW.iload_n g rfl rfl d_ck_checkRow_14 ?_
  refine PW.isub g d_ck_checkRow_15 ?_
  refine PW.aload_n g rfl rfl d_ck_checkRow_16 ?_
  refine PW.getI g fi_ck_50 ha1 d_ck_checkRow_17 ?_
  refine PW.icmp_ne g 29 (by decide) d_ck_checkRow_20 (fun c1 => ?_) (fun c1 => ?_)
  · have h := h.1 c1
    refine PW.aload_n g rfl rfl d_ck_checkRow_29 ?_
    refine PW.iconst g (4) (by decide) d_ck_checkRow_30 ?_
    refine PW.aload_n g rfl rfl d_ck_checkRow_31 ?_
    refine PW.getR (q := (a1 + 7)) g fi_ck_29 ha1 (hL a1 5 2 ha1 (by decide)) d_ck_checkRow_32 ?_
    refine PW.iload_n g rfl rfl d_ck_checkRow_35 ?_
    refine PX.cVi [.int v1] [.int (4 : Int32), .ref 2] g (pw_shp ha1 2 (by decide)) ck_st (c_st_placeOf d (pw_shp ha1 2 (by decide)) hL h) cl_ck_89 (by omega) (by decide) rfl rfl (Nat.le_of_ble_eq_true rfl) d_ck_checkRow_36 (fun v3 I3 R3 hL h => ?_)
    refine PX.cVv [.int (4 : Int32), .int v3] [] g rfl ck_ck (c_ck_tell d  hL h) cl_ck_62 (by omega) (by decide) rfl rfl (Nat.le_of_ble_eq_true rfl) d_ck_checkRow_39 (fun I4 R4 hL h => ?_)
    exact PX.vret g hF rfl d_ck_checkRow_42 hL h
  · have h := h.2 c1
    refine PW.iload_n g rfl rfl d_ck_checkRow_23 ?_
    refine PW.bipush g (6) (by decide) d_ck_checkRow_24 ?_
    refine PW.icmp_ne g 42 (by decide) d_ck_checkRow_26 (fun c2 => ?_) (fun c2 => ?_)
    · have h := h.1 c2
      exact PX.vret g hF rfl d_ck_checkRow_42 hL h
    · have h := h.2 c2
      refine PW.aload_n g rfl rfl d_ck_checkRow_29 ?_
      refine PW.iconst g (4) (by decide) d_ck_checkRow_30 ?_
      refine PW.aload_n g rfl rfl d_ck_checkRow_31 ?_
      refine PW.getR (q := (a1 + 7)) g fi_ck_29 ha1 (hL a1 5 2 ha1 (by decide)) d_ck_checkRow_32 ?_
      refine PW.iload_n g rfl rfl d_ck_checkRow_35 ?_
      refine PX.cVi [.int v1] [.int (4 : Int32), .ref 2] g (pw_shp ha1 2 (by decide)) ck_st (c_st_placeOf d (pw_shp ha1 2 (by decide)) hL h) cl_ck_89 (by omega) (by decide) rfl rfl (Nat.le_of_ble_eq_true rfl) d_ck_checkRow_36 (fun v5 I5 R5 hL h => ?_)
      refine PX.cVv [.int (4 : Int32), .int v5] [] g rfl ck_ck (c_ck_tell d  hL h) cl_ck_62 (by omega) (by decide) rfl rfl (Nat.le_of_ble_eq_true rfl) d_ck_checkRow_39 (fun I6 R6 hL h => ?_)
      exact PX.vret g hF rfl d_ck_checkRow_42 hL h
def l_ck_check_12 (a1 : Nat) (K : pI → pR → Prop) (Q : pI → pR → Prop) : Nat → Int32 → pI → pR → Prop
  | 0, _, _, _ => False
  | n + 1, x2, I, R => (((26 : Int32) ≤ x2 → K I R) ∧ (¬ (26 : Int32) ≤ x2 → (vp_in x2 26 ∧ ∀ I3, I3 = pw_wI I 3 x2.toNatClampNeg (-1 : Int32) → (vp_in x2 26 ∧ ∀ I4, I4 = pw_wI I3 4 x2.toNatClampNeg (0 : Int32) → l_ck_check_12 a1 K Q n (x2 + 1) I4 R))))
set_option maxHeartbeats 4000000 in
set_option maxRecDepth 100000 in
theorem L_ck_check_12 (d : Nat) {a1 : Nat} (ha1 : pSH[a1]? = some (0, 5)) {K : pI → pR → Prop} {Q : pI → pR → Prop} {E : pE} {B : pB} (g : pw_G m_ck_check (d + 4) 0 0 E B) (hF : pX (qv Q) E B) (hK : ∀ (I : pI) (R : pR), pw_Lay R → K  I R → PX E B m_ck_check.2.2.1 38 [some (.ref 2), some (.ref a1), none] [] I R) : ∀ (n : Nat) (x2 : Int32) (I : pI) (R : pR), pw_Lay R → l_ck_check_12 a1 K Q n x2 I R → PX E B m_ck_check.2.2.1 12 [some (.ref 2), some (.ref a1), some (.int x2)] [] I R := by
  intro n
  induction n with
  | zero => intro x2 I R hL h; exact False.elim h
  | succ n ih =>
    intro x2 I R hL h
    refine PW.iload_n g rfl rfl d_ck_check_12 ?_
    refine PW.bipush g (26) (by decide) d_ck_check_13 ?_
    refine PW.icmp_ge g 38 (by decide) d_ck_check_15 (fun c1 => ?_) (fun c1 => ?_)
    · have h := h.1 c1
      refine PX.sub [some (.ref 2), some (.ref a1), none] ⟨rfl, ⟨rfl, trivial⟩⟩ ?_
      exact hK _ _ hL h
    · have h := h.2 c1
      refine PW.aload_n g rfl rfl d_ck_check_18 ?_
      refine PW.getR (q := 3) g fi_ck_9 rfl (hL 2 1 0 rfl (by decide)) d_ck_check_19 ?_
      refine PW.iload_n g rfl rfl d_ck_check_22 ?_
      refine PW.iconst g (-1) (by decide) d_ck_check_23 ?_
      refine PW.iast g rfl h.1 d_ck_check_24 ?_
      refine PX.gI (fun I3 eI3 => ?_)
      have h := h.2 _ eI3
      refine PW.aload_n g rfl rfl d_ck_check_25 ?_
      refine PW.getR (q := 4) g fi_ck_15 rfl (hL 2 1 1 rfl (by decide)) d_ck_check_26 ?_
      refine PW.iload_n g rfl rfl d_ck_check_29 ?_
      refine PW.iconst g (0) (by decide) d_ck_check_30 ?_
      refine PW.iast g rfl h.1 d_ck_check_31 ?_
      refine PX.gI (fun I4 eI4 => ?_)
      have h := h.2 _ eI4
      refine PW.iinc g rfl (show x2 + Int32.ofInt (1) = (x2 + 1) from congrArg (HAdd.hAdd x2) (by decide)) (by decide) rfl (L' := [some (.ref 2), some (.ref a1), some (.int (x2 + 1))]) rfl d_ck_check_32 ?_
      refine PW.goto g 12 (by decide) d_ck_check_35 ?_
      refine PX.sub [some (.ref 2), some (.ref a1), some (.int (x2 + 1))] ⟨rfl, ⟨rfl, ⟨rfl, trivial⟩⟩⟩ ?_
      exact ih _ _ _ hL h
def l_ck_check_45 (a1 : Nat) (K : pI → pR → Prop) (Q : pI → pR → Prop) : Nat → Int32 → pI → pR → Prop
  | 0, _, _, _ => False
  | n + 1, x2, I, R => (((I (a1 + 7) 6) ≤ x2 → K I R) ∧ (¬ (I (a1 + 7) 6) ≤ x2 → (w_ck_checkStatement a1 x2 I R (fun I7 R3 => l_ck_check_45 a1 K Q n (x2 + 1) I7 R3))))
set_option maxHeartbeats 4000000 in
set_option maxRecDepth 100000 in
theorem L_ck_check_45 (d : Nat) {a1 : Nat} (ha1 : pSH[a1]? = some (0, 5)) {K : pI → pR → Prop} {Q : pI → pR → Prop} {E : pE} {B : pB} (g : pw_G m_ck_check (d + 4) 0 0 E B) (hF : pX (qv Q) E B) (hK : ∀ (I : pI) (R : pR), pw_Lay R → K  I R → PX E B m_ck_check.2.2.1 68 [some (.ref 2), some (.ref a1), none] [] I R) : ∀ (n : Nat) (x2 : Int32) (I : pI) (R : pR), pw_Lay R → l_ck_check_45 a1 K Q n x2 I R → PX E B m_ck_check.2.2.1 45 [some (.ref 2), some (.ref a1), some (.int x2)] [] I R := by
  intro n
  induction n with
  | zero => intro x2 I R hL h; exact False.elim h
  | succ n ih =>
    intro x2 I R hL h
    refine PW.iload_n g rfl rfl d_ck_check_45 ?_
    refine PW.aload_n g rfl rfl d_ck_check_46 ?_
    refine PW.getR (q := (a1 + 7)) g fi_ck_29 ha1 (hL a1 5 2 ha1 (by decide)) d_ck_check_47 ?_
    refine PW.getI g fi_ck_35 (pw_shp ha1 2 (by decide)) d_ck_check_50 ?_
    refine PW.icmp_ge g 68 (by decide) d_ck_check_53 (fun c2 => ?_) (fun c2 => ?_)
    · have h := h.1 c2
      refine PX.sub [some (.ref 2), some (.ref a1), none] ⟨rfl, ⟨rfl, trivial⟩⟩ ?_
      exact hK _ _ hL h
    · have h := h.2 c2
      refine PW.aload_n g rfl rfl d_ck_check_56 ?_
      refine PW.aload_n g rfl rfl d_ck_check_57 ?_
      refine PW.iload_n g rfl rfl d_ck_check_58 ?_
      refine PX.cVv [.ref a1, .int x2] [] g rfl ck_ck (c_ck_checkStatement d ha1 hL h) cl_ck_40 (by omega) (by decide) rfl rfl (Nat.le_of_ble_eq_true rfl) d_ck_check_59 (fun I7 R3 hL h => ?_)
      refine PW.iinc g rfl (show x2 + Int32.ofInt (1) = (x2 + 1) from congrArg (HAdd.hAdd x2) (by decide)) (by decide) rfl (L' := [some (.ref 2), some (.ref a1), some (.int (x2 + 1))]) rfl d_ck_check_62 ?_
      refine PW.goto g 45 (by decide) d_ck_check_65 ?_
      refine PX.sub [some (.ref 2), some (.ref a1), some (.int (x2 + 1))] ⟨rfl, ⟨rfl, ⟨rfl, trivial⟩⟩⟩ ?_
      exact ih _ _ _ hL h
def l_ck_check_70 (a1 : Nat) (K : pI → pR → Prop) (Q : pI → pR → Prop) : Nat → Int32 → pI → pR → Prop
  | 0, _, _, _ => False
  | n + 1, x2, I, R => (((I a1 9) ≤ x2 → K I R) ∧ (¬ (I a1 9) ≤ x2 → (w_ck_checkRow a1 x2 I R (fun I9 R5 => l_ck_check_70 a1 K Q n (x2 + 1) I9 R5))))
set_option maxHeartbeats 4000000 in
set_option maxRecDepth 100000 in
theorem L_ck_check_70 (d : Nat) {a1 : Nat} (ha1 : pSH[a1]? = some (0, 5)) {K : pI → pR → Prop} {Q : pI → pR → Prop} {E : pE} {B : pB} (g : pw_G m_ck_check (d + 4) 0 0 E B) (hF : pX (qv Q) E B) (hK : ∀ (I : pI) (R : pR), pw_Lay R → K  I R → PX E B m_ck_check.2.2.1 90 [none, none, none] [] I R) : ∀ (n : Nat) (x2 : Int32) (I : pI) (R : pR), pw_Lay R → l_ck_check_70 a1 K Q n x2 I R → PX E B m_ck_check.2.2.1 70 [some (.ref 2), some (.ref a1), some (.int x2)] [] I R := by
  intro n
  induction n with
  | zero => intro x2 I R hL h; exact False.elim h
  | succ n ih =>
    intro x2 I R hL h
    refine PW.iload_n g rfl rfl d_ck_check_70 ?_
    refine PW.aload_n g rfl rfl d_ck_check_71 ?_
    refine PW.getI g fi_ck_44 ha1 d_ck_check_72 ?_
    refine PW.icmp_ge g 90 (by decide) d_ck_check_75 (fun c3 => ?_) (fun c3 => ?_)
    · have h := h.1 c3
      refine PX.sub [none, none, none] trivial ?_
      exact hK _ _ hL h
    · have h := h.2 c3
      refine PW.aload_n g rfl rfl d_ck_check_78 ?_
      refine PW.aload_n g rfl rfl d_ck_check_79 ?_
      refine PW.iload_n g rfl rfl d_ck_check_80 ?_
      refine PX.cVv [.ref a1, .int x2] [] g rfl ck_ck (c_ck_checkRow d ha1 hL h) cl_ck_47 (by omega) (by decide) rfl rfl (Nat.le_of_ble_eq_true rfl) d_ck_check_81 (fun I9 R5 hL h => ?_)
      refine PW.iinc g rfl (show x2 + Int32.ofInt (1) = (x2 + 1) from congrArg (HAdd.hAdd x2) (by decide)) (by decide) rfl (L' := [some (.ref 2), some (.ref a1), some (.int (x2 + 1))]) rfl d_ck_check_84 ?_
      refine PW.goto g 70 (by decide) d_ck_check_87 ?_
      refine PX.sub [some (.ref 2), some (.ref a1), some (.int (x2 + 1))] ⟨rfl, ⟨rfl, ⟨rfl, trivial⟩⟩⟩ ?_
      exact ih _ _ _ hL h
def w_ck_check (a1 : Nat) (I : pI) (R : pR) (Q : pI → pR → Prop) : Prop := (∀ I1, I1 = pw_wI I 2 2 (0 : Int32) → (∀ I2, I2 = pw_wI I1 2 3 (-1 : Int32) → (∃ n3, l_ck_check_12 a1 (fun I5 R1 => (w_ck_checkHeader a1 I5 R1 (fun I6 R2 => (∃ n2, l_ck_check_45 a1 (fun I8 R4 => (∃ n1, l_ck_check_70 a1 (fun I10 R6 => Q I10 R6) Q n1 (0 : Int32) I8 R4)) Q n2 (0 : Int32) I6 R2)))) Q n3 (0 : Int32) I2 R)))
set_option maxHeartbeats 4000000 in
set_option maxRecDepth 100000 in
theorem c_ck_check (d : Nat) {a1 : Nat} (ha1 : pSH[a1]? = some (0, 5)) {I : pI} {R : pR} {Q : pI → pR → Prop} (hL : pw_Lay R) (h : w_ck_check a1 I R Q) : Cm (d + 4) m_ck_check [.ref 2, .ref a1] I R (qv Q) := by
  refine Cm.of [some (.ref 2), some (.ref a1), none] (by decide) rfl (Nat.le_of_ble_eq_true rfl) (by simp) (fun E B g hF => ?_)
  unfold w_ck_check at h
  refine PW.aload_n g rfl rfl d_ck_check_0 ?_
  refine PW.iconst g (0) (by decide) d_ck_check_1 ?_
  refine PW.putI g fi_ck_18 rfl rfl rfl d_ck_check_2 ?_
  refine PX.gI (fun I1 eI1 => ?_)
  have h := h _ eI1
  refine PW.aload_n g rfl rfl d_ck_check_5 ?_
  refine PW.iconst g (-1) (by decide) d_ck_check_6 ?_
  refine PW.putI g fi_ck_22 rfl rfl rfl d_ck_check_7 ?_
  refine PX.gI (fun I2 eI2 => ?_)
  have h := h _ eI2
  refine PW.iconst g (0) (by decide) d_ck_check_10 ?_
  refine PW.istore_n g rfl (L' := [some (.ref 2), some (.ref a1), some (.int (0 : Int32))]) (by decide) rfl rfl d_ck_check_11 ?_
  refine PX.sub [some (.ref 2), some (.ref a1), some (.int (0 : Int32))] ⟨rfl, ⟨rfl, ⟨rfl, trivial⟩⟩⟩ ?_
  obtain ⟨n3, h⟩ := h
  refine L_ck_check_12 d ha1 g hF (fun I5 R1 hL h => ?_) n3 (0 : Int32) I2 R hL h
  refine PW.aload_n g rfl rfl d_ck_check_38 ?_
  refine PW.aload_n g rfl rfl d_ck_check_39 ?_
  refine PX.cVv [.ref a1] [] g rfl ck_ck (c_ck_checkHeader d ha1 hL h) cl_ck_25 (by omega) (by decide) rfl rfl (Nat.le_of_ble_eq_true rfl) d_ck_check_40 (fun I6 R2 hL h => ?_)
  refine PW.iconst g (0) (by decide) d_ck_check_43 ?_
  refine PW.istore_n g rfl (L' := [some (.ref 2), some (.ref a1), some (.int (0 : Int32))]) (by decide) rfl rfl d_ck_check_44 ?_
  refine PX.sub [some (.ref 2), some (.ref a1), some (.int (0 : Int32))] ⟨rfl, ⟨rfl, ⟨rfl, trivial⟩⟩⟩ ?_
  obtain ⟨n2, h⟩ := h
  refine L_ck_check_45 d ha1 g hF (fun I8 R4 hL h => ?_) n2 (0 : Int32) I6 R2 hL h
  refine PW.iconst g (0) (by decide) d_ck_check_68 ?_
  refine PW.istore_n g rfl (L' := [some (.ref 2), some (.ref a1), some (.int (0 : Int32))]) (by decide) rfl rfl d_ck_check_69 ?_
  refine PX.sub [some (.ref 2), some (.ref a1), some (.int (0 : Int32))] ⟨rfl, ⟨rfl, ⟨rfl, trivial⟩⟩⟩ ?_
  obtain ⟨n1, h⟩ := h
  refine L_ck_check_70 d ha1 g hF (fun I10 R6 hL h => ?_) n1 (0 : Int32) I8 R4 hL h
  exact PX.vret g hF rfl d_ck_check_90 hL h
def w_dr_erase (t : Nat) (I : pI) (R : pR) (Q : pI → pR → Prop) : Prop := (∀ I1, I1 = pw_wI I t 4 (0 : Int32) → (∀ I2, I2 = pw_wI I1 t 5 (0 : Int32) → (∀ I3, I3 = pw_wI I2 t 6 (0 : Int32) → Q I3 R)))
set_option maxHeartbeats 4000000 in
set_option maxRecDepth 100000 in
theorem c_dr_erase (d : Nat) {t : Nat} (ht : pSH[t]? = some (0, 3)) {I : pI} {R : pR} {Q : pI → pR → Prop} (hL : pw_Lay R) (h : w_dr_erase t I R Q) : Cm (d + 1) m_dr_erase [.ref t] I R (qv Q) := by
  refine Cm.of [some (.ref t)] (by decide) rfl (Nat.le_of_ble_eq_true rfl) (by simp) (fun E B g hF => ?_)
  unfold w_dr_erase at h
  refine PW.aload_n g rfl rfl d_dr_erase_0 ?_
  refine PW.iconst g (0) (by decide) d_dr_erase_1 ?_
  refine PW.putI g fi_dr_25 ht rfl rfl d_dr_erase_2 ?_
  refine PX.gI (fun I1 eI1 => ?_)
  have h := h _ eI1
  refine PW.aload_n g rfl rfl d_dr_erase_5 ?_
  refine PW.iconst g (0) (by decide) d_dr_erase_6 ?_
  refine PW.putI g fi_dr_29 ht rfl rfl d_dr_erase_7 ?_
  refine PX.gI (fun I2 eI2 => ?_)
  have h := h _ eI2
  refine PW.aload_n g rfl rfl d_dr_erase_10 ?_
  refine PW.iconst g (0) (by decide) d_dr_erase_11 ?_
  refine PW.putI g fi_dr_32 ht rfl rfl d_dr_erase_12 ?_
  refine PX.gI (fun I3 eI3 => ?_)
  have h := h _ eI3
  exact PX.vret g hF rfl d_dr_erase_15 hL h
def l_oc_begin_2 (t : Nat) (K : pI → pR → Prop) (Q : pI → pR → Prop) : Nat → Int32 → pI → pR → Prop
  | 0, _, _, _ => False
  | n + 1, x1, I, R => (((26 : Int32) ≤ x1 → K I R) ∧ (¬ (26 : Int32) ≤ x1 → (vp_in x1 26 ∧ ∀ I1, I1 = pw_wI I (t + 1) x1.toNatClampNeg (0 : Int32) → l_oc_begin_2 t K Q n (x1 + 1) I1 R)))
set_option maxHeartbeats 4000000 in
set_option maxRecDepth 100000 in
theorem L_oc_begin_2 (d : Nat) {t : Nat} (ht : pSH[t]? = some (0, 6)) {K : pI → pR → Prop} {Q : pI → pR → Prop} {E : pE} {B : pB} (g : pw_G m_oc_begin (d + 2) 0 0 E B) (hF : pX (qv Q) E B) (hK : ∀ (I : pI) (R : pR), pw_Lay R → K  I R → PX E B m_oc_begin.2.2.1 21 [some (.ref t), none] [] I R) : ∀ (n : Nat) (x1 : Int32) (I : pI) (R : pR), pw_Lay R → l_oc_begin_2 t K Q n x1 I R → PX E B m_oc_begin.2.2.1 2 [some (.ref t), some (.int x1)] [] I R := by
  intro n
  induction n with
  | zero => intro x1 I R hL h; exact False.elim h
  | succ n ih =>
    intro x1 I R hL h
    refine PW.iload_n g rfl rfl d_oc_begin_2 ?_
    refine PW.bipush g (26) (by decide) d_oc_begin_3 ?_
    refine PW.icmp_ge g 21 (by decide) d_oc_begin_5 (fun c1 => ?_) (fun c1 => ?_)
    · have h := h.1 c1
      refine PX.sub [some (.ref t), none] ⟨rfl, trivial⟩ ?_
      exact hK _ _ hL h
    · have h := h.2 c1
      refine PW.aload_n g rfl rfl d_oc_begin_8 ?_
      refine PW.getR (q := (t + 1)) g fi_oc_9 ht (hL t 6 0 ht (by decide)) d_oc_begin_9 ?_
      refine PW.iload_n g rfl rfl d_oc_begin_12 ?_
      refine PW.iconst g (0) (by decide) d_oc_begin_13 ?_
      refine PW.iast g (pw_shp ht 0 (by decide)) h.1 d_oc_begin_14 ?_
      refine PX.gI (fun I1 eI1 => ?_)
      have h := h.2 _ eI1
      refine PW.iinc g rfl (show x1 + Int32.ofInt (1) = (x1 + 1) from congrArg (HAdd.hAdd x1) (by decide)) (by decide) rfl (L' := [some (.ref t), some (.int (x1 + 1))]) rfl d_oc_begin_15 ?_
      refine PW.goto g 2 (by decide) d_oc_begin_18 ?_
      refine PX.sub [some (.ref t), some (.int (x1 + 1))] ⟨rfl, ⟨rfl, trivial⟩⟩ ?_
      exact ih _ _ _ hL h
def w_oc_begin (t : Nat) (I : pI) (R : pR) (Q : pI → pR → Prop) : Prop := (∃ n1, l_oc_begin_2 t (fun I2 R1 => (vp_in (0 : Int32) 2 ∧ ∀ I3, I3 = pw_wI I2 (t + 2) (0 : Int32).toNatClampNeg (0 : Int32) → (vp_in (1 : Int32) 2 ∧ ∀ I4, I4 = pw_wI I3 (t + 2) (1 : Int32).toNatClampNeg (0 : Int32) → (w_dr_erase (t + 3) I4 R1 (fun I5 R2 => (∀ I6, I6 = pw_wI I5 t 3 (0 : Int32) → (∀ I7, I7 = pw_wI I6 t 4 (-1 : Int32) → (∀ I8, I8 = pw_wI I7 t 5 (0 : Int32) → Q I8 R2)))))))) Q n1 (0 : Int32) I R)
set_option maxHeartbeats 4000000 in
set_option maxRecDepth 100000 in
theorem c_oc_begin (d : Nat) {t : Nat} (ht : pSH[t]? = some (0, 6)) {I : pI} {R : pR} {Q : pI → pR → Prop} (hL : pw_Lay R) (h : w_oc_begin t I R Q) : Cm (d + 2) m_oc_begin [.ref t] I R (qv Q) := by
  refine Cm.of [some (.ref t), none] (by decide) rfl (Nat.le_of_ble_eq_true rfl) (by simp) (fun E B g hF => ?_)
  unfold w_oc_begin at h
  refine PW.iconst g (0) (by decide) d_oc_begin_0 ?_
  refine PW.istore_n g rfl (L' := [some (.ref t), some (.int (0 : Int32))]) (by decide) rfl rfl d_oc_begin_1 ?_
  refine PX.sub [some (.ref t), some (.int (0 : Int32))] ⟨rfl, ⟨rfl, trivial⟩⟩ ?_
  obtain ⟨n1, h⟩ := h
  refine L_oc_begin_2 d ht g hF (fun I2 R1 hL h => ?_) n1 (0 : Int32) I R hL h
  refine PW.aload_n g rfl rfl d_oc_begin_21 ?_
  refine PW.getR (q := (t + 2)) g fi_oc_15 ht (hL t 6 1 ht (by decide)) d_oc_begin_22 ?_
  refine PW.iconst g (0) (by decide) d_oc_begin_25 ?_
  refine PW.iconst g (0) (by decide) d_oc_begin_26 ?_
  refine PW.iast g (pw_shp ht 1 (by decide)) h.1 d_oc_begin_27 ?_
  refine PX.gI (fun I3 eI3 => ?_)
  have h := h.2 _ eI3
  refine PW.aload_n g rfl rfl d_oc_begin_28 ?_
  refine PW.getR (q := (t + 2)) g fi_oc_15 ht (hL t 6 1 ht (by decide)) d_oc_begin_29 ?_
  refine PW.iconst g (1) (by decide) d_oc_begin_32 ?_
  refine PW.iconst g (0) (by decide) d_oc_begin_33 ?_
  refine PW.iast g (pw_shp ht 1 (by decide)) h.1 d_oc_begin_34 ?_
  refine PX.gI (fun I4 eI4 => ?_)
  have h := h.2 _ eI4
  refine PW.aload_n g rfl rfl d_oc_begin_35 ?_
  refine PW.getR (q := (t + 3)) g fi_oc_21 ht (hL t 6 2 ht (by decide)) d_oc_begin_36 ?_
  refine PX.cVv [] [] g (pw_shp ht 2 (by decide)) ck_dr (c_dr_erase d (pw_shp ht 2 (by decide)) hL h) cl_oc_29 (by omega) (by decide) rfl rfl (Nat.le_of_ble_eq_true rfl) d_oc_begin_39 (fun I5 R2 hL h => ?_)
  refine PW.aload_n g rfl rfl d_oc_begin_42 ?_
  refine PW.iconst g (0) (by decide) d_oc_begin_43 ?_
  refine PW.putI g fi_oc_32 ht rfl rfl d_oc_begin_44 ?_
  refine PX.gI (fun I6 eI6 => ?_)
  have h := h _ eI6
  refine PW.aload_n g rfl rfl d_oc_begin_47 ?_
  refine PW.iconst g (-1) (by decide) d_oc_begin_48 ?_
  refine PW.putI g fi_oc_25 ht rfl rfl d_oc_begin_49 ?_
  refine PX.gI (fun I7 eI7 => ?_)
  have h := h _ eI7
  refine PW.aload_n g rfl rfl d_oc_begin_52 ?_
  refine PW.iconst g (0) (by decide) d_oc_begin_53 ?_
  refine PW.putI g fi_oc_35 ht (pw_nb (Or.inl rfl)) (pw_fb (Or.inl rfl)) d_oc_begin_54 ?_
  refine PX.gI (fun I8 eI8 => ?_)
  have h := h _ eI8
  exact PX.vret g hF rfl d_oc_begin_57 hL h
def w_oc_fail (t : Nat) (a1 : Int32) (a2 : Int32) (I : pI) (R : pR) (Q : pI → pR → Prop) : Prop := (((I t 3) = 0 → (∀ I1, I1 = pw_wI I t 3 a1 → (∀ I2, I2 = pw_wI I1 t 4 a2 → Q I2 R))) ∧ (¬ (I t 3) = 0 → (∀ I3, I3 = pw_wI I t 5 (1 : Int32) → Q I3 R)))
set_option maxHeartbeats 4000000 in
set_option maxRecDepth 100000 in
theorem c_oc_fail (d : Nat) {t : Nat} (ht : pSH[t]? = some (0, 6)) {a1 : Int32} {a2 : Int32} {I : pI} {R : pR} {Q : pI → pR → Prop} (hL : pw_Lay R) (h : w_oc_fail t a1 a2 I R Q) : Cm (d + 1) m_oc_fail [.ref t, .int a1, .int a2] I R (qv Q) := by
  refine Cm.of [some (.ref t), some (.int a1), some (.int a2)] (by decide) rfl (Nat.le_of_ble_eq_true rfl) (by simp) (fun E B g hF => ?_)
  unfold w_oc_fail at h
  refine PW.aload_n g rfl rfl d_oc_fail_0 ?_
  refine PW.getI g fi_oc_32 ht d_oc_fail_1 ?_
  refine PW.if_eq g 13 (by decide) d_oc_fail_4 (fun c1 => ?_) (fun c1 => ?_)
  · have h := h.1 c1
    refine PW.aload_n g rfl rfl d_oc_fail_13 ?_
    refine PW.iload_n g rfl rfl d_oc_fail_14 ?_
    refine PW.putI g fi_oc_32 ht rfl rfl d_oc_fail_15 ?_
    refine PX.gI (fun I1 eI1 => ?_)
    have h := h _ eI1
    refine PW.aload_n g rfl rfl d_oc_fail_18 ?_
    refine PW.iload_n g rfl rfl d_oc_fail_19 ?_
    refine PW.putI g fi_oc_25 ht rfl rfl d_oc_fail_20 ?_
    refine PX.gI (fun I2 eI2 => ?_)
    have h := h _ eI2
    exact PX.vret g hF rfl d_oc_fail_23 hL h
  · have h := h.2 c1
    refine PW.aload_n g rfl rfl d_oc_fail_7 ?_
    refine PW.iconst g (1) (by decide) d_oc_fail_8 ?_
    refine PW.putI g fi_oc_35 ht (pw_nb (Or.inr rfl)) (pw_fb (Or.inr rfl)) d_oc_fail_9 ?_
    refine PX.gI (fun I3 eI3 => ?_)
    have h := h _ eI3
    exact PX.vret g hF rfl d_oc_fail_12 hL h
def l_dr_widthOf_17 (K : Int32 → pI → pR → Prop) (Q : Int32 → pI → pR → Prop) : Nat → Int32 → Int32 → Int32 → pI → pR → Prop
  | 0, _, _, _, _, _ => False
  | n + 1, x1, x2, x3, I, R => (((10 : Int32) ≤ x3 → K x1 I R) ∧ (¬ (10 : Int32) ≤ x3 → ((x2 = 0 → K x1 I R) ∧ (¬ x2 = 0 → l_dr_widthOf_17 K Q n (x1 + 1) (x2 / (10 : Int32)) (x3 + 1) I R))))
set_option maxHeartbeats 4000000 in
set_option maxRecDepth 100000 in
theorem L_dr_widthOf_17 (d : Nat) {K : Int32 → pI → pR → Prop} {Q : Int32 → pI → pR → Prop} {E : pE} {B : pB} (g : pw_G m_dr_widthOf (d + 1) 0 0 E B) (hF : pX (qi Q) E B) (hK : ∀ (y1 : Int32) (I : pI) (R : pR), pw_Lay R → K y1 I R → PX E B m_dr_widthOf.2.2.1 41 [none, some (.int y1), none, none] [] I R) : ∀ (n : Nat) (x1 : Int32) (x2 : Int32) (x3 : Int32) (I : pI) (R : pR), pw_Lay R → l_dr_widthOf_17  K Q n x1 x2 x3 I R → PX E B m_dr_widthOf.2.2.1 17 [none, some (.int x1), some (.int x2), some (.int x3)] [] I R := by
  intro n
  induction n with
  | zero => intro x1 x2 x3 I R hL h; exact False.elim h
  | succ n ih =>
    intro x1 x2 x3 I R hL h
    refine PW.iload_n g rfl rfl d_dr_widthOf_17 ?_
    refine PW.bipush g (10) (by decide) d_dr_widthOf_18 ?_
    refine PW.icmp_ge g 41 (by decide) d_dr_widthOf_20 (fun c2 => ?_) (fun c2 => ?_)
    · have h := h.1 c2
      refine PX.sub [none, some (.int x1), none, none] ⟨rfl, trivial⟩ ?_
      exact hK _ _ _ hL h
    · have h := h.2 c2
      refine PW.iload_n g rfl rfl d_dr_widthOf_23 ?_
      refine PW.if_eq g 41 (by decide) d_dr_widthOf_24 (fun c3 => ?_) (fun c3 => ?_)
      · have h := h.1 c3
        refine PX.sub [none, some (.int x1), none, none] ⟨rfl, trivial⟩ ?_
        exact hK _ _ _ hL h
      · have h := h.2 c3
        refine PW.iload_n g rfl rfl d_dr_widthOf_27 ?_
        refine PW.bipush g (10) (by decide) d_dr_widthOf_28 ?_
        refine PW.idiv g (by decide) d_dr_widthOf_30 ?_
        refine PW.istore_n g rfl (L' := [none, some (.int x1), some (.int (x2 / (10 : Int32))), some (.int x3)]) (by decide) rfl rfl d_dr_widthOf_31 ?_
        refine PW.iinc g rfl (show x1 + Int32.ofInt (1) = (x1 + 1) from congrArg (HAdd.hAdd x1) (by decide)) (by decide) rfl (L' := [none, some (.int (x1 + 1)), some (.int (x2 / (10 : Int32))), some (.int x3)]) rfl d_dr_widthOf_32 ?_
        refine PW.iinc g rfl (show x3 + Int32.ofInt (1) = (x3 + 1) from congrArg (HAdd.hAdd x3) (by decide)) (by decide) rfl (L' := [none, some (.int (x1 + 1)), some (.int (x2 / (10 : Int32))), some (.int (x3 + 1))]) rfl d_dr_widthOf_35 ?_
        refine PW.goto g 17 (by decide) d_dr_widthOf_38 ?_
        refine PX.sub [none, some (.int (x1 + 1)), some (.int (x2 / (10 : Int32))), some (.int (x3 + 1))] ⟨rfl, ⟨rfl, ⟨rfl, trivial⟩⟩⟩ ?_
        exact ih _ _ _ _ _ hL h
def w_dr_widthOf (a1 : Int32) (I : pI) (R : pR) (Q : Int32 → pI → pR → Prop) : Prop := ((0 ≤ a1 → (∃ n1, l_dr_widthOf_17 (fun y1 I1 R1 => Q y1 I1 R1) Q n1 (1 : Int32) (a1 / (10 : Int32)) (0 : Int32) I R)) ∧ (¬ 0 ≤ a1 → (∃ n2, l_dr_widthOf_17 (fun y2 I2 R2 => Q y2 I2 R2) Q n2 (2 : Int32) (a1 / (10 : Int32)) (0 : Int32) I R)))
set_option maxHeartbeats 4000000 in
set_option maxRecDepth 100000 in
theorem c_dr_widthOf (d : Nat) {a1 : Int32} {I : pI} {R : pR} {Q : Int32 → pI → pR → Prop} (hL : pw_Lay R) (h : w_dr_widthOf a1 I R Q) : Cm (d + 1) m_dr_widthOf [.int a1] I R (qi Q) := by
  refine Cm.of [some (.int a1), none, none, none] (by decide) rfl (Nat.le_of_ble_eq_true rfl) (by simp) (fun E B g hF => ?_)
  unfold w_dr_widthOf at h
  refine PW.iload_n g rfl rfl d_dr_widthOf_0 ?_
  refine PW.if_ge g 8 (by decide) d_dr_widthOf_1 (fun c1 => ?_) (fun c1 => ?_)
  · have h := h.1 c1
    refine PW.iconst g (1) (by decide) d_dr_widthOf_8 ?_
    refine PW.istore_n g rfl (L' := [some (.int a1), some (.int (1 : Int32)), none, none]) (by decide) rfl rfl d_dr_widthOf_9 ?_
    refine PW.iload_n g rfl rfl d_dr_widthOf_10 ?_
    refine PW.bipush g (10) (by decide) d_dr_widthOf_11 ?_
    refine PW.idiv g (by decide) d_dr_widthOf_13 ?_
    refine PW.istore_n g rfl (L' := [some (.int a1), some (.int (1 : Int32)), some (.int (a1 / (10 : Int32))), none]) (by decide) rfl rfl d_dr_widthOf_14 ?_
    refine PW.iconst g (0) (by decide) d_dr_widthOf_15 ?_
    refine PW.istore_n g rfl (L' := [some (.int a1), some (.int (1 : Int32)), some (.int (a1 / (10 : Int32))), some (.int (0 : Int32))]) (by decide) rfl rfl d_dr_widthOf_16 ?_
    refine PX.sub [none, some (.int (1 : Int32)), some (.int (a1 / (10 : Int32))), some (.int (0 : Int32))] ⟨rfl, ⟨rfl, ⟨rfl, trivial⟩⟩⟩ ?_
    obtain ⟨n1, h⟩ := h
    refine L_dr_widthOf_17 d g hF (fun y1 I1 R1 hL h => ?_) n1 (1 : Int32) (a1 / (10 : Int32)) (0 : Int32) I R hL h
    refine PW.iload_n g rfl rfl d_dr_widthOf_41 ?_
    exact PX.iret g hF rfl d_dr_widthOf_42 hL h
  · have h := h.2 c1
    refine PW.iconst g (2) (by decide) d_dr_widthOf_4 ?_
    refine PW.goto g 9 (by decide) d_dr_widthOf_5 ?_
    refine PW.istore_n g rfl (L' := [some (.int a1), some (.int (2 : Int32)), none, none]) (by decide) rfl rfl d_dr_widthOf_9 ?_
    refine PW.iload_n g rfl rfl d_dr_widthOf_10 ?_
    refine PW.bipush g (10) (by decide) d_dr_widthOf_11 ?_
    refine PW.idiv g (by decide) d_dr_widthOf_13 ?_
    refine PW.istore_n g rfl (L' := [some (.int a1), some (.int (2 : Int32)), some (.int (a1 / (10 : Int32))), none]) (by decide) rfl rfl d_dr_widthOf_14 ?_
    refine PW.iconst g (0) (by decide) d_dr_widthOf_15 ?_
    refine PW.istore_n g rfl (L' := [some (.int a1), some (.int (2 : Int32)), some (.int (a1 / (10 : Int32))), some (.int (0 : Int32))]) (by decide) rfl rfl d_dr_widthOf_16 ?_
    refine PX.sub [none, some (.int (2 : Int32)), some (.int (a1 / (10 : Int32))), some (.int (0 : Int32))] ⟨rfl, ⟨rfl, ⟨rfl, trivial⟩⟩⟩ ?_
    obtain ⟨n2, h⟩ := h
    refine L_dr_widthOf_17 d g hF (fun y2 I2 R2 hL h => ?_) n2 (2 : Int32) (a1 / (10 : Int32)) (0 : Int32) I R hL h
    refine PW.iload_n g rfl rfl d_dr_widthOf_41 ?_
    exact PX.iret g hF rfl d_dr_widthOf_42 hL h
def l_dr_beginOf_4 (t : Nat) (f1 : Int32) (K : pI → pR → Prop) (Q : Int32 → pI → pR → Prop) : Nat → Int32 → pI → pR → Prop
  | 0, _, _, _ => False
  | n + 1, x3, I, R => (((I t 5) ≤ x3 → K I R) ∧ (¬ (I t 5) ≤ x3 → (((120 : Int32) ≤ x3 → K I R) ∧ (¬ (120 : Int32) ≤ x3 → (vp_in x3 120 ∧ (((I (t + 4) x3.toNatClampNeg) < f1 → l_dr_beginOf_4 t f1 K Q n (x3 + 1) I R) ∧ (¬ (I (t + 4) x3.toNatClampNeg) < f1 → (vp_in x3 120 ∧ Q (I (t + 2) x3.toNatClampNeg) I R))))))))
set_option maxHeartbeats 4000000 in
set_option maxRecDepth 100000 in
theorem L_dr_beginOf_4 (d : Nat) {t : Nat} (ht : pSH[t]? = some (0, 3)) {f1 : Int32} {K : pI → pR → Prop} {Q : Int32 → pI → pR → Prop} {E : pE} {B : pB} (g : pw_G m_dr_beginOf (d + 1) 0 0 E B) (hF : pX (qi Q) E B) (hK : ∀ (I : pI) (R : pR), pw_Lay R → K  I R → PX E B m_dr_beginOf.2.2.1 41 [none, none, none, none] [] I R) : ∀ (n : Nat) (x3 : Int32) (I : pI) (R : pR), pw_Lay R → l_dr_beginOf_4 t f1 K Q n x3 I R → PX E B m_dr_beginOf.2.2.1 4 [some (.ref t), some (.int f1), none, some (.int x3)] [] I R := by
  intro n
  induction n with
  | zero => intro x3 I R hL h; exact False.elim h
  | succ n ih =>
    intro x3 I R hL h
    refine PW.iload_n g rfl rfl d_dr_beginOf_4 ?_
    refine PW.aload_n g rfl rfl d_dr_beginOf_5 ?_
    refine PW.getI g fi_dr_29 ht d_dr_beginOf_6 ?_
    refine PW.icmp_ge g 41 (by decide) d_dr_beginOf_9 (fun c1 => ?_) (fun c1 => ?_)
    · have h := h.1 c1
      refine PX.sub [none, none, none, none] trivial ?_
      exact hK _ _ hL h
    · have h := h.2 c1
      refine PW.iload_n g rfl rfl d_dr_beginOf_12 ?_
      refine PW.bipush g (120) (by decide) d_dr_beginOf_13 ?_
      refine PW.icmp_ge g 41 (by decide) d_dr_beginOf_15 (fun c2 => ?_) (fun c2 => ?_)
      · have h := h.1 c2
        refine PX.sub [none, none, none, none] trivial ?_
        exact hK _ _ hL h
      · have h := h.2 c2
        refine PW.aload_n g rfl rfl d_dr_beginOf_18 ?_
        refine PW.getR (q := (t + 4)) g fi_dr_22 ht (hL t 3 3 ht (by decide)) d_dr_beginOf_19 ?_
        refine PW.iload_n g rfl rfl d_dr_beginOf_22 ?_
        refine PW.iald g (pw_shp ht 3 (by decide)) h.1 d_dr_beginOf_23 ?_
        have h := h.2
        refine PW.iload_n g rfl rfl d_dr_beginOf_24 ?_
        refine PW.icmp_lt g 35 (by decide) d_dr_beginOf_25 (fun c3 => ?_) (fun c3 => ?_)
        · have h := h.1 c3
          refine PW.iinc g rfl (show x3 + Int32.ofInt (1) = (x3 + 1) from congrArg (HAdd.hAdd x3) (by decide)) (by decide) rfl (L' := [some (.ref t), some (.int f1), none, some (.int (x3 + 1))]) rfl d_dr_beginOf_35 ?_
          refine PW.goto g 4 (by decide) d_dr_beginOf_38 ?_
          refine PX.sub [some (.ref t), some (.int f1), none, some (.int (x3 + 1))] ⟨rfl, ⟨rfl, ⟨rfl, trivial⟩⟩⟩ ?_
          exact ih _ _ _ hL h
        · have h := h.2 c3
          refine PW.aload_n g rfl rfl d_dr_beginOf_28 ?_
          refine PW.getR (q := (t + 2)) g fi_dr_15 ht (hL t 3 1 ht (by decide)) d_dr_beginOf_29 ?_
          refine PW.iload_n g rfl rfl d_dr_beginOf_32 ?_
          refine PW.iald g (pw_shp ht 1 (by decide)) h.1 d_dr_beginOf_33 ?_
          have h := h.2
          exact PX.iret g hF rfl d_dr_beginOf_34 hL h
def w_dr_beginOf (t : Nat) (a1 : Int32) (a2 : Int32) (I : pI) (R : pR) (Q : Int32 → pI → pR → Prop) : Prop := (∃ n1, l_dr_beginOf_4 t a1 (fun I1 R1 => Q (240 : Int32) I1 R1) Q n1 (a2 + (1 : Int32)) I R)
set_option maxHeartbeats 4000000 in
set_option maxRecDepth 100000 in
theorem c_dr_beginOf (d : Nat) {t : Nat} (ht : pSH[t]? = some (0, 3)) {a1 : Int32} {a2 : Int32} {I : pI} {R : pR} {Q : Int32 → pI → pR → Prop} (hL : pw_Lay R) (h : w_dr_beginOf t a1 a2 I R Q) : Cm (d + 1) m_dr_beginOf [.ref t, .int a1, .int a2] I R (qi Q) := by
  refine Cm.of [some (.ref t), some (.int a1), some (.int a2), none] (by decide) rfl (Nat.le_of_ble_eq_true rfl) (by simp) (fun E B g hF => ?_)
  unfold w_dr_beginOf at h
  refine PW.iload_n g rfl rfl d_dr_beginOf_0 ?_
  refine PW.iconst g (1) (by decide) d_dr_beginOf_1 ?_
  refine PW.iadd g d_dr_beginOf_2 ?_
  refine PW.istore_n g rfl (L' := [some (.ref t), some (.int a1), some (.int a2), some (.int (a2 + (1 : Int32)))]) (by decide) rfl rfl d_dr_beginOf_3 ?_
  refine PX.sub [some (.ref t), some (.int a1), none, some (.int (a2 + (1 : Int32)))] ⟨rfl, ⟨rfl, ⟨rfl, trivial⟩⟩⟩ ?_
  obtain ⟨n1, h⟩ := h
  refine L_dr_beginOf_4 d ht g hF (fun I1 R1 hL h => ?_) n1 (a2 + (1 : Int32)) I R hL h
  refine PW.sipush g (240) (by decide) d_dr_beginOf_41 ?_
  exact PX.iret g hF rfl d_dr_beginOf_44 hL h
def l_dr_layOut_37 (t : Nat) (f1 : Int32) (f3 : Int32) (K : Int32 → pI → pR → Prop) (Q : pI → pR → Prop) : Nat → Int32 → pI → pR → Prop
  | 0, _, _, _ => False
  | n + 1, x2, I, R => (((I t 6) ≤ x2 → K x2 I R) ∧ (¬ (I t 6) ≤ x2 → (w_dr_beginOf t x2 f1 I R (fun v2 I2 R2 => (((1 : Int32) < (v2 - f3) → K x2 I2 R2) ∧ (¬ (1 : Int32) < (v2 - f3) → l_dr_layOut_37 t f1 f3 K Q n (x2 + 1) I2 R2))))))
set_option maxHeartbeats 4000000 in
set_option maxRecDepth 100000 in
theorem L_dr_layOut_37 (d : Nat) {t : Nat} (ht : pSH[t]? = some (0, 3)) {f1 : Int32} {f3 : Int32} {K : Int32 → pI → pR → Prop} {Q : pI → pR → Prop} {E : pE} {B : pB} (g : pw_G m_dr_layOut (d + 2) 0 0 E B) (hF : pX (qv Q) E B) (hK : ∀ (y2 : Int32) (I : pI) (R : pR), pw_Lay R → K y2 I R → PX E B m_dr_layOut.2.2.1 63 [some (.ref t), some (.int f1), some (.int y2), none] [] I R) : ∀ (n : Nat) (x2 : Int32) (I : pI) (R : pR), pw_Lay R → l_dr_layOut_37 t f1 f3 K Q n x2 I R → PX E B m_dr_layOut.2.2.1 37 [some (.ref t), some (.int f1), some (.int x2), some (.int f3)] [] I R := by
  intro n
  induction n with
  | zero => intro x2 I R hL h; exact False.elim h
  | succ n ih =>
    intro x2 I R hL h
    refine PW.iload_n g rfl rfl d_dr_layOut_37 ?_
    refine PW.aload_n g rfl rfl d_dr_layOut_38 ?_
    refine PW.getI g fi_dr_32 ht d_dr_layOut_39 ?_
    refine PW.icmp_ge g 63 (by decide) d_dr_layOut_42 (fun c2 => ?_) (fun c2 => ?_)
    · have h := h.1 c2
      refine PX.sub [some (.ref t), some (.int f1), some (.int x2), none] ⟨rfl, ⟨rfl, ⟨rfl, trivial⟩⟩⟩ ?_
      exact hK _ _ _ hL h
    · have h := h.2 c2
      refine PW.aload_n g rfl rfl d_dr_layOut_45 ?_
      refine PW.iload_n g rfl rfl d_dr_layOut_46 ?_
      refine PW.iload_n g rfl rfl d_dr_layOut_47 ?_
      refine PX.cVi [.int x2, .int f1] [] g ht ck_dr (c_dr_beginOf d ht hL h) cl_dr_61 (by omega) (by decide) rfl rfl (Nat.le_of_ble_eq_true rfl) d_dr_layOut_48 (fun v2 I2 R2 hL h => ?_)
      refine PW.iload_n g rfl rfl d_dr_layOut_51 ?_
      refine PW.isub g d_dr_layOut_52 ?_
      refine PW.iconst g (1) (by decide) d_dr_layOut_53 ?_
      refine PW.icmp_gt g 63 (by decide) d_dr_layOut_54 (fun c3 => ?_) (fun c3 => ?_)
      · have h := h.1 c3
        refine PX.sub [some (.ref t), some (.int f1), some (.int x2), none] ⟨rfl, ⟨rfl, ⟨rfl, trivial⟩⟩⟩ ?_
        exact hK _ _ _ hL h
      · have h := h.2 c3
        refine PW.iinc g rfl (show x2 + Int32.ofInt (1) = (x2 + 1) from congrArg (HAdd.hAdd x2) (by decide)) (by decide) rfl (L' := [some (.ref t), some (.int f1), some (.int (x2 + 1)), some (.int f3)]) rfl d_dr_layOut_57 ?_
        refine PW.goto g 37 (by decide) d_dr_layOut_60 ?_
        refine PX.sub [some (.ref t), some (.int f1), some (.int (x2 + 1)), some (.int f3)] ⟨rfl, ⟨rfl, ⟨rfl, ⟨rfl, trivial⟩⟩⟩⟩ ?_
        exact ih _ _ _ hL h
def j_dr_layOut_63 (t : Nat) (K12 : Int32 → pI → pR → Prop) (Q : pI → pR → Prop) (x1 : Int32) (x2 : Int32) (I : pI) (R : pR) : Prop := (vp_in x1 120 ∧ ∀ I4, I4 = pw_wI I (t + 4) x1.toNatClampNeg x2 → (∀ I5, I5 = pw_wI I4 t 6 (if (I4 t 6) < (x2 + (1 : Int32)) then (x2 + (1 : Int32)) else (I4 t 6)) → K12 (x1 + (-1)) I5 R))
set_option maxHeartbeats 4000000 in
set_option maxRecDepth 100000 in
theorem J_dr_layOut_63 (d : Nat) {t : Nat} (ht : pSH[t]? = some (0, 3)) {K12 : Int32 → pI → pR → Prop} {Q : pI → pR → Prop} {x1 : Int32} {x2 : Int32} {E : pE} {B : pB} (g : pw_G m_dr_layOut (d + 2) 0 0 E B) (hF : pX (qv Q) E B) (hK12 : ∀ (y1 : Int32) (I : pI) (R : pR), pw_Lay R → K12 y1 I R → PX E B m_dr_layOut.2.2.1 12 [some (.ref t), some (.int y1), none, none] [] I R) {I : pI} {R : pR} (hL : pw_Lay R) (h : j_dr_layOut_63 t K12 Q x1 x2 I R) : PX E B m_dr_layOut.2.2.1 63 [some (.ref t), some (.int x1), some (.int x2), none] [] I R := by
  unfold j_dr_layOut_63 at h
  refine PW.aload_n g rfl rfl d_dr_layOut_63 ?_
  refine PW.getR (q := (t + 4)) g fi_dr_22 ht (hL t 3 3 ht (by decide)) d_dr_layOut_64 ?_
  refine PW.iload_n g rfl rfl d_dr_layOut_67 ?_
  refine PW.iload_n g rfl rfl d_dr_layOut_68 ?_
  refine PW.iast g (pw_shp ht 3 (by decide)) h.1 d_dr_layOut_69 ?_
  refine PX.gI (fun I4 eI4 => ?_)
  have h := h.2 _ eI4
  refine PW.aload_n g rfl rfl d_dr_layOut_70 ?_
  refine PW.aload_n g rfl rfl d_dr_layOut_71 ?_
  refine PW.getI g fi_dr_32 ht d_dr_layOut_72 ?_
  refine PW.iload_n g rfl rfl d_dr_layOut_75 ?_
  refine PW.iconst g (1) (by decide) d_dr_layOut_76 ?_
  refine PW.iadd g d_dr_layOut_77 ?_
  refine PX.mmax g (pw_gw 1017 (by decide +kernel) (by decide +kernel)) (by omega) rfl (Nat.le_of_ble_eq_true rfl) d_dr_layOut_78 ?_
  refine PW.putI g fi_dr_32 ht rfl rfl d_dr_layOut_81 ?_
  refine PX.gI (fun I5 eI5 => ?_)
  have h := h _ eI5
  refine PW.iinc g rfl (show x1 + Int32.ofInt (-1) = (x1 + (-1)) from congrArg (HAdd.hAdd x1) (by decide)) (by decide) rfl (L' := [some (.ref t), some (.int (x1 + (-1))), some (.int x2), none]) rfl d_dr_layOut_84 ?_
  refine PW.goto g 12 (by decide) d_dr_layOut_87 ?_
  refine PX.sub [some (.ref t), some (.int (x1 + (-1))), none, none] ⟨rfl, ⟨rfl, trivial⟩⟩ ?_
  exact hK12 _ _ _ hL h
def l_dr_layOut_12 (t : Nat) (K : pI → pR → Prop) (Q : pI → pR → Prop) : Nat → Int32 → pI → pR → Prop
  | 0, _, _, _ => False
  | n + 1, x1, I, R => ((x1 < 0 → K I R) ∧ (¬ x1 < 0 → (vp_in x1 120 ∧ (vp_in x1 120 ∧ (w_dr_widthOf (I (t + 3) x1.toNatClampNeg) I R (fun v1 I1 R1 => (∃ n1, l_dr_layOut_37 t x1 (((I (t + 2) x1.toNatClampNeg) + v1) - (1 : Int32)) (fun y1 I3 R3 => (j_dr_layOut_63 t (fun y2 I6 R4 => l_dr_layOut_12 t K Q n y2 I6 R4) Q x1 y1 I3 R3)) Q n1 (2 : Int32) I1 R1)))))))
set_option maxHeartbeats 4000000 in
set_option maxRecDepth 100000 in
theorem L_dr_layOut_12 (d : Nat) {t : Nat} (ht : pSH[t]? = some (0, 3)) {K : pI → pR → Prop} {Q : pI → pR → Prop} {E : pE} {B : pB} (g : pw_G m_dr_layOut (d + 2) 0 0 E B) (hF : pX (qv Q) E B) (hK : ∀ (I : pI) (R : pR), pw_Lay R → K  I R → PX E B m_dr_layOut.2.2.1 90 [none, none, none, none] [] I R) : ∀ (n : Nat) (x1 : Int32) (I : pI) (R : pR), pw_Lay R → l_dr_layOut_12 t K Q n x1 I R → PX E B m_dr_layOut.2.2.1 12 [some (.ref t), some (.int x1), none, none] [] I R := by
  intro n
  induction n with
  | zero => intro x1 I R hL h; exact False.elim h
  | succ n ih =>
    intro x1 I R hL h
    refine PW.iload_n g rfl rfl d_dr_layOut_12 ?_
    refine PW.if_lt g 90 (by decide) d_dr_layOut_13 (fun c1 => ?_) (fun c1 => ?_)
    · have h := h.1 c1
      refine PX.sub [none, none, none, none] trivial ?_
      exact hK _ _ hL h
    · have h := h.2 c1
      refine PW.iconst g (2) (by decide) d_dr_layOut_16 ?_
      refine PW.istore_n g rfl (L' := [some (.ref t), some (.int x1), some (.int (2 : Int32)), none]) (by decide) rfl rfl d_dr_layOut_17 ?_
      refine PW.aload_n g rfl rfl d_dr_layOut_18 ?_
      refine PW.getR (q := (t + 2)) g fi_dr_15 ht (hL t 3 1 ht (by decide)) d_dr_layOut_19 ?_
      refine PW.iload_n g rfl rfl d_dr_layOut_22 ?_
      refine PW.iald g (pw_shp ht 1 (by decide)) h.1 d_dr_layOut_23 ?_
      have h := h.2
      refine PW.aload_n g rfl rfl d_dr_layOut_24 ?_
      refine PW.getR (q := (t + 3)) g fi_dr_19 ht (hL t 3 2 ht (by decide)) d_dr_layOut_25 ?_
      refine PW.iload_n g rfl rfl d_dr_layOut_28 ?_
      refine PW.iald g (pw_shp ht 2 (by decide)) h.1 d_dr_layOut_29 ?_
      have h := h.2
      refine PX.cSi [.int (I (t + 3) x1.toNatClampNeg)] [.int (I (t + 2) x1.toNatClampNeg)] g (c_dr_widthOf d  hL h) cl_dr_51 (by omega) (by decide) rfl rfl (Nat.le_of_ble_eq_true rfl) d_dr_layOut_30 (fun v1 I1 R1 hL h => ?_)
      refine PW.iadd g d_dr_layOut_33 ?_
      refine PW.iconst g (1) (by decide) d_dr_layOut_34 ?_
      refine PW.isub g d_dr_layOut_35 ?_
      refine PW.istore_n g rfl (L' := [some (.ref t), some (.int x1), some (.int (2 : Int32)), some (.int (((I (t + 2) x1.toNatClampNeg) + v1) - (1 : Int32)))]) (by decide) rfl rfl d_dr_layOut_36 ?_
      refine PX.sub [some (.ref t), some (.int x1), some (.int (2 : Int32)), some (.int (((I (t + 2) x1.toNatClampNeg) + v1) - (1 : Int32)))] ⟨rfl, ⟨rfl, ⟨rfl, ⟨rfl, trivial⟩⟩⟩⟩ ?_
      obtain ⟨n1, h⟩ := h
      refine L_dr_layOut_37 d ht g hF (fun y1 I3 R3 hL h => ?_) n1 (2 : Int32) I1 R1 hL h
      refine PX.sub [some (.ref t), some (.int x1), some (.int y1), none] ⟨rfl, ⟨rfl, ⟨rfl, trivial⟩⟩⟩ ?_
      refine J_dr_layOut_63 d ht g hF (fun y2 I6 R4 hL h => ?_) hL h
      refine PX.sub [some (.ref t), some (.int y2), none, none] ⟨rfl, ⟨rfl, trivial⟩⟩ ?_
      exact ih _ _ _ hL h
def w_dr_layOut (t : Nat) (I : pI) (R : pR) (Q : pI → pR → Prop) : Prop := (∃ n2, l_dr_layOut_12 t (fun I7 R5 => Q I7 R5) Q n2 ((if (120 : Int32) < (I t 5) then (120 : Int32) else (I t 5)) - (1 : Int32)) I R)
set_option maxHeartbeats 4000000 in
set_option maxRecDepth 100000 in
theorem c_dr_layOut (d : Nat) {t : Nat} (ht : pSH[t]? = some (0, 3)) {I : pI} {R : pR} {Q : pI → pR → Prop} (hL : pw_Lay R) (h : w_dr_layOut t I R Q) : Cm (d + 2) m_dr_layOut [.ref t] I R (qv Q) := by
  refine Cm.of [some (.ref t), none, none, none] (by decide) rfl (Nat.le_of_ble_eq_true rfl) (by simp) (fun E B g hF => ?_)
  unfold w_dr_layOut at h
  refine PW.aload_n g rfl rfl d_dr_layOut_0 ?_
  refine PW.getI g fi_dr_29 ht d_dr_layOut_1 ?_
  refine PW.bipush g (120) (by decide) d_dr_layOut_4 ?_
  refine PX.mmin g (pw_gw 1027 (by decide +kernel) (by decide +kernel)) (by omega) rfl (Nat.le_of_ble_eq_true rfl) d_dr_layOut_6 ?_
  refine PW.iconst g (1) (by decide) d_dr_layOut_9 ?_
  refine PW.isub g d_dr_layOut_10 ?_
  refine PW.istore_n g rfl (L' := [some (.ref t), some (.int ((if (120 : Int32) < (I t 5) then (120 : Int32) else (I t 5)) - (1 : Int32))), none, none]) (by decide) rfl rfl d_dr_layOut_11 ?_
  refine PX.sub [some (.ref t), some (.int ((if (120 : Int32) < (I t 5) then (120 : Int32) else (I t 5)) - (1 : Int32))), none, none] ⟨rfl, ⟨rfl, trivial⟩⟩ ?_
  obtain ⟨n2, h⟩ := h
  refine L_dr_layOut_12 d ht g hF (fun I7 R5 hL h => ?_) n2 ((if (120 : Int32) < (I t 5) then (120 : Int32) else (I t 5)) - (1 : Int32)) I R hL h
  exact PX.vret g hF rfl d_dr_layOut_90 hL h
def l_dr_addValues_3 (t : Nat) (a1 : Nat) (z1 : Nat) (a2 : Nat) (z2 : Nat) (f3 : Int32) (K : pI → pR → Prop) (Q : pI → pR → Prop) : Nat → Int32 → pI → pR → Prop
  | 0, _, _, _ => False
  | n + 1, x4, I, R => (((I t 4) ≤ x4 → K I R) ∧ (¬ (I t 4) ≤ x4 → (w_sr_pick a1 z1 (f3 + x4) I R (fun v1 I1 R1 => ((v1 = 0 → l_dr_addValues_3 t a1 z1 a2 z2 f3 K Q n (x4 + 1) I1 R1) ∧ (¬ v1 = 0 → (((120 : Int32) ≤ (I1 t 5) → l_dr_addValues_3 t a1 z1 a2 z2 f3 K Q n (x4 + 1) I1 R1) ∧ (¬ (120 : Int32) ≤ (I1 t 5) → (vp_in (I1 t 5) 120 ∧ ∀ I2, I2 = pw_wI I1 (t + 2) (I1 t 5).toNatClampNeg x4 → (w_sr_pick a2 z2 (f3 + x4) I2 R1 (fun v2 I3 R2 => (vp_in (I2 t 5) 120 ∧ ∀ I4, I4 = pw_wI I3 (t + 3) (I2 t 5).toNatClampNeg v2 → (∀ I5, I5 = pw_wI I4 t 5 ((I4 t 5) + (1 : Int32)) → l_dr_addValues_3 t a1 z1 a2 z2 f3 K Q n (x4 + 1) I5 R2)))))))))))))
set_option maxHeartbeats 4000000 in
set_option maxRecDepth 100000 in
theorem L_dr_addValues_3 (d : Nat) {t : Nat} {a1 : Nat} {z1 : Nat} {a2 : Nat} {z2 : Nat} (ht : pSH[t]? = some (0, 3)) (ha1 : pSH[a1]? = some (1, z1)) (ha2 : pSH[a2]? = some (1, z2)) {f3 : Int32} {K : pI → pR → Prop} {Q : pI → pR → Prop} {E : pE} {B : pB} (g : pw_G m_dr_addValues (d + 3) 0 0 E B) (hF : pX (qv Q) E B) (hK : ∀ (I : pI) (R : pR), pw_Lay R → K  I R → PX E B m_dr_addValues.2.2.1 76 [some (.ref t), none, none, none, none] [] I R) : ∀ (n : Nat) (x4 : Int32) (I : pI) (R : pR), pw_Lay R → l_dr_addValues_3 t a1 z1 a2 z2 f3 K Q n x4 I R → PX E B m_dr_addValues.2.2.1 3 [some (.ref t), some (.ref a1), some (.ref a2), some (.int f3), some (.int x4)] [] I R := by
  intro n
  induction n with
  | zero => intro x4 I R hL h; exact False.elim h
  | succ n ih =>
    intro x4 I R hL h
    refine PW.iload g rfl d_dr_addValues_3 ?_
    refine PW.aload_n g rfl rfl d_dr_addValues_5 ?_
    refine PW.getI g fi_dr_25 ht d_dr_addValues_6 ?_
    refine PW.icmp_ge g 76 (by decide) d_dr_addValues_9 (fun c1 => ?_) (fun c1 => ?_)
    · have h := h.1 c1
      refine PX.sub [some (.ref t), none, none, none, none] ⟨rfl, trivial⟩ ?_
      exact hK _ _ hL h
    · have h := h.2 c1
      refine PW.aload_n g rfl rfl d_dr_addValues_12 ?_
      refine PW.iload_n g rfl rfl d_dr_addValues_13 ?_
      refine PW.iload g rfl d_dr_addValues_14 ?_
      refine PW.iadd g d_dr_addValues_16 ?_
      refine PX.cSi [.ref a1, .int (f3 + x4)] [] g (c_sr_pick d ha1 hL h) cl_dr_44 (by omega) (by decide) rfl rfl (Nat.le_of_ble_eq_true rfl) d_dr_addValues_17 (fun v1 I1 R1 hL h => ?_)
      refine PW.if_eq g 70 (by decide) d_dr_addValues_20 (fun c2 => ?_) (fun c2 => ?_)
      · have h := h.1 c2
        refine PW.iinc g rfl (show x4 + Int32.ofInt (1) = (x4 + 1) from congrArg (HAdd.hAdd x4) (by decide)) (by decide) rfl (L' := [some (.ref t), some (.ref a1), some (.ref a2), some (.int f3), some (.int (x4 + 1))]) rfl d_dr_addValues_70 ?_
        refine PW.goto g 3 (by decide) d_dr_addValues_73 ?_
        refine PX.sub [some (.ref t), some (.ref a1), some (.ref a2), some (.int f3), some (.int (x4 + 1))] ⟨rfl, ⟨rfl, ⟨rfl, ⟨rfl, ⟨rfl, trivial⟩⟩⟩⟩⟩ ?_
        exact ih _ _ _ hL h
      · have h := h.2 c2
        refine PW.aload_n g rfl rfl d_dr_addValues_23 ?_
        refine PW.getI g fi_dr_29 ht d_dr_addValues_24 ?_
        refine PW.bipush g (120) (by decide) d_dr_addValues_27 ?_
        refine PW.icmp_ge g 70 (by decide) d_dr_addValues_29 (fun c3 => ?_) (fun c3 => ?_)
        · have h := h.1 c3
          refine PW.iinc g rfl (show x4 + Int32.ofInt (1) = (x4 + 1) from congrArg (HAdd.hAdd x4) (by decide)) (by decide) rfl (L' := [some (.ref t), some (.ref a1), some (.ref a2), some (.int f3), some (.int (x4 + 1))]) rfl d_dr_addValues_70 ?_
          refine PW.goto g 3 (by decide) d_dr_addValues_73 ?_
          refine PX.sub [some (.ref t), some (.ref a1), some (.ref a2), some (.int f3), some (.int (x4 + 1))] ⟨rfl, ⟨rfl, ⟨rfl, ⟨rfl, ⟨rfl, trivial⟩⟩⟩⟩⟩ ?_
          exact ih _ _ _ hL h
        · have h := h.2 c3
          refine PW.aload_n g rfl rfl d_dr_addValues_32 ?_
          refine PW.getR (q := (t + 2)) g fi_dr_15 ht (hL t 3 1 ht (by decide)) d_dr_addValues_33 ?_
          refine PW.aload_n g rfl rfl d_dr_addValues_36 ?_
          refine PW.getI g fi_dr_29 ht d_dr_addValues_37 ?_
          refine PW.iload g rfl d_dr_addValues_40 ?_
          refine PW.iast g (pw_shp ht 1 (by decide)) h.1 d_dr_addValues_42 ?_
          refine PX.gI (fun I2 eI2 => ?_)
          have h := h.2 _ eI2
          refine PW.aload_n g rfl rfl d_dr_addValues_43 ?_
          refine PW.getR (q := (t + 3)) g fi_dr_19 ht (hL t 3 2 ht (by decide)) d_dr_addValues_44 ?_
          refine PW.aload_n g rfl rfl d_dr_addValues_47 ?_
          refine PW.getI g fi_dr_29 ht d_dr_addValues_48 ?_
          refine PW.aload_n g rfl rfl d_dr_addValues_51 ?_
          refine PW.iload_n g rfl rfl d_dr_addValues_52 ?_
          refine PW.iload g rfl d_dr_addValues_53 ?_
          refine PW.iadd g d_dr_addValues_55 ?_
          refine PX.cSi [.ref a2, .int (f3 + x4)] [.int (I2 t 5), .ref (t + 3)] g (c_sr_pick d ha2 hL h) cl_dr_44 (by omega) (by decide) rfl rfl (Nat.le_of_ble_eq_true rfl) d_dr_addValues_56 (fun v2 I3 R2 hL h => ?_)
          refine PW.iast g (pw_shp ht 2 (by decide)) h.1 d_dr_addValues_59 ?_
          refine PX.gI (fun I4 eI4 => ?_)
          have h := h.2 _ eI4
          refine PW.aload_n g rfl rfl d_dr_addValues_60 ?_
          refine PW.dup g rfl d_dr_addValues_61 ?_
          refine PW.getI g fi_dr_29 ht d_dr_addValues_62 ?_
          refine PW.iconst g (1) (by decide) d_dr_addValues_65 ?_
          refine PW.iadd g d_dr_addValues_66 ?_
          refine PW.putI g fi_dr_29 ht rfl rfl d_dr_addValues_67 ?_
          refine PX.gI (fun I5 eI5 => ?_)
          have h := h _ eI5
          refine PW.iinc g rfl (show x4 + Int32.ofInt (1) = (x4 + 1) from congrArg (HAdd.hAdd x4) (by decide)) (by decide) rfl (L' := [some (.ref t), some (.ref a1), some (.ref a2), some (.int f3), some (.int (x4 + 1))]) rfl d_dr_addValues_70 ?_
          refine PW.goto g 3 (by decide) d_dr_addValues_73 ?_
          refine PX.sub [some (.ref t), some (.ref a1), some (.ref a2), some (.int f3), some (.int (x4 + 1))] ⟨rfl, ⟨rfl, ⟨rfl, ⟨rfl, ⟨rfl, trivial⟩⟩⟩⟩⟩ ?_
          exact ih _ _ _ hL h
def w_dr_addValues (t : Nat) (a1 : Nat) (z1 : Nat) (a2 : Nat) (z2 : Nat) (a3 : Int32) (I : pI) (R : pR) (Q : pI → pR → Prop) : Prop := (∃ n1, l_dr_addValues_3 t a1 z1 a2 z2 a3 (fun I6 R3 => (w_dr_layOut t I6 R3 (fun I7 R4 => Q I7 R4))) Q n1 (0 : Int32) I R)
set_option maxHeartbeats 4000000 in
set_option maxRecDepth 100000 in
theorem c_dr_addValues (d : Nat) {t : Nat} {a1 : Nat} {z1 : Nat} {a2 : Nat} {z2 : Nat} (ht : pSH[t]? = some (0, 3)) (ha1 : pSH[a1]? = some (1, z1)) (ha2 : pSH[a2]? = some (1, z2)) {a3 : Int32} {I : pI} {R : pR} {Q : pI → pR → Prop} (hL : pw_Lay R) (h : w_dr_addValues t a1 z1 a2 z2 a3 I R Q) : Cm (d + 3) m_dr_addValues [.ref t, .ref a1, .ref a2, .int a3] I R (qv Q) := by
  refine Cm.of [some (.ref t), some (.ref a1), some (.ref a2), some (.int a3), none] (by decide) rfl (Nat.le_of_ble_eq_true rfl) (by simp) (fun E B g hF => ?_)
  unfold w_dr_addValues at h
  refine PW.iconst g (0) (by decide) d_dr_addValues_0 ?_
  refine PW.istore g (L' := [some (.ref t), some (.ref a1), some (.ref a2), some (.int a3), some (.int (0 : Int32))]) (by decide) rfl rfl d_dr_addValues_1 ?_
  refine PX.sub [some (.ref t), some (.ref a1), some (.ref a2), some (.int a3), some (.int (0 : Int32))] ⟨rfl, ⟨rfl, ⟨rfl, ⟨rfl, ⟨rfl, trivial⟩⟩⟩⟩⟩ ?_
  obtain ⟨n1, h⟩ := h
  refine L_dr_addValues_3 d ht ha1 ha2 g hF (fun I6 R3 hL h => ?_) n1 (0 : Int32) I R hL h
  refine PW.aload_n g rfl rfl d_dr_addValues_76 ?_
  refine PX.cVv [] [] g ht ck_dr (c_dr_layOut d ht hL h) cl_dr_48 (by omega) (by decide) rfl rfl (Nat.le_of_ble_eq_true rfl) d_dr_addValues_77 (fun I7 R4 hL h => ?_)
  exact PX.vret g hF rfl d_dr_addValues_80 hL h
def l_dr_write_16 (t : Nat) (a1 : Nat) (f3 : Int32) (K : pI → pR → Prop) (Q : pI → pR → Prop) : Nat → Int32 → pI → pR → Prop
  | 0, _, _, _ => False
  | n + 1, x4, I, R => ((f3 ≤ x4 → K I R) ∧ (¬ f3 ≤ x4 → (((Int32.ofNat 120) ≤ x4 → K I R) ∧ (¬ (Int32.ofNat 120) ≤ x4 → (((120 : Int32) ≤ (I t 4) → K I R) ∧ (¬ (120 : Int32) ≤ (I t 4) → (vp_in x4 120 ∧ (vp_in (I t 4) 120 ∧ ∀ I3, I3 = pw_wI I (t + 1) (I t 4).toNatClampNeg (vp_nar .char (I a1 x4.toNatClampNeg)) → (∀ I4, I4 = pw_wI I3 t 4 ((I3 t 4) + (1 : Int32)) → l_dr_write_16 t a1 f3 K Q n (x4 + 1) I4 R)))))))))
set_option maxHeartbeats 4000000 in
set_option maxRecDepth 100000 in
theorem L_dr_write_16 (d : Nat) {t : Nat} {a1 : Nat} (ht : pSH[t]? = some (0, 3)) (ha1 : pSH[a1]? = some (2, 120)) {f3 : Int32} {K : pI → pR → Prop} {Q : pI → pR → Prop} {E : pE} {B : pB} (g : pw_G m_dr_write (d + 2) 0 0 E B) (hF : pX (qv Q) E B) (hK : ∀ (I : pI) (R : pR), pw_Lay R → K  I R → PX E B m_dr_write.2.2.1 67 [none, none, none, none, none] [] I R) : ∀ (n : Nat) (x4 : Int32) (I : pI) (R : pR), pw_Lay R → l_dr_write_16 t a1 f3 K Q n x4 I R → PX E B m_dr_write.2.2.1 16 [some (.ref t), some (.ref a1), none, some (.int f3), some (.int x4)] [] I R := by
  intro n
  induction n with
  | zero => intro x4 I R hL h; exact False.elim h
  | succ n ih =>
    intro x4 I R hL h
    refine PW.iload g rfl d_dr_write_16 ?_
    refine PW.iload_n g rfl rfl d_dr_write_18 ?_
    refine PW.icmp_ge g 67 (by decide) d_dr_write_19 (fun c1 => ?_) (fun c1 => ?_)
    · have h := h.1 c1
      refine PX.sub [none, none, none, none, none] trivial ?_
      exact hK _ _ hL h
    · have h := h.2 c1
      refine PW.iload g rfl d_dr_write_22 ?_
      refine PW.aload_n g rfl rfl d_dr_write_24 ?_
      refine PW.alen g (by decide) (by decide) ha1 rfl d_dr_write_25 ?_
      refine PW.icmp_ge g 67 (by decide) d_dr_write_26 (fun c2 => ?_) (fun c2 => ?_)
      · have h := h.1 c2
        refine PX.sub [none, none, none, none, none] trivial ?_
        exact hK _ _ hL h
      · have h := h.2 c2
        refine PW.aload_n g rfl rfl d_dr_write_29 ?_
        refine PW.getI g fi_dr_25 ht d_dr_write_30 ?_
        refine PW.bipush g (120) (by decide) d_dr_write_33 ?_
        refine PW.icmp_ge g 67 (by decide) d_dr_write_35 (fun c3 => ?_) (fun c3 => ?_)
        · have h := h.1 c3
          refine PX.sub [none, none, none, none, none] trivial ?_
          exact hK _ _ hL h
        · have h := h.2 c3
          refine PW.aload_n g rfl rfl d_dr_write_38 ?_
          refine PW.getR (q := (t + 1)) g fi_dr_9 ht (hL t 3 0 ht (by decide)) d_dr_write_39 ?_
          refine PW.aload_n g rfl rfl d_dr_write_42 ?_
          refine PW.getI g fi_dr_25 ht d_dr_write_43 ?_
          refine PW.aload_n g rfl rfl d_dr_write_46 ?_
          refine PW.iload g rfl d_dr_write_47 ?_
          refine PW.cald g ha1 h.1 d_dr_write_49 ?_
          have h := h.2
          refine PW.cast g (pw_shp ht 0 (by decide)) h.1 d_dr_write_50 ?_
          refine PX.gI (fun I3 eI3 => ?_)
          have h := h.2 _ eI3
          refine PW.aload_n g rfl rfl d_dr_write_51 ?_
          refine PW.dup g rfl d_dr_write_52 ?_
          refine PW.getI g fi_dr_25 ht d_dr_write_53 ?_
          refine PW.iconst g (1) (by decide) d_dr_write_56 ?_
          refine PW.iadd g d_dr_write_57 ?_
          refine PW.putI g fi_dr_25 ht rfl rfl d_dr_write_58 ?_
          refine PX.gI (fun I4 eI4 => ?_)
          have h := h _ eI4
          refine PW.iinc g rfl (show x4 + Int32.ofInt (1) = (x4 + 1) from congrArg (HAdd.hAdd x4) (by decide)) (by decide) rfl (L' := [some (.ref t), some (.ref a1), none, some (.int f3), some (.int (x4 + 1))]) rfl d_dr_write_61 ?_
          refine PW.goto g 16 (by decide) d_dr_write_64 ?_
          refine PX.sub [some (.ref t), some (.ref a1), none, some (.int f3), some (.int (x4 + 1))] ⟨rfl, ⟨rfl, ⟨rfl, ⟨rfl, trivial⟩⟩⟩⟩ ?_
          exact ih _ _ _ hL h
def w_dr_write (t : Nat) (a1 : Nat) (a2 : Int32) (a3 : Int32) (I : pI) (R : pR) (Q : pI → pR → Prop) : Prop := (w_dr_erase t I R (fun I1 R1 => (∀ I2, I2 = pw_wI I1 t 6 (1 : Int32) → (∃ n1, l_dr_write_16 t a1 a3 (fun I5 R2 => Q I5 R2) Q n1 (if (0 : Int32) < a2 then a2 else (0 : Int32)) I2 R1))))
set_option maxHeartbeats 4000000 in
set_option maxRecDepth 100000 in
theorem c_dr_write (d : Nat) {t : Nat} {a1 : Nat} (ht : pSH[t]? = some (0, 3)) (ha1 : pSH[a1]? = some (2, 120)) {a2 : Int32} {a3 : Int32} {I : pI} {R : pR} {Q : pI → pR → Prop} (hL : pw_Lay R) (h : w_dr_write t a1 a2 a3 I R Q) : Cm (d + 2) m_dr_write [.ref t, .ref a1, .int a2, .int a3] I R (qv Q) := by
  refine Cm.of [some (.ref t), some (.ref a1), some (.int a2), some (.int a3), none] (by decide) rfl (Nat.le_of_ble_eq_true rfl) (by simp) (fun E B g hF => ?_)
  unfold w_dr_write at h
  refine PW.aload_n g rfl rfl d_dr_write_0 ?_
  refine PX.cVv [] [] g ht ck_dr (c_dr_erase d ht hL h) cl_dr_35 (by omega) (by decide) rfl rfl (Nat.le_of_ble_eq_true rfl) d_dr_write_1 (fun I1 R1 hL h => ?_)
  refine PW.aload_n g rfl rfl d_dr_write_4 ?_
  refine PW.iconst g (1) (by decide) d_dr_write_5 ?_
  refine PW.putI g fi_dr_32 ht rfl rfl d_dr_write_6 ?_
  refine PX.gI (fun I2 eI2 => ?_)
  have h := h _ eI2
  refine PW.iconst g (0) (by decide) d_dr_write_9 ?_
  refine PW.iload_n g rfl rfl d_dr_write_10 ?_
  refine PX.mmax g (pw_gw 1017 (by decide +kernel) (by decide +kernel)) (by omega) rfl (Nat.le_of_ble_eq_true rfl) d_dr_write_11 ?_
  refine PW.istore g (L' := [some (.ref t), some (.ref a1), some (.int a2), some (.int a3), some (.int (if (0 : Int32) < a2 then a2 else (0 : Int32)))]) (by decide) rfl rfl d_dr_write_14 ?_
  refine PX.sub [some (.ref t), some (.ref a1), none, some (.int a3), some (.int (if (0 : Int32) < a2 then a2 else (0 : Int32)))] ⟨rfl, ⟨rfl, ⟨rfl, ⟨rfl, trivial⟩⟩⟩⟩ ?_
  obtain ⟨n1, h⟩ := h
  refine L_dr_write_16 d ht ha1 g hF (fun I5 R2 hL h => ?_) n1 (if (0 : Int32) < a2 then a2 else (0 : Int32)) I2 R1 hL h
  exact PX.vret g hF rfl d_dr_write_67 hL h
def w_dr_columnOf (t : Nat) (a1 : Int32) (I : pI) (R : pR) (Q : Int32 → pI → pR → Prop) : Prop := ((a1 < 0 → Q (-1 : Int32) I R) ∧ (¬ a1 < 0 → (((I t 5) ≤ a1 → Q (-1 : Int32) I R) ∧ (¬ (I t 5) ≤ a1 → (((120 : Int32) ≤ a1 → Q (-1 : Int32) I R) ∧ (¬ (120 : Int32) ≤ a1 → (vp_in a1 120 ∧ Q (I (t + 2) a1.toNatClampNeg) I R)))))))
set_option maxHeartbeats 4000000 in
set_option maxRecDepth 100000 in
theorem c_dr_columnOf (d : Nat) {t : Nat} (ht : pSH[t]? = some (0, 3)) {a1 : Int32} {I : pI} {R : pR} {Q : Int32 → pI → pR → Prop} (hL : pw_Lay R) (h : w_dr_columnOf t a1 I R Q) : Cm (d + 1) m_dr_columnOf [.ref t, .int a1] I R (qi Q) := by
  refine Cm.of [some (.ref t), some (.int a1)] (by decide) rfl (Nat.le_of_ble_eq_true rfl) (by simp) (fun E B g hF => ?_)
  unfold w_dr_columnOf at h
  refine PW.iload_n g rfl rfl d_dr_columnOf_0 ?_
  refine PW.if_lt g 27 (by decide) d_dr_columnOf_1 (fun c1 => ?_) (fun c1 => ?_)
  · have h := h.1 c1
    refine PW.iconst g (-1) (by decide) d_dr_columnOf_27 ?_
    exact PX.iret g hF rfl d_dr_columnOf_28 hL h
  · have h := h.2 c1
    refine PW.iload_n g rfl rfl d_dr_columnOf_4 ?_
    refine PW.aload_n g rfl rfl d_dr_columnOf_5 ?_
    refine PW.getI g fi_dr_29 ht d_dr_columnOf_6 ?_
    refine PW.icmp_ge g 27 (by decide) d_dr_columnOf_9 (fun c2 => ?_) (fun c2 => ?_)
    · have h := h.1 c2
      refine PW.iconst g (-1) (by decide) d_dr_columnOf_27 ?_
      exact PX.iret g hF rfl d_dr_columnOf_28 hL h
    · have h := h.2 c2
      refine PW.iload_n g rfl rfl d_dr_columnOf_12 ?_
      refine PW.bipush g (120) (by decide) d_dr_columnOf_13 ?_
      refine PW.icmp_ge g 27 (by decide) d_dr_columnOf_15 (fun c3 => ?_) (fun c3 => ?_)
      · have h := h.1 c3
        refine PW.iconst g (-1) (by decide) d_dr_columnOf_27 ?_
        exact PX.iret g hF rfl d_dr_columnOf_28 hL h
      · have h := h.2 c3
        refine PW.aload_n g rfl rfl d_dr_columnOf_18 ?_
        refine PW.getR (q := (t + 2)) g fi_dr_15 ht (hL t 3 1 ht (by decide)) d_dr_columnOf_19 ?_
        refine PW.iload_n g rfl rfl d_dr_columnOf_22 ?_
        refine PW.iald g (pw_shp ht 1 (by decide)) h.1 d_dr_columnOf_23 ?_
        have h := h.2
        refine PW.goto g 28 (by decide) d_dr_columnOf_24 ?_
        exact PX.iret g hF rfl d_dr_columnOf_28 hL h
def w_dr_valueOf (t : Nat) (a1 : Int32) (I : pI) (R : pR) (Q : Int32 → pI → pR → Prop) : Prop := ((a1 < 0 → Q (0 : Int32) I R) ∧ (¬ a1 < 0 → (((I t 5) ≤ a1 → Q (0 : Int32) I R) ∧ (¬ (I t 5) ≤ a1 → (((120 : Int32) ≤ a1 → Q (0 : Int32) I R) ∧ (¬ (120 : Int32) ≤ a1 → (vp_in a1 120 ∧ Q (I (t + 3) a1.toNatClampNeg) I R)))))))
set_option maxHeartbeats 4000000 in
set_option maxRecDepth 100000 in
theorem c_dr_valueOf (d : Nat) {t : Nat} (ht : pSH[t]? = some (0, 3)) {a1 : Int32} {I : pI} {R : pR} {Q : Int32 → pI → pR → Prop} (hL : pw_Lay R) (h : w_dr_valueOf t a1 I R Q) : Cm (d + 1) m_dr_valueOf [.ref t, .int a1] I R (qi Q) := by
  refine Cm.of [some (.ref t), some (.int a1)] (by decide) rfl (Nat.le_of_ble_eq_true rfl) (by simp) (fun E B g hF => ?_)
  unfold w_dr_valueOf at h
  refine PW.iload_n g rfl rfl d_dr_valueOf_0 ?_
  refine PW.if_lt g 27 (by decide) d_dr_valueOf_1 (fun c1 => ?_) (fun c1 => ?_)
  · have h := h.1 c1
    refine PW.iconst g (0) (by decide) d_dr_valueOf_27 ?_
    exact PX.iret g hF rfl d_dr_valueOf_28 hL h
  · have h := h.2 c1
    refine PW.iload_n g rfl rfl d_dr_valueOf_4 ?_
    refine PW.aload_n g rfl rfl d_dr_valueOf_5 ?_
    refine PW.getI g fi_dr_29 ht d_dr_valueOf_6 ?_
    refine PW.icmp_ge g 27 (by decide) d_dr_valueOf_9 (fun c2 => ?_) (fun c2 => ?_)
    · have h := h.1 c2
      refine PW.iconst g (0) (by decide) d_dr_valueOf_27 ?_
      exact PX.iret g hF rfl d_dr_valueOf_28 hL h
    · have h := h.2 c2
      refine PW.iload_n g rfl rfl d_dr_valueOf_12 ?_
      refine PW.bipush g (120) (by decide) d_dr_valueOf_13 ?_
      refine PW.icmp_ge g 27 (by decide) d_dr_valueOf_15 (fun c3 => ?_) (fun c3 => ?_)
      · have h := h.1 c3
        refine PW.iconst g (0) (by decide) d_dr_valueOf_27 ?_
        exact PX.iret g hF rfl d_dr_valueOf_28 hL h
      · have h := h.2 c3
        refine PW.aload_n g rfl rfl d_dr_valueOf_18 ?_
        refine PW.getR (q := (t + 3)) g fi_dr_19 ht (hL t 3 2 ht (by decide)) d_dr_valueOf_19 ?_
        refine PW.iload_n g rfl rfl d_dr_valueOf_22 ?_
        refine PW.iald g (pw_shp ht 2 (by decide)) h.1 d_dr_valueOf_23 ?_
        have h := h.2
        refine PW.goto g 28 (by decide) d_dr_valueOf_24 ?_
        exact PX.iret g hF rfl d_dr_valueOf_28 hL h
def l_dr_digitOf_20 (f1 : Int32) (K : Int32 → pI → pR → Prop) (Q : Int32 → pI → pR → Prop) : Nat → Int32 → Int32 → pI → pR → Prop
  | 0, _, _, _, _ => False
  | n + 1, x2, x3, I, R => ((x3 ≤ f1 → K x2 I R) ∧ (¬ x3 ≤ f1 → l_dr_digitOf_20 f1 K Q n (x2 / (10 : Int32)) (x3 + (-1)) I R))
set_option maxHeartbeats 4000000 in
set_option maxRecDepth 100000 in
theorem L_dr_digitOf_20 (d : Nat) {f1 : Int32} {K : Int32 → pI → pR → Prop} {Q : Int32 → pI → pR → Prop} {E : pE} {B : pB} (g : pw_G m_dr_digitOf (d + 2) 0 0 E B) (hF : pX (qi Q) E B) (hK : ∀ (y2 : Int32) (I : pI) (R : pR), pw_Lay R → K y2 I R → PX E B m_dr_digitOf.2.2.1 36 [none, none, some (.int y2), none] [] I R) : ∀ (n : Nat) (x2 : Int32) (x3 : Int32) (I : pI) (R : pR), pw_Lay R → l_dr_digitOf_20 f1 K Q n x2 x3 I R → PX E B m_dr_digitOf.2.2.1 20 [none, some (.int f1), some (.int x2), some (.int x3)] [] I R := by
  intro n
  induction n with
  | zero => intro x2 x3 I R hL h; exact False.elim h
  | succ n ih =>
    intro x2 x3 I R hL h
    refine PW.iload_n g rfl rfl d_dr_digitOf_20 ?_
    refine PW.iload_n g rfl rfl d_dr_digitOf_21 ?_
    refine PW.icmp_le g 36 (by decide) d_dr_digitOf_22 (fun c2 => ?_) (fun c2 => ?_)
    · have h := h.1 c2
      refine PX.sub [none, none, some (.int x2), none] ⟨rfl, trivial⟩ ?_
      exact hK _ _ _ hL h
    · have h := h.2 c2
      refine PW.iload_n g rfl rfl d_dr_digitOf_25 ?_
      refine PW.bipush g (10) (by decide) d_dr_digitOf_26 ?_
      refine PW.idiv g (by decide) d_dr_digitOf_28 ?_
      refine PW.istore_n g rfl (L' := [none, some (.int f1), some (.int (x2 / (10 : Int32))), some (.int x3)]) (by decide) rfl rfl d_dr_digitOf_29 ?_
      refine PW.iinc g rfl (show x3 + Int32.ofInt (-1) = (x3 + (-1)) from congrArg (HAdd.hAdd x3) (by decide)) (by decide) rfl (L' := [none, some (.int f1), some (.int (x2 / (10 : Int32))), some (.int (x3 + (-1)))]) rfl d_dr_digitOf_30 ?_
      refine PW.goto g 20 (by decide) d_dr_digitOf_33 ?_
      refine PX.sub [none, some (.int f1), some (.int (x2 / (10 : Int32))), some (.int (x3 + (-1)))] ⟨rfl, ⟨rfl, ⟨rfl, trivial⟩⟩⟩ ?_
      exact ih _ _ _ _ hL h
def w_dr_digitOf (a1 : Int32) (a2 : Int32) (I : pI) (R : pR) (Q : Int32 → pI → pR → Prop) : Prop := ((0 ≤ a1 → (w_dr_widthOf a1 I R (fun v1 I1 R1 => (∃ n1, l_dr_digitOf_20 a2 (fun y1 I2 R2 => Q ((48 : Int32) + (if 0 ≤ (y1 - y1 / (10 : Int32) * (10 : Int32)) then (y1 - y1 / (10 : Int32) * (10 : Int32)) else 0 - (y1 - y1 / (10 : Int32) * (10 : Int32)))) I2 R2) Q n1 a1 (v1 - (1 : Int32)) I1 R1)))) ∧ (¬ 0 ≤ a1 → ((¬ a2 = 0 → (w_dr_widthOf a1 I R (fun v2 I3 R3 => (∃ n2, l_dr_digitOf_20 a2 (fun y2 I4 R4 => Q ((48 : Int32) + (if 0 ≤ (y2 - y2 / (10 : Int32) * (10 : Int32)) then (y2 - y2 / (10 : Int32) * (10 : Int32)) else 0 - (y2 - y2 / (10 : Int32) * (10 : Int32)))) I4 R4) Q n2 a1 (v2 - (1 : Int32)) I3 R3)))) ∧ (a2 = 0 → Q (45 : Int32) I R))))
set_option maxHeartbeats 4000000 in
set_option maxRecDepth 100000 in
theorem c_dr_digitOf (d : Nat) {a1 : Int32} {a2 : Int32} {I : pI} {R : pR} {Q : Int32 → pI → pR → Prop} (hL : pw_Lay R) (h : w_dr_digitOf a1 a2 I R Q) : Cm (d + 2) m_dr_digitOf [.int a1, .int a2] I R (qi Q) := by
  refine Cm.of [some (.int a1), some (.int a2), none, none] (by decide) rfl (Nat.le_of_ble_eq_true rfl) (by simp) (fun E B g hF => ?_)
  unfold w_dr_digitOf at h
  refine PW.iload_n g rfl rfl d_dr_digitOf_0 ?_
  refine PW.if_ge g 11 (by decide) d_dr_digitOf_1 (fun c1 => ?_) (fun c1 => ?_)
  · have h := h.1 c1
    refine PW.iload_n g rfl rfl d_dr_digitOf_11 ?_
    refine PW.istore_n g rfl (L' := [some (.int a1), some (.int a2), some (.int a1), none]) (by decide) rfl rfl d_dr_digitOf_12 ?_
    refine PW.iload_n g rfl rfl d_dr_digitOf_13 ?_
    refine PX.cSi [.int a1] [] g (c_dr_widthOf d  hL h) cl_dr_51 (by omega) (by decide) rfl rfl (Nat.le_of_ble_eq_true rfl) d_dr_digitOf_14 (fun v1 I1 R1 hL h => ?_)
    refine PW.iconst g (1) (by decide) d_dr_digitOf_17 ?_
    refine PW.isub g d_dr_digitOf_18 ?_
    refine PW.istore_n g rfl (L' := [some (.int a1), some (.int a2), some (.int a1), some (.int (v1 - (1 : Int32)))]) (by decide) rfl rfl d_dr_digitOf_19 ?_
    refine PX.sub [none, some (.int a2), some (.int a1), some (.int (v1 - (1 : Int32)))] ⟨rfl, ⟨rfl, ⟨rfl, trivial⟩⟩⟩ ?_
    obtain ⟨n1, h⟩ := h
    refine L_dr_digitOf_20 d g hF (fun y1 I2 R2 hL h => ?_) n1 a1 (v1 - (1 : Int32)) I1 R1 hL h
    refine PW.bipush g (48) (by decide) d_dr_digitOf_36 ?_
    refine PW.iload_n g rfl rfl d_dr_digitOf_38 ?_
    refine PW.bipush g (10) (by decide) d_dr_digitOf_39 ?_
    refine PW.irem g (by decide) d_dr_digitOf_41 ?_
    refine PX.mabs g (pw_gw 1111 (by decide +kernel) (by decide +kernel)) (by omega) rfl (Nat.le_of_ble_eq_true rfl) d_dr_digitOf_42 ?_
    refine PW.iadd g d_dr_digitOf_45 ?_
    exact PX.iret g hF rfl d_dr_digitOf_46 hL h
  · have h := h.2 c1
    refine PW.iload_n g rfl rfl d_dr_digitOf_4 ?_
    refine PW.if_ne g 11 (by decide) d_dr_digitOf_5 (fun c3 => ?_) (fun c3 => ?_)
    · have h := h.1 c3
      refine PW.iload_n g rfl rfl d_dr_digitOf_11 ?_
      refine PW.istore_n g rfl (L' := [some (.int a1), some (.int a2), some (.int a1), none]) (by decide) rfl rfl d_dr_digitOf_12 ?_
      refine PW.iload_n g rfl rfl d_dr_digitOf_13 ?_
      refine PX.cSi [.int a1] [] g (c_dr_widthOf d  hL h) cl_dr_51 (by omega) (by decide) rfl rfl (Nat.le_of_ble_eq_true rfl) d_dr_digitOf_14 (fun v2 I3 R3 hL h => ?_)
      refine PW.iconst g (1) (by decide) d_dr_digitOf_17 ?_
      refine PW.isub g d_dr_digitOf_18 ?_
      refine PW.istore_n g rfl (L' := [some (.int a1), some (.int a2), some (.int a1), some (.int (v2 - (1 : Int32)))]) (by decide) rfl rfl d_dr_digitOf_19 ?_
      refine PX.sub [none, some (.int a2), some (.int a1), some (.int (v2 - (1 : Int32)))] ⟨rfl, ⟨rfl, ⟨rfl, trivial⟩⟩⟩ ?_
      obtain ⟨n2, h⟩ := h
      refine L_dr_digitOf_20 d g hF (fun y2 I4 R4 hL h => ?_) n2 a1 (v2 - (1 : Int32)) I3 R3 hL h
      refine PW.bipush g (48) (by decide) d_dr_digitOf_36 ?_
      refine PW.iload_n g rfl rfl d_dr_digitOf_38 ?_
      refine PW.bipush g (10) (by decide) d_dr_digitOf_39 ?_
      refine PW.irem g (by decide) d_dr_digitOf_41 ?_
      refine PX.mabs g (pw_gw 1111 (by decide +kernel) (by decide +kernel)) (by omega) rfl (Nat.le_of_ble_eq_true rfl) d_dr_digitOf_42 ?_
      refine PW.iadd g d_dr_digitOf_45 ?_
      exact PX.iret g hF rfl d_dr_digitOf_46 hL h
    · have h := h.2 c3
      refine PW.bipush g (45) (by decide) d_dr_digitOf_8 ?_
      exact PX.iret g hF rfl d_dr_digitOf_10 hL h
def j_dr_characterAt_87 (t : Nat) (K50 : Int32 → pI → pR → Prop) (Q : Int32 → pI → pR → Prop) (f1 : Int32) (f2 : Int32) (x3 : Int32) (I : pI) (R : pR) : Prop := (vp_in x3 120 ∧ ((¬ f1 = (I (t + 4) x3.toNatClampNeg) → K50 (x3 + 1) I R) ∧ (f1 = (I (t + 4) x3.toNatClampNeg) → (vp_in x3 120 ∧ ((f2 < (I (t + 2) x3.toNatClampNeg) → K50 (x3 + 1) I R) ∧ (¬ f2 < (I (t + 2) x3.toNatClampNeg) → (vp_in x3 120 ∧ (vp_in x3 120 ∧ (w_dr_widthOf (I (t + 3) x3.toNatClampNeg) I R (fun v1 I1 R1 => ((v1 ≤ (f2 - (I (t + 2) x3.toNatClampNeg)) → K50 (x3 + 1) I1 R1) ∧ (¬ v1 ≤ (f2 - (I (t + 2) x3.toNatClampNeg)) → (vp_in x3 120 ∧ (vp_in x3 120 ∧ (w_dr_digitOf (I1 (t + 3) x3.toNatClampNeg) (f2 - (I1 (t + 2) x3.toNatClampNeg)) I1 R1 (fun v2 I2 R2 => Q v2 I2 R2))))))))))))))))
set_option maxHeartbeats 4000000 in
set_option maxRecDepth 100000 in
theorem J_dr_characterAt_87 (d : Nat) {t : Nat} (ht : pSH[t]? = some (0, 3)) {K50 : Int32 → pI → pR → Prop} {Q : Int32 → pI → pR → Prop} {f1 : Int32} {f2 : Int32} {x3 : Int32} {E : pE} {B : pB} (g : pw_G m_dr_characterAt (d + 3) 0 0 E B) (hF : pX (qi Q) E B) (hK50 : ∀ (y3 : Int32) (I : pI) (R : pR), pw_Lay R → K50 y3 I R → PX E B m_dr_characterAt.2.2.1 50 [some (.ref t), some (.int f1), some (.int f2), some (.int y3)] [] I R) {I : pI} {R : pR} (hL : pw_Lay R) (h : j_dr_characterAt_87 t K50 Q f1 f2 x3 I R) : PX E B m_dr_characterAt.2.2.1 87 [some (.ref t), some (.int f1), some (.int f2), some (.int x3)] [] I R := by
  unfold j_dr_characterAt_87 at h
  refine PW.iload_n g rfl rfl d_dr_characterAt_87 ?_
  refine PW.aload_n g rfl rfl d_dr_characterAt_88 ?_
  refine PW.getR (q := (t + 4)) g fi_dr_22 ht (hL t 3 3 ht (by decide)) d_dr_characterAt_89 ?_
  refine PW.iload_n g rfl rfl d_dr_characterAt_92 ?_
  refine PW.iald g (pw_shp ht 3 (by decide)) h.1 d_dr_characterAt_93 ?_
  have h := h.2
  refine PW.icmp_ne g 145 (by decide) d_dr_characterAt_94 (fun c8 => ?_) (fun c8 => ?_)
  · have h := h.1 c8
    refine PW.iinc g rfl (show x3 + Int32.ofInt (1) = (x3 + 1) from congrArg (HAdd.hAdd x3) (by decide)) (by decide) rfl (L' := [some (.ref t), some (.int f1), some (.int f2), some (.int (x3 + 1))]) rfl d_dr_characterAt_145 ?_
    refine PW.goto g 50 (by decide) d_dr_characterAt_148 ?_
    refine PX.sub [some (.ref t), some (.int f1), some (.int f2), some (.int (x3 + 1))] ⟨rfl, ⟨rfl, ⟨rfl, ⟨rfl, trivial⟩⟩⟩⟩ ?_
    exact hK50 _ _ _ hL h
  · have h := h.2 c8
    refine PW.iload_n g rfl rfl d_dr_characterAt_97 ?_
    refine PW.aload_n g rfl rfl d_dr_characterAt_98 ?_
    refine PW.getR (q := (t + 2)) g fi_dr_15 ht (hL t 3 1 ht (by decide)) d_dr_characterAt_99 ?_
    refine PW.iload_n g rfl rfl d_dr_characterAt_102 ?_
    refine PW.iald g (pw_shp ht 1 (by decide)) h.1 d_dr_characterAt_103 ?_
    have h := h.2
    refine PW.icmp_lt g 145 (by decide) d_dr_characterAt_104 (fun c9 => ?_) (fun c9 => ?_)
    · have h := h.1 c9
      refine PW.iinc g rfl (show x3 + Int32.ofInt (1) = (x3 + 1) from congrArg (HAdd.hAdd x3) (by decide)) (by decide) rfl (L' := [some (.ref t), some (.int f1), some (.int f2), some (.int (x3 + 1))]) rfl d_dr_characterAt_145 ?_
      refine PW.goto g 50 (by decide) d_dr_characterAt_148 ?_
      refine PX.sub [some (.ref t), some (.int f1), some (.int f2), some (.int (x3 + 1))] ⟨rfl, ⟨rfl, ⟨rfl, ⟨rfl, trivial⟩⟩⟩⟩ ?_
      exact hK50 _ _ _ hL h
    · have h := h.2 c9
      refine PW.iload_n g rfl rfl d_dr_characterAt_107 ?_
      refine PW.aload_n g rfl rfl d_dr_characterAt_108 ?_
      refine PW.getR (q := (t + 2)) g fi_dr_15 ht (hL t 3 1 ht (by decide)) d_dr_characterAt_109 ?_
      refine PW.iload_n g rfl rfl d_dr_characterAt_112 ?_
      refine PW.iald g (pw_shp ht 1 (by decide)) h.1 d_dr_characterAt_113 ?_
      have h := h.2
      refine PW.isub g d_dr_characterAt_114 ?_
      refine PW.aload_n g rfl rfl d_dr_characterAt_115 ?_
      refine PW.getR (q := (t + 3)) g fi_dr_19 ht (hL t 3 2 ht (by decide)) d_dr_characterAt_116 ?_
      refine PW.iload_n g rfl rfl d_dr_characterAt_119 ?_
      refine PW.iald g (pw_shp ht 2 (by decide)) h.1 d_dr_characterAt_120 ?_
      have h := h.2
      refine PX.cSi [.int (I (t + 3) x3.toNatClampNeg)] [.int (f2 - (I (t + 2) x3.toNatClampNeg))] g (c_dr_widthOf d  hL h) cl_dr_51 (by omega) (by decide) rfl rfl (Nat.le_of_ble_eq_true rfl) d_dr_characterAt_121 (fun v1 I1 R1 hL h => ?_)
      refine PW.icmp_ge g 145 (by decide) d_dr_characterAt_124 (fun c10 => ?_) (fun c10 => ?_)
      · have h := h.1 c10
        refine PW.iinc g rfl (show x3 + Int32.ofInt (1) = (x3 + 1) from congrArg (HAdd.hAdd x3) (by decide)) (by decide) rfl (L' := [some (.ref t), some (.int f1), some (.int f2), some (.int (x3 + 1))]) rfl d_dr_characterAt_145 ?_
        refine PW.goto g 50 (by decide) d_dr_characterAt_148 ?_
        refine PX.sub [some (.ref t), some (.int f1), some (.int f2), some (.int (x3 + 1))] ⟨rfl, ⟨rfl, ⟨rfl, ⟨rfl, trivial⟩⟩⟩⟩ ?_
        exact hK50 _ _ _ hL h
      · have h := h.2 c10
        refine PW.aload_n g rfl rfl d_dr_characterAt_127 ?_
        refine PW.getR (q := (t + 3)) g fi_dr_19 ht (hL t 3 2 ht (by decide)) d_dr_characterAt_128 ?_
        refine PW.iload_n g rfl rfl d_dr_characterAt_131 ?_
        refine PW.iald g (pw_shp ht 2 (by decide)) h.1 d_dr_characterAt_132 ?_
        have h := h.2
        refine PW.iload_n g rfl rfl d_dr_characterAt_133 ?_
        refine PW.aload_n g rfl rfl d_dr_characterAt_134 ?_
        refine PW.getR (q := (t + 2)) g fi_dr_15 ht (hL t 3 1 ht (by decide)) d_dr_characterAt_135 ?_
        refine PW.iload_n g rfl rfl d_dr_characterAt_138 ?_
        refine PW.iald g (pw_shp ht 1 (by decide)) h.1 d_dr_characterAt_139 ?_
        have h := h.2
        refine PW.isub g d_dr_characterAt_140 ?_
        refine PX.cSi [.int (I1 (t + 3) x3.toNatClampNeg), .int (f2 - (I1 (t + 2) x3.toNatClampNeg))] [] g (c_dr_digitOf d  hL h) cl_dr_55 (by omega) (by decide) rfl rfl (Nat.le_of_ble_eq_true rfl) d_dr_characterAt_141 (fun v2 I2 R2 hL h => ?_)
        exact PX.iret g hF rfl d_dr_characterAt_144 hL h
def l_dr_characterAt_50 (t : Nat) (f1 : Int32) (f2 : Int32) (K : pI → pR → Prop) (Q : Int32 → pI → pR → Prop) : Nat → Int32 → pI → pR → Prop
  | 0, _, _, _ => False
  | n + 1, x3, I, R => (((I t 5) ≤ x3 → K I R) ∧ (¬ (I t 5) ≤ x3 → (((120 : Int32) ≤ x3 → K I R) ∧ (¬ (120 : Int32) ≤ x3 → (vp_in x3 120 ∧ ((¬ f2 = (I (t + 2) x3.toNatClampNeg) → (j_dr_characterAt_87 t (fun y1 I3 R3 => l_dr_characterAt_50 t f1 f2 K Q n y1 I3 R3) Q f1 f2 x3 I R)) ∧ (f2 = (I (t + 2) x3.toNatClampNeg) → (vp_in x3 120 ∧ (((I (t + 4) x3.toNatClampNeg) ≤ f1 → (j_dr_characterAt_87 t (fun y2 I4 R4 => l_dr_characterAt_50 t f1 f2 K Q n y2 I4 R4) Q f1 f2 x3 I R)) ∧ (¬ (I (t + 4) x3.toNatClampNeg) ≤ f1 → Q (124 : Int32) I R))))))))))
set_option maxHeartbeats 4000000 in
set_option maxRecDepth 100000 in
theorem L_dr_characterAt_50 (d : Nat) {t : Nat} (ht : pSH[t]? = some (0, 3)) {f1 : Int32} {f2 : Int32} {K : pI → pR → Prop} {Q : Int32 → pI → pR → Prop} {E : pE} {B : pB} (g : pw_G m_dr_characterAt (d + 3) 0 0 E B) (hF : pX (qi Q) E B) (hK : ∀ (I : pI) (R : pR), pw_Lay R → K  I R → PX E B m_dr_characterAt.2.2.1 151 [none, none, none, none] [] I R) : ∀ (n : Nat) (x3 : Int32) (I : pI) (R : pR), pw_Lay R → l_dr_characterAt_50 t f1 f2 K Q n x3 I R → PX E B m_dr_characterAt.2.2.1 50 [some (.ref t), some (.int f1), some (.int f2), some (.int x3)] [] I R := by
  intro n
  induction n with
  | zero => intro x3 I R hL h; exact False.elim h
  | succ n ih =>
    intro x3 I R hL h
    refine PW.iload_n g rfl rfl d_dr_characterAt_50 ?_
    refine PW.aload_n g rfl rfl d_dr_characterAt_51 ?_
    refine PW.getI g fi_dr_29 ht d_dr_characterAt_52 ?_
    refine PW.icmp_ge g 151 (by decide) d_dr_characterAt_55 (fun c5 => ?_) (fun c5 => ?_)
    · have h := h.1 c5
      refine PX.sub [none, none, none, none] trivial ?_
      exact hK _ _ hL h
    · have h := h.2 c5
      refine PW.iload_n g rfl rfl d_dr_characterAt_58 ?_
      refine PW.bipush g (120) (by decide) d_dr_characterAt_59 ?_
      refine PW.icmp_ge g 151 (by decide) d_dr_characterAt_61 (fun c6 => ?_) (fun c6 => ?_)
      · have h := h.1 c6
        refine PX.sub [none, none, none, none] trivial ?_
        exact hK _ _ hL h
      · have h := h.2 c6
        refine PW.iload_n g rfl rfl d_dr_characterAt_64 ?_
        refine PW.aload_n g rfl rfl d_dr_characterAt_65 ?_
        refine PW.getR (q := (t + 2)) g fi_dr_15 ht (hL t 3 1 ht (by decide)) d_dr_characterAt_66 ?_
        refine PW.iload_n g rfl rfl d_dr_characterAt_69 ?_
        refine PW.iald g (pw_shp ht 1 (by decide)) h.1 d_dr_characterAt_70 ?_
        have h := h.2
        refine PW.icmp_ne g 87 (by decide) d_dr_characterAt_71 (fun c7 => ?_) (fun c7 => ?_)
        · have h := h.1 c7
          refine PX.sub [some (.ref t), some (.int f1), some (.int f2), some (.int x3)] ⟨rfl, ⟨rfl, ⟨rfl, ⟨rfl, trivial⟩⟩⟩⟩ ?_
          refine J_dr_characterAt_87 d ht g hF (fun y1 I3 R3 hL h => ?_) hL h
          refine PX.sub [some (.ref t), some (.int f1), some (.int f2), some (.int y1)] ⟨rfl, ⟨rfl, ⟨rfl, ⟨rfl, trivial⟩⟩⟩⟩ ?_
          exact ih _ _ _ hL h
        · have h := h.2 c7
          refine PW.iload_n g rfl rfl d_dr_characterAt_74 ?_
          refine PW.aload_n g rfl rfl d_dr_characterAt_75 ?_
          refine PW.getR (q := (t + 4)) g fi_dr_22 ht (hL t 3 3 ht (by decide)) d_dr_characterAt_76 ?_
          refine PW.iload_n g rfl rfl d_dr_characterAt_79 ?_
          refine PW.iald g (pw_shp ht 3 (by decide)) h.1 d_dr_characterAt_80 ?_
          have h := h.2
          refine PW.icmp_ge g 87 (by decide) d_dr_characterAt_81 (fun c11 => ?_) (fun c11 => ?_)
          · have h := h.1 c11
            refine PX.sub [some (.ref t), some (.int f1), some (.int f2), some (.int x3)] ⟨rfl, ⟨rfl, ⟨rfl, ⟨rfl, trivial⟩⟩⟩⟩ ?_
            refine J_dr_characterAt_87 d ht g hF (fun y2 I4 R4 hL h => ?_) hL h
            refine PX.sub [some (.ref t), some (.int f1), some (.int f2), some (.int y2)] ⟨rfl, ⟨rfl, ⟨rfl, ⟨rfl, trivial⟩⟩⟩⟩ ?_
            exact ih _ _ _ hL h
          · have h := h.2 c11
            refine PW.bipush g (124) (by decide) d_dr_characterAt_84 ?_
            exact PX.iret g hF rfl d_dr_characterAt_86 hL h
def w_dr_characterAt (t : Nat) (a1 : Int32) (a2 : Int32) (I : pI) (R : pR) (Q : Int32 → pI → pR → Prop) : Prop := ((a1 < 0 → Q (0 : Int32) I R) ∧ (¬ a1 < 0 → (((I t 6) ≤ a1 → Q (0 : Int32) I R) ∧ (¬ (I t 6) ≤ a1 → ((0 ≤ a2 → ((¬ a1 = 0 → (∃ n1, l_dr_characterAt_50 t a1 a2 (fun I5 R5 => Q (32 : Int32) I5 R5) Q n1 (0 : Int32) I R)) ∧ (a1 = 0 → (((I t 4) ≤ a2 → Q (32 : Int32) I R) ∧ (¬ (I t 4) ≤ a2 → (((120 : Int32) ≤ a2 → Q (32 : Int32) I R) ∧ (¬ (120 : Int32) ≤ a2 → (vp_in a2 120 ∧ Q (I (t + 1) a2.toNatClampNeg) I R)))))))) ∧ (¬ 0 ≤ a2 → Q (0 : Int32) I R))))))
set_option maxHeartbeats 4000000 in
set_option maxRecDepth 100000 in
theorem c_dr_characterAt (d : Nat) {t : Nat} (ht : pSH[t]? = some (0, 3)) {a1 : Int32} {a2 : Int32} {I : pI} {R : pR} {Q : Int32 → pI → pR → Prop} (hL : pw_Lay R) (h : w_dr_characterAt t a1 a2 I R Q) : Cm (d + 3) m_dr_characterAt [.ref t, .int a1, .int a2] I R (qi Q) := by
  refine Cm.of [some (.ref t), some (.int a1), some (.int a2), none] (by decide) rfl (Nat.le_of_ble_eq_true rfl) (by simp) (fun E B g hF => ?_)
  unfold w_dr_characterAt at h
  refine PW.iload_n g rfl rfl d_dr_characterAt_0 ?_
  refine PW.if_lt g 16 (by decide) d_dr_characterAt_1 (fun c1 => ?_) (fun c1 => ?_)
  · have h := h.1 c1
    refine PW.iconst g (0) (by decide) d_dr_characterAt_16 ?_
    exact PX.iret g hF rfl d_dr_characterAt_17 hL h
  · have h := h.2 c1
    refine PW.iload_n g rfl rfl d_dr_characterAt_4 ?_
    refine PW.aload_n g rfl rfl d_dr_characterAt_5 ?_
    refine PW.getI g fi_dr_32 ht d_dr_characterAt_6 ?_
    refine PW.icmp_ge g 16 (by decide) d_dr_characterAt_9 (fun c2 => ?_) (fun c2 => ?_)
    · have h := h.1 c2
      refine PW.iconst g (0) (by decide) d_dr_characterAt_16 ?_
      exact PX.iret g hF rfl d_dr_characterAt_17 hL h
    · have h := h.2 c2
      refine PW.iload_n g rfl rfl d_dr_characterAt_12 ?_
      refine PW.if_ge g 18 (by decide) d_dr_characterAt_13 (fun c3 => ?_) (fun c3 => ?_)
      · have h := h.1 c3
        refine PW.iload_n g rfl rfl d_dr_characterAt_18 ?_
        refine PW.if_ne g 48 (by decide) d_dr_characterAt_19 (fun c4 => ?_) (fun c4 => ?_)
        · have h := h.1 c4
          refine PW.iconst g (0) (by decide) d_dr_characterAt_48 ?_
          refine PW.istore_n g rfl (L' := [some (.ref t), some (.int a1), some (.int a2), some (.int (0 : Int32))]) (by decide) rfl rfl d_dr_characterAt_49 ?_
          refine PX.sub [some (.ref t), some (.int a1), some (.int a2), some (.int (0 : Int32))] ⟨rfl, ⟨rfl, ⟨rfl, ⟨rfl, trivial⟩⟩⟩⟩ ?_
          obtain ⟨n1, h⟩ := h
          refine L_dr_characterAt_50 d ht g hF (fun I5 R5 hL h => ?_) n1 (0 : Int32) I R hL h
          refine PW.bipush g (32) (by decide) d_dr_characterAt_151 ?_
          exact PX.iret g hF rfl d_dr_characterAt_153 hL h
        · have h := h.2 c4
          refine PW.iload_n g rfl rfl d_dr_characterAt_22 ?_
          refine PW.aload_n g rfl rfl d_dr_characterAt_23 ?_
          refine PW.getI g fi_dr_25 ht d_dr_characterAt_24 ?_
          refine PW.icmp_ge g 45 (by decide) d_dr_characterAt_27 (fun c12 => ?_) (fun c12 => ?_)
          · have h := h.1 c12
            refine PW.bipush g (32) (by decide) d_dr_characterAt_45 ?_
            exact PX.iret g hF rfl d_dr_characterAt_47 hL h
          · have h := h.2 c12
            refine PW.iload_n g rfl rfl d_dr_characterAt_30 ?_
            refine PW.bipush g (120) (by decide) d_dr_characterAt_31 ?_
            refine PW.icmp_ge g 45 (by decide) d_dr_characterAt_33 (fun c13 => ?_) (fun c13 => ?_)
            · have h := h.1 c13
              refine PW.bipush g (32) (by decide) d_dr_characterAt_45 ?_
              exact PX.iret g hF rfl d_dr_characterAt_47 hL h
            · have h := h.2 c13
              refine PW.aload_n g rfl rfl d_dr_characterAt_36 ?_
              refine PW.getR (q := (t + 1)) g fi_dr_9 ht (hL t 3 0 ht (by decide)) d_dr_characterAt_37 ?_
              refine PW.iload_n g rfl rfl d_dr_characterAt_40 ?_
              refine PW.cald g (pw_shp ht 0 (by decide)) h.1 d_dr_characterAt_41 ?_
              have h := h.2
              refine PW.goto g 47 (by decide) d_dr_characterAt_42 ?_
              exact PX.iret g hF rfl d_dr_characterAt_47 hL h
      · have h := h.2 c3
        refine PW.iconst g (0) (by decide) d_dr_characterAt_16 ?_
        exact PX.iret g hF rfl d_dr_characterAt_17 hL h
