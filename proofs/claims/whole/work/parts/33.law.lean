def m_lw_law : pM := (x, code, 4, ret)
def l_lw_law_18 (Ls : Nat) (xs : Nat → Int32) (K : pI → pR → Prop) (Q : Int32 → pI → pR → Prop) : Nat → Int32 → pI → pR → Prop
  | 0, _, _, _ => False
  | n + 1, x3, I, R => ((((Int32.ofNat Ls) - (4 : Int32)) < x3 → K I R) ∧ (¬ ((Int32.ofNat Ls) - (4 : Int32)) < x3 → (vp_in x3 Ls ∧ ((((xs x3.toNatClampNeg) &&& (15 : Int32)) = (0 : Int32) → (vp_in (x3 + (1 : Int32)) Ls ∧ (vp_in (x3 + (2 : Int32)) Ls ∧ (vp_in (x3 + (3 : Int32)) Ls ∧ (w_sr_type (((((xs (x3 + (1 : Int32)).toNatClampNeg)).toInt64) <<< (((32 : Int32)).toInt64 &&& 63)) ||| (((xs (x3 + (2 : Int32)).toNatClampNeg)).toInt64 &&& (4294967295 : Int64))) (xs (x3 + (3 : Int32)).toNatClampNeg) I R (fun v1 I1 R1 => (vp_in (x3 + (1 : Int32)) Ls ∧ (vp_in (x3 + (2 : Int32)) Ls ∧ (vp_in (x3 + (3 : Int32)) Ls ∧ (w_md_type (((((xs (x3 + (1 : Int32)).toNatClampNeg)).toInt64) <<< (((32 : Int32)).toInt64 &&& 63)) ||| (((xs (x3 + (2 : Int32)).toNatClampNeg)).toInt64 &&& (4294967295 : Int64))) (xs (x3 + (3 : Int32)).toNatClampNeg) I1 R1 (fun v2 I2 R2 => ((v1 = v2 → l_lw_law_18 Ls xs K Q n (x3 + 4) I2 R2) ∧ (¬ v1 = v2 → False))))))))))))) ∧ (¬ ((xs x3.toNatClampNeg) &&& (15 : Int32)) = (0 : Int32) → ((((xs x3.toNatClampNeg) &&& (15 : Int32)) = (1 : Int32) → (w_sr_clear  I R (fun I3 R3 => (w_md_clear  I3 R3 (fun I4 R4 => l_lw_law_18 Ls xs K Q n (x3 + 4) I4 R4))))) ∧ (¬ ((xs x3.toNatClampNeg) &&& (15 : Int32)) = (1 : Int32) → ((((xs x3.toNatClampNeg) &&& (15 : Int32)) = (2 : Int32) → (w_sr_judge  I R (fun v5 I5 R5 => (w_md_judge  I5 R5 (fun v6 I6 R6 => ((v5 = v6 → l_lw_law_18 Ls xs K Q n (x3 + 4) I6 R6) ∧ (¬ v5 = v6 → False))))))) ∧ (¬ ((xs x3.toNatClampNeg) &&& (15 : Int32)) = (2 : Int32) → ((((xs x3.toNatClampNeg) &&& (15 : Int32)) = (3 : Int32) → (w_sr_place  I R (fun v7 I7 R7 => (w_md_place  I7 R7 (fun v8 I8 R8 => ((v7 = v8 → l_lw_law_18 Ls xs K Q n (x3 + 4) I8 R8) ∧ (¬ v7 = v8 → False))))))) ∧ (¬ ((xs x3.toNatClampNeg) &&& (15 : Int32)) = (3 : Int32) → ((((xs x3.toNatClampNeg) &&& (15 : Int32)) = (4 : Int32) → (w_sr_run  I R (fun v9 I9 R9 => (w_md_run  I9 R9 (fun v10 I10 R10 => ((v9 = v10 → l_lw_law_18 Ls xs K Q n (x3 + 4) I10 R10) ∧ (¬ v9 = v10 → False))))))) ∧ (¬ ((xs x3.toNatClampNeg) &&& (15 : Int32)) = (4 : Int32) → ((((xs x3.toNatClampNeg) &&& (15 : Int32)) = (5 : Int32) → (w_sr_iterations  I R (fun v11 I11 R11 => (w_md_iterations  I11 R11 (fun v12 I12 R12 => ((v11 = v12 → l_lw_law_18 Ls xs K Q n (x3 + 4) I12 R12) ∧ (¬ v11 = v12 → False))))))) ∧ (¬ ((xs x3.toNatClampNeg) &&& (15 : Int32)) = (5 : Int32) → ((((xs x3.toNatClampNeg) &&& (15 : Int32)) = (6 : Int32) → (vp_in (x3 + (1 : Int32)) Ls ∧ (w_sr_status (xs (x3 + (1 : Int32)).toNatClampNeg) I R (fun v13 I13 R13 => (vp_in (x3 + (1 : Int32)) Ls ∧ (w_md_status (xs (x3 + (1 : Int32)).toNatClampNeg) I13 R13 (fun v14 I14 R14 => ((v13 = v14 → l_lw_law_18 Ls xs K Q n (x3 + 4) I14 R14) ∧ (¬ v13 = v14 → False))))))))) ∧ (¬ ((xs x3.toNatClampNeg) &&& (15 : Int32)) = (6 : Int32) → ((((xs x3.toNatClampNeg) &&& (15 : Int32)) = (7 : Int32) → (vp_in (x3 + (1 : Int32)) Ls ∧ (w_sr_failedAt (xs (x3 + (1 : Int32)).toNatClampNeg) I R (fun v15 I15 R15 => (vp_in (x3 + (1 : Int32)) Ls ∧ (w_md_failedAt (xs (x3 + (1 : Int32)).toNatClampNeg) I15 R15 (fun v16 I16 R16 => ((v15 = v16 → l_lw_law_18 Ls xs K Q n (x3 + 4) I16 R16) ∧ (¬ v15 = v16 → False))))))))) ∧ (¬ ((xs x3.toNatClampNeg) &&& (15 : Int32)) = (7 : Int32) → ((((xs x3.toNatClampNeg) &&& (15 : Int32)) = (8 : Int32) → (vp_in (x3 + (1 : Int32)) Ls ∧ (w_sr_second (xs (x3 + (1 : Int32)).toNatClampNeg) I R (fun v17 I17 R17 => (vp_in (x3 + (1 : Int32)) Ls ∧ (w_md_second (xs (x3 + (1 : Int32)).toNatClampNeg) I17 R17 (fun v18 I18 R18 => ((v17 = v18 → l_lw_law_18 Ls xs K Q n (x3 + 4) I18 R18) ∧ (¬ v17 = v18 → False))))))))) ∧ (¬ ((xs x3.toNatClampNeg) &&& (15 : Int32)) = (8 : Int32) → ((((xs x3.toNatClampNeg) &&& (15 : Int32)) = (9 : Int32) → (vp_in (x3 + (1 : Int32)) Ls ∧ (vp_in (x3 + (2 : Int32)) Ls ∧ (w_sr_variable (xs (x3 + (1 : Int32)).toNatClampNeg) (xs (x3 + (2 : Int32)).toNatClampNeg) I R (fun v19 I19 R19 => (vp_in (x3 + (1 : Int32)) Ls ∧ (vp_in (x3 + (2 : Int32)) Ls ∧ (w_md_variable (xs (x3 + (1 : Int32)).toNatClampNeg) (xs (x3 + (2 : Int32)).toNatClampNeg) I19 R19 (fun v20 I20 R20 => ((v19 = v20 → l_lw_law_18 Ls xs K Q n (x3 + 4) I20 R20) ∧ (¬ v19 = v20 → False))))))))))) ∧ (¬ ((xs x3.toNatClampNeg) &&& (15 : Int32)) = (9 : Int32) → ((((xs x3.toNatClampNeg) &&& (15 : Int32)) = (10 : Int32) → (vp_in (x3 + (1 : Int32)) Ls ∧ (vp_in (x3 + (2 : Int32)) Ls ∧ (w_sr_calls (xs (x3 + (1 : Int32)).toNatClampNeg) (xs (x3 + (2 : Int32)).toNatClampNeg) I R (fun v21 I21 R21 => (vp_in (x3 + (1 : Int32)) Ls ∧ (vp_in (x3 + (2 : Int32)) Ls ∧ (w_md_calls (xs (x3 + (1 : Int32)).toNatClampNeg) (xs (x3 + (2 : Int32)).toNatClampNeg) I21 R21 (fun v22 I22 R22 => ((v21 = v22 → l_lw_law_18 Ls xs K Q n (x3 + 4) I22 R22) ∧ (¬ v21 = v22 → False))))))))))) ∧ (¬ ((xs x3.toNatClampNeg) &&& (15 : Int32)) = (10 : Int32) → ((((xs x3.toNatClampNeg) &&& (15 : Int32)) = (11 : Int32) → (vp_in (x3 + (1 : Int32)) Ls ∧ (w_sr_values (xs (x3 + (1 : Int32)).toNatClampNeg) I R (fun v23 I23 R23 => (vp_in (x3 + (1 : Int32)) Ls ∧ (w_md_values (xs (x3 + (1 : Int32)).toNatClampNeg) I23 R23 (fun v24 I24 R24 => ((v23 = v24 → l_lw_law_18 Ls xs K Q n (x3 + 4) I24 R24) ∧ (¬ v23 = v24 → False))))))))) ∧ (¬ ((xs x3.toNatClampNeg) &&& (15 : Int32)) = (11 : Int32) → ((((xs x3.toNatClampNeg) &&& (15 : Int32)) = (12 : Int32) → (vp_in (x3 + (1 : Int32)) Ls ∧ (vp_in (x3 + (2 : Int32)) Ls ∧ (w_sr_column (xs (x3 + (1 : Int32)).toNatClampNeg) (xs (x3 + (2 : Int32)).toNatClampNeg) I R (fun v25 I25 R25 => (vp_in (x3 + (1 : Int32)) Ls ∧ (vp_in (x3 + (2 : Int32)) Ls ∧ (w_md_column (xs (x3 + (1 : Int32)).toNatClampNeg) (xs (x3 + (2 : Int32)).toNatClampNeg) I25 R25 (fun v26 I26 R26 => ((v25 = v26 → l_lw_law_18 Ls xs K Q n (x3 + 4) I26 R26) ∧ (¬ v25 = v26 → False))))))))))) ∧ (¬ ((xs x3.toNatClampNeg) &&& (15 : Int32)) = (12 : Int32) → ((((xs x3.toNatClampNeg) &&& (15 : Int32)) = (13 : Int32) → (vp_in (x3 + (1 : Int32)) Ls ∧ (vp_in (x3 + (2 : Int32)) Ls ∧ (w_sr_value (xs (x3 + (1 : Int32)).toNatClampNeg) (xs (x3 + (2 : Int32)).toNatClampNeg) I R (fun v27 I27 R27 => (vp_in (x3 + (1 : Int32)) Ls ∧ (vp_in (x3 + (2 : Int32)) Ls ∧ (w_md_value (xs (x3 + (1 : Int32)).toNatClampNeg) (xs (x3 + (2 : Int32)).toNatClampNeg) I27 R27 (fun v28 I28 R28 => ((v27 = v28 → l_lw_law_18 Ls xs K Q n (x3 + 4) I28 R28) ∧ (¬ v27 = v28 → False))))))))))) ∧ (¬ ((xs x3.toNatClampNeg) &&& (15 : Int32)) = (13 : Int32) → ((((xs x3.toNatClampNeg) &&& (15 : Int32)) = (14 : Int32) → (vp_in (x3 + (1 : Int32)) Ls ∧ (w_sr_lines (xs (x3 + (1 : Int32)).toNatClampNeg) I R (fun v29 I29 R29 => (vp_in (x3 + (1 : Int32)) Ls ∧ (w_md_lines (xs (x3 + (1 : Int32)).toNatClampNeg) I29 R29 (fun v30 I30 R30 => ((v29 = v30 → l_lw_law_18 Ls xs K Q n (x3 + 4) I30 R30) ∧ (¬ v29 = v30 → False))))))))) ∧ (¬ ((xs x3.toNatClampNeg) &&& (15 : Int32)) = (14 : Int32) → ((((xs x3.toNatClampNeg) &&& (15 : Int32)) = (15 : Int32) → (vp_in (x3 + (1 : Int32)) Ls ∧ (vp_in (x3 + (2 : Int32)) Ls ∧ (vp_in (x3 + (3 : Int32)) Ls ∧ (w_sr_drawn (xs (x3 + (1 : Int32)).toNatClampNeg) (xs (x3 + (2 : Int32)).toNatClampNeg) (xs (x3 + (3 : Int32)).toNatClampNeg) I R (fun v31 I31 R31 => (vp_in (x3 + (1 : Int32)) Ls ∧ (vp_in (x3 + (2 : Int32)) Ls ∧ (vp_in (x3 + (3 : Int32)) Ls ∧ (w_md_drawn (xs (x3 + (1 : Int32)).toNatClampNeg) (xs (x3 + (2 : Int32)).toNatClampNeg) (xs (x3 + (3 : Int32)).toNatClampNeg) I31 R31 (fun v32 I32 R32 => ((v31 = v32 → l_lw_law_18 Ls xs K Q n (x3 + 4) I32 R32) ∧ (¬ v31 = v32 → False))))))))))))) ∧ (¬ ((xs x3.toNatClampNeg) &&& (15 : Int32)) = (15 : Int32) → l_lw_law_18 Ls xs K Q n (x3 + 4) I R)))))))))))))))))))))))))))))))))))
set_option maxHeartbeats 4000000 in
set_option maxRecDepth 100000 in
theorem L_lw_law_18 (d : Nat) {Ls : Nat} {xs : Nat → Int32} {K : pI → pR → Prop} {Q : Int32 → pI → pR → Prop} {ms ns : Nat} {E : pE} {B : pB} (g : pw_G m_lw_law (d + 72) 175 ms E B) (hX : va_X (B.2.2 102) Ls xs E.2.2.2.2.1 E.2.2.2.2.1.heap) (hbl : B.2.2 102 < E.2.2.2.2.1.heap.size) (hbA : ¬ B.1 ≤ B.2.2 102) (hret : ∀ pc L I R, decode code pc = .ok (.ireturn, 1) → PY 175 ms ns E B 4 pc L [.int 1] I R) (hK : ∀ (I : pI) (R : pR), pw_Lay R → K  I R → PY 175 ms ns E B 4 534 [none, none, none, none] [] I R) : ∀ (n : Nat) (x3 : Int32) (I : pI) (R : pR), pw_Lay R → l_lw_law_18 Ls xs K Q n x3 I R → PY 175 ms ns E B 4 18 [some (.retAddr 2), some (.ref 0), some (.ref 121), some (.int x3)] [] I R := by
  intro n
  induction n with
  | zero => intro x3 I R hL h; exact False.elim h
  | succ n ih =>
    intro x3 I R hL h
    refine PW.iload_n g rfl rfl d_lw_law_18 ?_
    refine PW.aloadX_n g rfl rfl d_lw_law_19 ?_
    refine PW.slen g hX hbl hbA d_lw_law_20 ?_
    refine PW.iconst g (4) (by decide) d_lw_law_21 ?_
    refine PW.isub g d_lw_law_22 ?_
    refine PW.icmp_gt g 534 (by decide) d_lw_law_23 (fun c1 => ?_) (fun c1 => ?_)
    · have h := h.1 c1
      refine PX.sub [none, none, none, none] trivial ?_
      exact hK _ _ hL h
    · have h := h.2 c1
      refine PW.aloadX_n g rfl rfl d_lw_law_26 ?_
      refine PW.iload_n g rfl rfl d_lw_law_27 ?_
      refine PW.sld g hX hbl hbA h.1 d_lw_law_28 ?_
      have h := h.2
      refine PW.bipush g (15) (by decide) d_lw_law_29 ?_
      refine PW.iand g d_lw_law_31 ?_
      by_cases c2 : ((xs x3.toNatClampNeg) &&& (15 : Int32)) = (0 : Int32)
      · have h := h.1 c2
        refine PW.tableIn g 112 (by rw [c2]; decide) (by rw [c2]; decide) (show _ = some (80) from by rw [c2]; decide) (by decide) d_lw_law_32 ?_
        refine PW.aload_n g rfl rfl d_lw_law_112 ?_
        refine PW.aloadX_n g rfl rfl d_lw_law_113 ?_
        refine PW.iload_n g rfl rfl d_lw_law_114 ?_
        refine PW.iconst g (1) (by decide) d_lw_law_115 ?_
        refine PW.iadd g d_lw_law_116 ?_
        refine PW.sld g hX hbl hbA h.1 d_lw_law_117 ?_
        have h := h.2
        refine PW.i2l g rfl d_lw_law_118 ?_
        refine PW.bipush g (32) (by decide) d_lw_law_119 ?_
        refine PW.lshl g rfl d_lw_law_121 ?_
        refine PW.aloadX_n g rfl rfl d_lw_law_122 ?_
        refine PW.iload_n g rfl rfl d_lw_law_123 ?_
        refine PW.iconst g (2) (by decide) d_lw_law_124 ?_
        refine PW.iadd g d_lw_law_125 ?_
        refine PW.sld g hX hbl hbA h.1 d_lw_law_126 ?_
        have h := h.2
        refine PW.i2l g rfl d_lw_law_127 ?_
        refine PW.ldc2 g (4294967295) (pw_gw 1677 (by decide +kernel) (by decide +kernel)) d_lw_law_128 ?_
        refine PW.land g d_lw_law_131 ?_
        refine PW.lor g d_lw_law_132 ?_
        refine PW.aloadX_n g rfl rfl d_lw_law_133 ?_
        refine PW.iload_n g rfl rfl d_lw_law_134 ?_
        refine PW.iconst g (3) (by decide) d_lw_law_135 ?_
        refine PW.iadd g d_lw_law_136 ?_
        refine PW.sld g hX hbl hbA h.1 d_lw_law_137 ?_
        have h := h.2
        refine PX.cVz [.long (((((xs (x3 + (1 : Int32)).toNatClampNeg)).toInt64) <<< (((32 : Int32)).toInt64 &&& 63)) ||| (((xs (x3 + (2 : Int32)).toNatClampNeg)).toInt64 &&& (4294967295 : Int64))), .int (xs (x3 + (3 : Int32)).toNatClampNeg)] [] g rfl ck_sr (c_sr_type d  hL h) cl_lw_15 (by omega) (by decide) rfl rfl (Nat.le_of_ble_eq_true rfl) d_lw_law_138 (fun v1 I1 R1 hL hzv1 h => ?_)
        refine PW.aload_n g rfl rfl d_lw_law_141 ?_
        refine PW.aloadX_n g rfl rfl d_lw_law_142 ?_
        refine PW.iload_n g rfl rfl d_lw_law_143 ?_
        refine PW.iconst g (1) (by decide) d_lw_law_144 ?_
        refine PW.iadd g d_lw_law_145 ?_
        refine PW.sld g hX hbl hbA h.1 d_lw_law_146 ?_
        have h := h.2
        refine PW.i2l g rfl d_lw_law_147 ?_
        refine PW.bipush g (32) (by decide) d_lw_law_148 ?_
        refine PW.lshl g rfl d_lw_law_150 ?_
        refine PW.aloadX_n g rfl rfl d_lw_law_151 ?_
        refine PW.iload_n g rfl rfl d_lw_law_152 ?_
        refine PW.iconst g (2) (by decide) d_lw_law_153 ?_
        refine PW.iadd g d_lw_law_154 ?_
        refine PW.sld g hX hbl hbA h.1 d_lw_law_155 ?_
        have h := h.2
        refine PW.i2l g rfl d_lw_law_156 ?_
        refine PW.ldc2 g (4294967295) (pw_gw 1677 (by decide +kernel) (by decide +kernel)) d_lw_law_157 ?_
        refine PW.land g d_lw_law_160 ?_
        refine PW.lor g d_lw_law_161 ?_
        refine PW.aloadX_n g rfl rfl d_lw_law_162 ?_
        refine PW.iload_n g rfl rfl d_lw_law_163 ?_
        refine PW.iconst g (3) (by decide) d_lw_law_164 ?_
        refine PW.iadd g d_lw_law_165 ?_
        refine PW.sld g hX hbl hbA h.1 d_lw_law_166 ?_
        have h := h.2
        refine PX.cVz [.long (((((xs (x3 + (1 : Int32)).toNatClampNeg)).toInt64) <<< (((32 : Int32)).toInt64 &&& 63)) ||| (((xs (x3 + (2 : Int32)).toNatClampNeg)).toInt64 &&& (4294967295 : Int64))), .int (xs (x3 + (3 : Int32)).toNatClampNeg)] [.int v1] g rfl ck_md (c_md_type d  hL h) cl_lw_19 (by omega) (by decide) rfl rfl (Nat.le_of_ble_eq_true rfl) d_lw_law_167 (fun v2 I2 R2 hL hzv2 h => ?_)
        refine PW.icmp_eq g 528 (by decide) d_lw_law_170 (fun c3 => ?_) (fun c3 => ?_)
        · have h := h.1 c3
          refine PW.iinc g rfl (show x3 + Int32.ofInt (4) = (x3 + 4) from congrArg (HAdd.hAdd x3) (by decide)) (by decide) rfl (L' := [some (.retAddr 2), some (.ref 0), some (.ref 121), some (.int (x3 + 4))]) rfl d_lw_law_528 ?_
          refine PW.goto g 18 (by decide) d_lw_law_531 ?_
          refine PX.sub [some (.retAddr 2), some (.ref 0), some (.ref 121), some (.int (x3 + 4))] ⟨rfl, ⟨rfl, ⟨rfl, ⟨rfl, trivial⟩⟩⟩⟩ ?_
          exact ih _ _ _ hL h
        · have h := h.2 c3
          refine PW.iconst g (0) (by decide) d_lw_law_173 ?_
          exact False.elim h
      · have h := h.2 c2
        by_cases c4 : ((xs x3.toNatClampNeg) &&& (15 : Int32)) = (1 : Int32)
        · have h := h.1 c4
          refine PW.tableIn g 175 (by rw [c4]; decide) (by rw [c4]; decide) (show _ = some (143) from by rw [c4]; decide) (by decide) d_lw_law_32 ?_
          refine PW.aload_n g rfl rfl d_lw_law_175 ?_
          refine PX.cVv [] [] g rfl ck_sr (c_sr_clear d  hL h) cl_lw_20 (by omega) (by decide) rfl rfl (Nat.le_of_ble_eq_true rfl) d_lw_law_176 (fun I3 R3 hL h => ?_)
          refine PW.aload_n g rfl rfl d_lw_law_179 ?_
          refine PX.cVv [] [] g rfl ck_md (c_md_clear d  hL h) cl_lw_23 (by omega) (by decide) rfl rfl (Nat.le_of_ble_eq_true rfl) d_lw_law_180 (fun I4 R4 hL h => ?_)
          refine PW.goto g 528 (by decide) d_lw_law_183 ?_
          refine PW.iinc g rfl (show x3 + Int32.ofInt (4) = (x3 + 4) from congrArg (HAdd.hAdd x3) (by decide)) (by decide) rfl (L' := [some (.retAddr 2), some (.ref 0), some (.ref 121), some (.int (x3 + 4))]) rfl d_lw_law_528 ?_
          refine PW.goto g 18 (by decide) d_lw_law_531 ?_
          refine PX.sub [some (.retAddr 2), some (.ref 0), some (.ref 121), some (.int (x3 + 4))] ⟨rfl, ⟨rfl, ⟨rfl, ⟨rfl, trivial⟩⟩⟩⟩ ?_
          exact ih _ _ _ hL h
        · have h := h.2 c4
          by_cases c5 : ((xs x3.toNatClampNeg) &&& (15 : Int32)) = (2 : Int32)
          · have h := h.1 c5
            refine PW.tableIn g 186 (by rw [c5]; decide) (by rw [c5]; decide) (show _ = some (154) from by rw [c5]; decide) (by decide) d_lw_law_32 ?_
            refine PW.aload_n g rfl rfl d_lw_law_186 ?_
            refine PX.cVi [] [] g rfl ck_sr (c_sr_judge d  hL h) cl_lw_24 (by omega) (by decide) rfl rfl (Nat.le_of_ble_eq_true rfl) d_lw_law_187 (fun v5 I5 R5 hL h => ?_)
            refine PW.aload_n g rfl rfl d_lw_law_190 ?_
            refine PX.cVi [] [.int v5] g rfl ck_md (c_md_judge d  hL h) cl_lw_28 (by omega) (by decide) rfl rfl (Nat.le_of_ble_eq_true rfl) d_lw_law_191 (fun v6 I6 R6 hL h => ?_)
            refine PW.icmp_eq g 528 (by decide) d_lw_law_194 (fun c6 => ?_) (fun c6 => ?_)
            · have h := h.1 c6
              refine PW.iinc g rfl (show x3 + Int32.ofInt (4) = (x3 + 4) from congrArg (HAdd.hAdd x3) (by decide)) (by decide) rfl (L' := [some (.retAddr 2), some (.ref 0), some (.ref 121), some (.int (x3 + 4))]) rfl d_lw_law_528 ?_
              refine PW.goto g 18 (by decide) d_lw_law_531 ?_
              refine PX.sub [some (.retAddr 2), some (.ref 0), some (.ref 121), some (.int (x3 + 4))] ⟨rfl, ⟨rfl, ⟨rfl, ⟨rfl, trivial⟩⟩⟩⟩ ?_
              exact ih _ _ _ hL h
            · have h := h.2 c6
              refine PW.iconst g (0) (by decide) d_lw_law_197 ?_
              exact False.elim h
          · have h := h.2 c5
            by_cases c7 : ((xs x3.toNatClampNeg) &&& (15 : Int32)) = (3 : Int32)
            · have h := h.1 c7
              refine PW.tableIn g 199 (by rw [c7]; decide) (by rw [c7]; decide) (show _ = some (167) from by rw [c7]; decide) (by decide) d_lw_law_32 ?_
              refine PW.aload_n g rfl rfl d_lw_law_199 ?_
              refine PX.cVi [] [] g rfl ck_sr (c_sr_place d  hL h) cl_lw_29 (by omega) (by decide) rfl rfl (Nat.le_of_ble_eq_true rfl) d_lw_law_200 (fun v7 I7 R7 hL h => ?_)
              refine PW.aload_n g rfl rfl d_lw_law_203 ?_
              refine PX.cVi [] [.int v7] g rfl ck_md (c_md_place d  hL h) cl_lw_32 (by omega) (by decide) rfl rfl (Nat.le_of_ble_eq_true rfl) d_lw_law_204 (fun v8 I8 R8 hL h => ?_)
              refine PW.icmp_eq g 528 (by decide) d_lw_law_207 (fun c8 => ?_) (fun c8 => ?_)
              · have h := h.1 c8
                refine PW.iinc g rfl (show x3 + Int32.ofInt (4) = (x3 + 4) from congrArg (HAdd.hAdd x3) (by decide)) (by decide) rfl (L' := [some (.retAddr 2), some (.ref 0), some (.ref 121), some (.int (x3 + 4))]) rfl d_lw_law_528 ?_
                refine PW.goto g 18 (by decide) d_lw_law_531 ?_
                refine PX.sub [some (.retAddr 2), some (.ref 0), some (.ref 121), some (.int (x3 + 4))] ⟨rfl, ⟨rfl, ⟨rfl, ⟨rfl, trivial⟩⟩⟩⟩ ?_
                exact ih _ _ _ hL h
              · have h := h.2 c8
                refine PW.iconst g (0) (by decide) d_lw_law_210 ?_
                exact False.elim h
            · have h := h.2 c7
              by_cases c9 : ((xs x3.toNatClampNeg) &&& (15 : Int32)) = (4 : Int32)
              · have h := h.1 c9
                refine PW.tableIn g 212 (by rw [c9]; decide) (by rw [c9]; decide) (show _ = some (180) from by rw [c9]; decide) (by decide) d_lw_law_32 ?_
                refine PW.aload_n g rfl rfl d_lw_law_212 ?_
                refine PX.cVi [] [] g rfl ck_sr (c_sr_run d  hL h) cl_lw_33 (by omega) (by decide) rfl rfl (Nat.le_of_ble_eq_true rfl) d_lw_law_213 (fun v9 I9 R9 hL h => ?_)
                refine PW.aload_n g rfl rfl d_lw_law_216 ?_
                refine PX.cVi [] [.int v9] g rfl ck_md (c_md_run d  hL h) cl_lw_36 (by omega) (by decide) rfl rfl (Nat.le_of_ble_eq_true rfl) d_lw_law_217 (fun v10 I10 R10 hL h => ?_)
                refine PW.icmp_eq g 528 (by decide) d_lw_law_220 (fun c10 => ?_) (fun c10 => ?_)
                · have h := h.1 c10
                  refine PW.iinc g rfl (show x3 + Int32.ofInt (4) = (x3 + 4) from congrArg (HAdd.hAdd x3) (by decide)) (by decide) rfl (L' := [some (.retAddr 2), some (.ref 0), some (.ref 121), some (.int (x3 + 4))]) rfl d_lw_law_528 ?_
                  refine PW.goto g 18 (by decide) d_lw_law_531 ?_
                  refine PX.sub [some (.retAddr 2), some (.ref 0), some (.ref 121), some (.int (x3 + 4))] ⟨rfl, ⟨rfl, ⟨rfl, ⟨rfl, trivial⟩⟩⟩⟩ ?_
                  exact ih _ _ _ hL h
                · have h := h.2 c10
                  refine PW.iconst g (0) (by decide) d_lw_law_223 ?_
                  exact False.elim h
              · have h := h.2 c9
                by_cases c11 : ((xs x3.toNatClampNeg) &&& (15 : Int32)) = (5 : Int32)
                · have h := h.1 c11
                  refine PW.tableIn g 225 (by rw [c11]; decide) (by rw [c11]; decide) (show _ = some (193) from by rw [c11]; decide) (by decide) d_lw_law_32 ?_
                  refine PW.aload_n g rfl rfl d_lw_law_225 ?_
                  refine PX.cVi [] [] g rfl ck_sr (c_sr_iterations d  hL h) cl_lw_37 (by omega) (by decide) rfl rfl (Nat.le_of_ble_eq_true rfl) d_lw_law_226 (fun v11 I11 R11 hL h => ?_)
                  refine PW.aload_n g rfl rfl d_lw_law_229 ?_
                  refine PX.cVi [] [.int v11] g rfl ck_md (c_md_iterations d  hL h) cl_lw_40 (by omega) (by decide) rfl rfl (Nat.le_of_ble_eq_true rfl) d_lw_law_230 (fun v12 I12 R12 hL h => ?_)
                  refine PW.icmp_eq g 528 (by decide) d_lw_law_233 (fun c12 => ?_) (fun c12 => ?_)
                  · have h := h.1 c12
                    refine PW.iinc g rfl (show x3 + Int32.ofInt (4) = (x3 + 4) from congrArg (HAdd.hAdd x3) (by decide)) (by decide) rfl (L' := [some (.retAddr 2), some (.ref 0), some (.ref 121), some (.int (x3 + 4))]) rfl d_lw_law_528 ?_
                    refine PW.goto g 18 (by decide) d_lw_law_531 ?_
                    refine PX.sub [some (.retAddr 2), some (.ref 0), some (.ref 121), some (.int (x3 + 4))] ⟨rfl, ⟨rfl, ⟨rfl, ⟨rfl, trivial⟩⟩⟩⟩ ?_
                    exact ih _ _ _ hL h
                  · have h := h.2 c12
                    refine PW.iconst g (0) (by decide) d_lw_law_236 ?_
                    exact False.elim h
                · have h := h.2 c11
                  by_cases c13 : ((xs x3.toNatClampNeg) &&& (15 : Int32)) = (6 : Int32)
                  · have h := h.1 c13
                    refine PW.tableIn g 238 (by rw [c13]; decide) (by rw [c13]; decide) (show _ = some (206) from by rw [c13]; decide) (by decide) d_lw_law_32 ?_
                    refine PW.aload_n g rfl rfl d_lw_law_238 ?_
                    refine PW.aloadX_n g rfl rfl d_lw_law_239 ?_
                    refine PW.iload_n g rfl rfl d_lw_law_240 ?_
                    refine PW.iconst g (1) (by decide) d_lw_law_241 ?_
                    refine PW.iadd g d_lw_law_242 ?_
                    refine PW.sld g hX hbl hbA h.1 d_lw_law_243 ?_
                    have h := h.2
                    refine PX.cVi [.int (xs (x3 + (1 : Int32)).toNatClampNeg)] [] g rfl ck_sr (c_sr_status d  hL h) cl_lw_41 (by omega) (by decide) rfl rfl (Nat.le_of_ble_eq_true rfl) d_lw_law_244 (fun v13 I13 R13 hL h => ?_)
                    refine PW.aload_n g rfl rfl d_lw_law_247 ?_
                    refine PW.aloadX_n g rfl rfl d_lw_law_248 ?_
                    refine PW.iload_n g rfl rfl d_lw_law_249 ?_
                    refine PW.iconst g (1) (by decide) d_lw_law_250 ?_
                    refine PW.iadd g d_lw_law_251 ?_
                    refine PW.sld g hX hbl hbA h.1 d_lw_law_252 ?_
                    have h := h.2
                    refine PX.cVi [.int (xs (x3 + (1 : Int32)).toNatClampNeg)] [.int v13] g rfl ck_md (c_md_status d  hL h) cl_lw_45 (by omega) (by decide) rfl rfl (Nat.le_of_ble_eq_true rfl) d_lw_law_253 (fun v14 I14 R14 hL h => ?_)
                    refine PW.icmp_eq g 528 (by decide) d_lw_law_256 (fun c14 => ?_) (fun c14 => ?_)
                    · have h := h.1 c14
                      refine PW.iinc g rfl (show x3 + Int32.ofInt (4) = (x3 + 4) from congrArg (HAdd.hAdd x3) (by decide)) (by decide) rfl (L' := [some (.retAddr 2), some (.ref 0), some (.ref 121), some (.int (x3 + 4))]) rfl d_lw_law_528 ?_
                      refine PW.goto g 18 (by decide) d_lw_law_531 ?_
                      refine PX.sub [some (.retAddr 2), some (.ref 0), some (.ref 121), some (.int (x3 + 4))] ⟨rfl, ⟨rfl, ⟨rfl, ⟨rfl, trivial⟩⟩⟩⟩ ?_
                      exact ih _ _ _ hL h
                    · have h := h.2 c14
                      refine PW.iconst g (0) (by decide) d_lw_law_259 ?_
                      exact False.elim h
                  · have h := h.2 c13
                    by_cases c15 : ((xs x3.toNatClampNeg) &&& (15 : Int32)) = (7 : Int32)
                    · have h := h.1 c15
                      refine PW.tableIn g 261 (by rw [c15]; decide) (by rw [c15]; decide) (show _ = some (229) from by rw [c15]; decide) (by decide) d_lw_law_32 ?_
                      refine PW.aload_n g rfl rfl d_lw_law_261 ?_
                      refine PW.aloadX_n g rfl rfl d_lw_law_262 ?_
                      refine PW.iload_n g rfl rfl d_lw_law_263 ?_
                      refine PW.iconst g (1) (by decide) d_lw_law_264 ?_
                      refine PW.iadd g d_lw_law_265 ?_
                      refine PW.sld g hX hbl hbA h.1 d_lw_law_266 ?_
                      have h := h.2
                      refine PX.cVi [.int (xs (x3 + (1 : Int32)).toNatClampNeg)] [] g rfl ck_sr (c_sr_failedAt d  hL h) cl_lw_46 (by omega) (by decide) rfl rfl (Nat.le_of_ble_eq_true rfl) d_lw_law_267 (fun v15 I15 R15 hL h => ?_)
                      refine PW.aload_n g rfl rfl d_lw_law_270 ?_
                      refine PW.aloadX_n g rfl rfl d_lw_law_271 ?_
                      refine PW.iload_n g rfl rfl d_lw_law_272 ?_
                      refine PW.iconst g (1) (by decide) d_lw_law_273 ?_
                      refine PW.iadd g d_lw_law_274 ?_
                      refine PW.sld g hX hbl hbA h.1 d_lw_law_275 ?_
                      have h := h.2
                      refine PX.cVi [.int (xs (x3 + (1 : Int32)).toNatClampNeg)] [.int v15] g rfl ck_md (c_md_failedAt d  hL h) cl_lw_49 (by omega) (by decide) rfl rfl (Nat.le_of_ble_eq_true rfl) d_lw_law_276 (fun v16 I16 R16 hL h => ?_)
                      refine PW.icmp_eq g 528 (by decide) d_lw_law_279 (fun c16 => ?_) (fun c16 => ?_)
                      · have h := h.1 c16
                        refine PW.iinc g rfl (show x3 + Int32.ofInt (4) = (x3 + 4) from congrArg (HAdd.hAdd x3) (by decide)) (by decide) rfl (L' := [some (.retAddr 2), some (.ref 0), some (.ref 121), some (.int (x3 + 4))]) rfl d_lw_law_528 ?_
                        refine PW.goto g 18 (by decide) d_lw_law_531 ?_
                        refine PX.sub [some (.retAddr 2), some (.ref 0), some (.ref 121), some (.int (x3 + 4))] ⟨rfl, ⟨rfl, ⟨rfl, ⟨rfl, trivial⟩⟩⟩⟩ ?_
                        exact ih _ _ _ hL h
                      · have h := h.2 c16
                        refine PW.iconst g (0) (by decide) d_lw_law_282 ?_
                        exact False.elim h
                    · have h := h.2 c15
                      by_cases c17 : ((xs x3.toNatClampNeg) &&& (15 : Int32)) = (8 : Int32)
                      · have h := h.1 c17
                        refine PW.tableIn g 284 (by rw [c17]; decide) (by rw [c17]; decide) (show _ = some (252) from by rw [c17]; decide) (by decide) d_lw_law_32 ?_
                        refine PW.aload_n g rfl rfl d_lw_law_284 ?_
                        refine PW.aloadX_n g rfl rfl d_lw_law_285 ?_
                        refine PW.iload_n g rfl rfl d_lw_law_286 ?_
                        refine PW.iconst g (1) (by decide) d_lw_law_287 ?_
                        refine PW.iadd g d_lw_law_288 ?_
                        refine PW.sld g hX hbl hbA h.1 d_lw_law_289 ?_
                        have h := h.2
                        refine PX.cVz [.int (xs (x3 + (1 : Int32)).toNatClampNeg)] [] g rfl ck_sr (c_sr_second d  hL h) cl_lw_50 (by omega) (by decide) rfl rfl (Nat.le_of_ble_eq_true rfl) d_lw_law_290 (fun v17 I17 R17 hL hzv17 h => ?_)
                        refine PW.aload_n g rfl rfl d_lw_law_293 ?_
                        refine PW.aloadX_n g rfl rfl d_lw_law_294 ?_
                        refine PW.iload_n g rfl rfl d_lw_law_295 ?_
                        refine PW.iconst g (1) (by decide) d_lw_law_296 ?_
                        refine PW.iadd g d_lw_law_297 ?_
                        refine PW.sld g hX hbl hbA h.1 d_lw_law_298 ?_
                        have h := h.2
                        refine PX.cVz [.int (xs (x3 + (1 : Int32)).toNatClampNeg)] [.int v17] g rfl ck_md (c_md_second d  hL h) cl_lw_54 (by omega) (by decide) rfl rfl (Nat.le_of_ble_eq_true rfl) d_lw_law_299 (fun v18 I18 R18 hL hzv18 h => ?_)
                        refine PW.icmp_eq g 528 (by decide) d_lw_law_302 (fun c18 => ?_) (fun c18 => ?_)
                        · have h := h.1 c18
                          refine PW.iinc g rfl (show x3 + Int32.ofInt (4) = (x3 + 4) from congrArg (HAdd.hAdd x3) (by decide)) (by decide) rfl (L' := [some (.retAddr 2), some (.ref 0), some (.ref 121), some (.int (x3 + 4))]) rfl d_lw_law_528 ?_
                          refine PW.goto g 18 (by decide) d_lw_law_531 ?_
                          refine PX.sub [some (.retAddr 2), some (.ref 0), some (.ref 121), some (.int (x3 + 4))] ⟨rfl, ⟨rfl, ⟨rfl, ⟨rfl, trivial⟩⟩⟩⟩ ?_
                          exact ih _ _ _ hL h
                        · have h := h.2 c18
                          refine PW.iconst g (0) (by decide) d_lw_law_305 ?_
                          exact False.elim h
                      · have h := h.2 c17
                        by_cases c19 : ((xs x3.toNatClampNeg) &&& (15 : Int32)) = (9 : Int32)
                        · have h := h.1 c19
                          refine PW.tableIn g 307 (by rw [c19]; decide) (by rw [c19]; decide) (show _ = some (275) from by rw [c19]; decide) (by decide) d_lw_law_32 ?_
                          refine PW.aload_n g rfl rfl d_lw_law_307 ?_
                          refine PW.aloadX_n g rfl rfl d_lw_law_308 ?_
                          refine PW.iload_n g rfl rfl d_lw_law_309 ?_
                          refine PW.iconst g (1) (by decide) d_lw_law_310 ?_
                          refine PW.iadd g d_lw_law_311 ?_
                          refine PW.sld g hX hbl hbA h.1 d_lw_law_312 ?_
                          have h := h.2
                          refine PW.aloadX_n g rfl rfl d_lw_law_313 ?_
                          refine PW.iload_n g rfl rfl d_lw_law_314 ?_
                          refine PW.iconst g (2) (by decide) d_lw_law_315 ?_
                          refine PW.iadd g d_lw_law_316 ?_
                          refine PW.sld g hX hbl hbA h.1 d_lw_law_317 ?_
                          have h := h.2
                          refine PX.cVi [.int (xs (x3 + (1 : Int32)).toNatClampNeg), .int (xs (x3 + (2 : Int32)).toNatClampNeg)] [] g rfl ck_sr (c_sr_variable d  hL h) cl_lw_55 (by omega) (by decide) rfl rfl (Nat.le_of_ble_eq_true rfl) d_lw_law_318 (fun v19 I19 R19 hL h => ?_)
                          refine PW.aload_n g rfl rfl d_lw_law_321 ?_
                          refine PW.aloadX_n g rfl rfl d_lw_law_322 ?_
                          refine PW.iload_n g rfl rfl d_lw_law_323 ?_
                          refine PW.iconst g (1) (by decide) d_lw_law_324 ?_
                          refine PW.iadd g d_lw_law_325 ?_
                          refine PW.sld g hX hbl hbA h.1 d_lw_law_326 ?_
                          have h := h.2
                          refine PW.aloadX_n g rfl rfl d_lw_law_327 ?_
                          refine PW.iload_n g rfl rfl d_lw_law_328 ?_
                          refine PW.iconst g (2) (by decide) d_lw_law_329 ?_
                          refine PW.iadd g d_lw_law_330 ?_
                          refine PW.sld g hX hbl hbA h.1 d_lw_law_331 ?_
                          have h := h.2
                          refine PX.cVi [.int (xs (x3 + (1 : Int32)).toNatClampNeg), .int (xs (x3 + (2 : Int32)).toNatClampNeg)] [.int v19] g rfl ck_md (c_md_variable d  hL h) cl_lw_59 (by omega) (by decide) rfl rfl (Nat.le_of_ble_eq_true rfl) d_lw_law_332 (fun v20 I20 R20 hL h => ?_)
                          refine PW.icmp_eq g 528 (by decide) d_lw_law_335 (fun c20 => ?_) (fun c20 => ?_)
                          · have h := h.1 c20
                            refine PW.iinc g rfl (show x3 + Int32.ofInt (4) = (x3 + 4) from congrArg (HAdd.hAdd x3) (by decide)) (by decide) rfl (L' := [some (.retAddr 2), some (.ref 0), some (.ref 121), some (.int (x3 + 4))]) rfl d_lw_law_528 ?_
                            refine PW.goto g 18 (by decide) d_lw_law_531 ?_
                            refine PX.sub [some (.retAddr 2), some (.ref 0), some (.ref 121), some (.int (x3 + 4))] ⟨rfl, ⟨rfl, ⟨rfl, ⟨rfl, trivial⟩⟩⟩⟩ ?_
                            exact ih _ _ _ hL h
                          · have h := h.2 c20
                            refine PW.iconst g (0) (by decide) d_lw_law_338 ?_
                            exact False.elim h
                        · have h := h.2 c19
                          by_cases c21 : ((xs x3.toNatClampNeg) &&& (15 : Int32)) = (10 : Int32)
                          · have h := h.1 c21
                            refine PW.tableIn g 340 (by rw [c21]; decide) (by rw [c21]; decide) (show _ = some (308) from by rw [c21]; decide) (by decide) d_lw_law_32 ?_
                            refine PW.aload_n g rfl rfl d_lw_law_340 ?_
                            refine PW.aloadX_n g rfl rfl d_lw_law_341 ?_
                            refine PW.iload_n g rfl rfl d_lw_law_342 ?_
                            refine PW.iconst g (1) (by decide) d_lw_law_343 ?_
                            refine PW.iadd g d_lw_law_344 ?_
                            refine PW.sld g hX hbl hbA h.1 d_lw_law_345 ?_
                            have h := h.2
                            refine PW.aloadX_n g rfl rfl d_lw_law_346 ?_
                            refine PW.iload_n g rfl rfl d_lw_law_347 ?_
                            refine PW.iconst g (2) (by decide) d_lw_law_348 ?_
                            refine PW.iadd g d_lw_law_349 ?_
                            refine PW.sld g hX hbl hbA h.1 d_lw_law_350 ?_
                            have h := h.2
                            refine PX.cVi [.int (xs (x3 + (1 : Int32)).toNatClampNeg), .int (xs (x3 + (2 : Int32)).toNatClampNeg)] [] g rfl ck_sr (c_sr_calls d  hL h) cl_lw_60 (by omega) (by decide) rfl rfl (Nat.le_of_ble_eq_true rfl) d_lw_law_351 (fun v21 I21 R21 hL h => ?_)
                            refine PW.aload_n g rfl rfl d_lw_law_354 ?_
                            refine PW.aloadX_n g rfl rfl d_lw_law_355 ?_
                            refine PW.iload_n g rfl rfl d_lw_law_356 ?_
                            refine PW.iconst g (1) (by decide) d_lw_law_357 ?_
                            refine PW.iadd g d_lw_law_358 ?_
                            refine PW.sld g hX hbl hbA h.1 d_lw_law_359 ?_
                            have h := h.2
                            refine PW.aloadX_n g rfl rfl d_lw_law_360 ?_
                            refine PW.iload_n g rfl rfl d_lw_law_361 ?_
                            refine PW.iconst g (2) (by decide) d_lw_law_362 ?_
                            refine PW.iadd g d_lw_law_363 ?_
                            refine PW.sld g hX hbl hbA h.1 d_lw_law_364 ?_
                            have h := h.2
                            refine PX.cVi [.int (xs (x3 + (1 : Int32)).toNatClampNeg), .int (xs (x3 + (2 : Int32)).toNatClampNeg)] [.int v21] g rfl ck_md (c_md_calls d  hL h) cl_lw_63 (by omega) (by decide) rfl rfl (Nat.le_of_ble_eq_true rfl) d_lw_law_365 (fun v22 I22 R22 hL h => ?_)
                            refine PW.icmp_eq g 528 (by decide) d_lw_law_368 (fun c22 => ?_) (fun c22 => ?_)
                            · have h := h.1 c22
                              refine PW.iinc g rfl (show x3 + Int32.ofInt (4) = (x3 + 4) from congrArg (HAdd.hAdd x3) (by decide)) (by decide) rfl (L' := [some (.retAddr 2), some (.ref 0), some (.ref 121), some (.int (x3 + 4))]) rfl d_lw_law_528 ?_
                              refine PW.goto g 18 (by decide) d_lw_law_531 ?_
                              refine PX.sub [some (.retAddr 2), some (.ref 0), some (.ref 121), some (.int (x3 + 4))] ⟨rfl, ⟨rfl, ⟨rfl, ⟨rfl, trivial⟩⟩⟩⟩ ?_
                              exact ih _ _ _ hL h
                            · have h := h.2 c22
                              refine PW.iconst g (0) (by decide) d_lw_law_371 ?_
                              exact False.elim h
                          · have h := h.2 c21
                            by_cases c23 : ((xs x3.toNatClampNeg) &&& (15 : Int32)) = (11 : Int32)
                            · have h := h.1 c23
                              refine PW.tableIn g 373 (by rw [c23]; decide) (by rw [c23]; decide) (show _ = some (341) from by rw [c23]; decide) (by decide) d_lw_law_32 ?_
                              refine PW.aload_n g rfl rfl d_lw_law_373 ?_
                              refine PW.aloadX_n g rfl rfl d_lw_law_374 ?_
                              refine PW.iload_n g rfl rfl d_lw_law_375 ?_
                              refine PW.iconst g (1) (by decide) d_lw_law_376 ?_
                              refine PW.iadd g d_lw_law_377 ?_
                              refine PW.sld g hX hbl hbA h.1 d_lw_law_378 ?_
                              have h := h.2
                              refine PX.cVi [.int (xs (x3 + (1 : Int32)).toNatClampNeg)] [] g rfl ck_sr (c_sr_values d  hL h) cl_lw_64 (by omega) (by decide) rfl rfl (Nat.le_of_ble_eq_true rfl) d_lw_law_379 (fun v23 I23 R23 hL h => ?_)
                              refine PW.aload_n g rfl rfl d_lw_law_382 ?_
                              refine PW.aloadX_n g rfl rfl d_lw_law_383 ?_
                              refine PW.iload_n g rfl rfl d_lw_law_384 ?_
                              refine PW.iconst g (1) (by decide) d_lw_law_385 ?_
                              refine PW.iadd g d_lw_law_386 ?_
                              refine PW.sld g hX hbl hbA h.1 d_lw_law_387 ?_
                              have h := h.2
                              refine PX.cVi [.int (xs (x3 + (1 : Int32)).toNatClampNeg)] [.int v23] g rfl ck_md (c_md_values d  hL h) cl_lw_67 (by omega) (by decide) rfl rfl (Nat.le_of_ble_eq_true rfl) d_lw_law_388 (fun v24 I24 R24 hL h => ?_)
                              refine PW.icmp_eq g 528 (by decide) d_lw_law_391 (fun c24 => ?_) (fun c24 => ?_)
                              · have h := h.1 c24
                                refine PW.iinc g rfl (show x3 + Int32.ofInt (4) = (x3 + 4) from congrArg (HAdd.hAdd x3) (by decide)) (by decide) rfl (L' := [some (.retAddr 2), some (.ref 0), some (.ref 121), some (.int (x3 + 4))]) rfl d_lw_law_528 ?_
                                refine PW.goto g 18 (by decide) d_lw_law_531 ?_
                                refine PX.sub [some (.retAddr 2), some (.ref 0), some (.ref 121), some (.int (x3 + 4))] ⟨rfl, ⟨rfl, ⟨rfl, ⟨rfl, trivial⟩⟩⟩⟩ ?_
                                exact ih _ _ _ hL h
                              · have h := h.2 c24
                                refine PW.iconst g (0) (by decide) d_lw_law_394 ?_
                                exact False.elim h
                            · have h := h.2 c23
                              by_cases c25 : ((xs x3.toNatClampNeg) &&& (15 : Int32)) = (12 : Int32)
                              · have h := h.1 c25
                                refine PW.tableIn g 396 (by rw [c25]; decide) (by rw [c25]; decide) (show _ = some (364) from by rw [c25]; decide) (by decide) d_lw_law_32 ?_
                                refine PW.aload_n g rfl rfl d_lw_law_396 ?_
                                refine PW.aloadX_n g rfl rfl d_lw_law_397 ?_
                                refine PW.iload_n g rfl rfl d_lw_law_398 ?_
                                refine PW.iconst g (1) (by decide) d_lw_law_399 ?_
                                refine PW.iadd g d_lw_law_400 ?_
                                refine PW.sld g hX hbl hbA h.1 d_lw_law_401 ?_
                                have h := h.2
                                refine PW.aloadX_n g rfl rfl d_lw_law_402 ?_
                                refine PW.iload_n g rfl rfl d_lw_law_403 ?_
                                refine PW.iconst g (2) (by decide) d_lw_law_404 ?_
                                refine PW.iadd g d_lw_law_405 ?_
                                refine PW.sld g hX hbl hbA h.1 d_lw_law_406 ?_
                                have h := h.2
                                refine PX.cVi [.int (xs (x3 + (1 : Int32)).toNatClampNeg), .int (xs (x3 + (2 : Int32)).toNatClampNeg)] [] g rfl ck_sr (c_sr_column d  hL h) cl_lw_68 (by omega) (by decide) rfl rfl (Nat.le_of_ble_eq_true rfl) d_lw_law_407 (fun v25 I25 R25 hL h => ?_)
                                refine PW.aload_n g rfl rfl d_lw_law_410 ?_
                                refine PW.aloadX_n g rfl rfl d_lw_law_411 ?_
                                refine PW.iload_n g rfl rfl d_lw_law_412 ?_
                                refine PW.iconst g (1) (by decide) d_lw_law_413 ?_
                                refine PW.iadd g d_lw_law_414 ?_
                                refine PW.sld g hX hbl hbA h.1 d_lw_law_415 ?_
                                have h := h.2
                                refine PW.aloadX_n g rfl rfl d_lw_law_416 ?_
                                refine PW.iload_n g rfl rfl d_lw_law_417 ?_
                                refine PW.iconst g (2) (by decide) d_lw_law_418 ?_
                                refine PW.iadd g d_lw_law_419 ?_
                                refine PW.sld g hX hbl hbA h.1 d_lw_law_420 ?_
                                have h := h.2
                                refine PX.cVi [.int (xs (x3 + (1 : Int32)).toNatClampNeg), .int (xs (x3 + (2 : Int32)).toNatClampNeg)] [.int v25] g rfl ck_md (c_md_column d  hL h) cl_lw_71 (by omega) (by decide) rfl rfl (Nat.le_of_ble_eq_true rfl) d_lw_law_421 (fun v26 I26 R26 hL h => ?_)
                                refine PW.icmp_eq g 528 (by decide) d_lw_law_424 (fun c26 => ?_) (fun c26 => ?_)
                                · have h := h.1 c26
                                  refine PW.iinc g rfl (show x3 + Int32.ofInt (4) = (x3 + 4) from congrArg (HAdd.hAdd x3) (by decide)) (by decide) rfl (L' := [some (.retAddr 2), some (.ref 0), some (.ref 121), some (.int (x3 + 4))]) rfl d_lw_law_528 ?_
                                  refine PW.goto g 18 (by decide) d_lw_law_531 ?_
                                  refine PX.sub [some (.retAddr 2), some (.ref 0), some (.ref 121), some (.int (x3 + 4))] ⟨rfl, ⟨rfl, ⟨rfl, ⟨rfl, trivial⟩⟩⟩⟩ ?_
                                  exact ih _ _ _ hL h
                                · have h := h.2 c26
                                  refine PW.iconst g (0) (by decide) d_lw_law_427 ?_
                                  exact False.elim h
                              · have h := h.2 c25
                                by_cases c27 : ((xs x3.toNatClampNeg) &&& (15 : Int32)) = (13 : Int32)
                                · have h := h.1 c27
                                  refine PW.tableIn g 429 (by rw [c27]; decide) (by rw [c27]; decide) (show _ = some (397) from by rw [c27]; decide) (by decide) d_lw_law_32 ?_
                                  refine PW.aload_n g rfl rfl d_lw_law_429 ?_
                                  refine PW.aloadX_n g rfl rfl d_lw_law_430 ?_
                                  refine PW.iload_n g rfl rfl d_lw_law_431 ?_
                                  refine PW.iconst g (1) (by decide) d_lw_law_432 ?_
                                  refine PW.iadd g d_lw_law_433 ?_
                                  refine PW.sld g hX hbl hbA h.1 d_lw_law_434 ?_
                                  have h := h.2
                                  refine PW.aloadX_n g rfl rfl d_lw_law_435 ?_
                                  refine PW.iload_n g rfl rfl d_lw_law_436 ?_
                                  refine PW.iconst g (2) (by decide) d_lw_law_437 ?_
                                  refine PW.iadd g d_lw_law_438 ?_
                                  refine PW.sld g hX hbl hbA h.1 d_lw_law_439 ?_
                                  have h := h.2
                                  refine PX.cVi [.int (xs (x3 + (1 : Int32)).toNatClampNeg), .int (xs (x3 + (2 : Int32)).toNatClampNeg)] [] g rfl ck_sr (c_sr_value d  hL h) cl_lw_72 (by omega) (by decide) rfl rfl (Nat.le_of_ble_eq_true rfl) d_lw_law_440 (fun v27 I27 R27 hL h => ?_)
                                  refine PW.aload_n g rfl rfl d_lw_law_443 ?_
                                  refine PW.aloadX_n g rfl rfl d_lw_law_444 ?_
                                  refine PW.iload_n g rfl rfl d_lw_law_445 ?_
                                  refine PW.iconst g (1) (by decide) d_lw_law_446 ?_
                                  refine PW.iadd g d_lw_law_447 ?_
                                  refine PW.sld g hX hbl hbA h.1 d_lw_law_448 ?_
                                  have h := h.2
                                  refine PW.aloadX_n g rfl rfl d_lw_law_449 ?_
                                  refine PW.iload_n g rfl rfl d_lw_law_450 ?_
                                  refine PW.iconst g (2) (by decide) d_lw_law_451 ?_
                                  refine PW.iadd g d_lw_law_452 ?_
                                  refine PW.sld g hX hbl hbA h.1 d_lw_law_453 ?_
                                  have h := h.2
                                  refine PX.cVi [.int (xs (x3 + (1 : Int32)).toNatClampNeg), .int (xs (x3 + (2 : Int32)).toNatClampNeg)] [.int v27] g rfl ck_md (c_md_value d  hL h) cl_lw_75 (by omega) (by decide) rfl rfl (Nat.le_of_ble_eq_true rfl) d_lw_law_454 (fun v28 I28 R28 hL h => ?_)
                                  refine PW.icmp_eq g 528 (by decide) d_lw_law_457 (fun c28 => ?_) (fun c28 => ?_)
                                  · have h := h.1 c28
                                    refine PW.iinc g rfl (show x3 + Int32.ofInt (4) = (x3 + 4) from congrArg (HAdd.hAdd x3) (by decide)) (by decide) rfl (L' := [some (.retAddr 2), some (.ref 0), some (.ref 121), some (.int (x3 + 4))]) rfl d_lw_law_528 ?_
                                    refine PW.goto g 18 (by decide) d_lw_law_531 ?_
                                    refine PX.sub [some (.retAddr 2), some (.ref 0), some (.ref 121), some (.int (x3 + 4))] ⟨rfl, ⟨rfl, ⟨rfl, ⟨rfl, trivial⟩⟩⟩⟩ ?_
                                    exact ih _ _ _ hL h
                                  · have h := h.2 c28
                                    refine PW.iconst g (0) (by decide) d_lw_law_460 ?_
                                    exact False.elim h
                                · have h := h.2 c27
                                  by_cases c29 : ((xs x3.toNatClampNeg) &&& (15 : Int32)) = (14 : Int32)
                                  · have h := h.1 c29
                                    refine PW.tableIn g 462 (by rw [c29]; decide) (by rw [c29]; decide) (show _ = some (430) from by rw [c29]; decide) (by decide) d_lw_law_32 ?_
                                    refine PW.aload_n g rfl rfl d_lw_law_462 ?_
                                    refine PW.aloadX_n g rfl rfl d_lw_law_463 ?_
                                    refine PW.iload_n g rfl rfl d_lw_law_464 ?_
                                    refine PW.iconst g (1) (by decide) d_lw_law_465 ?_
                                    refine PW.iadd g d_lw_law_466 ?_
                                    refine PW.sld g hX hbl hbA h.1 d_lw_law_467 ?_
                                    have h := h.2
                                    refine PX.cVi [.int (xs (x3 + (1 : Int32)).toNatClampNeg)] [] g rfl ck_sr (c_sr_lines d  hL h) cl_lw_76 (by omega) (by decide) rfl rfl (Nat.le_of_ble_eq_true rfl) d_lw_law_468 (fun v29 I29 R29 hL h => ?_)
                                    refine PW.aload_n g rfl rfl d_lw_law_471 ?_
                                    refine PW.aloadX_n g rfl rfl d_lw_law_472 ?_
                                    refine PW.iload_n g rfl rfl d_lw_law_473 ?_
                                    refine PW.iconst g (1) (by decide) d_lw_law_474 ?_
                                    refine PW.iadd g d_lw_law_475 ?_
                                    refine PW.sld g hX hbl hbA h.1 d_lw_law_476 ?_
                                    have h := h.2
                                    refine PX.cVi [.int (xs (x3 + (1 : Int32)).toNatClampNeg)] [.int v29] g rfl ck_md (c_md_lines d  hL h) cl_lw_79 (by omega) (by decide) rfl rfl (Nat.le_of_ble_eq_true rfl) d_lw_law_477 (fun v30 I30 R30 hL h => ?_)
                                    refine PW.icmp_eq g 528 (by decide) d_lw_law_480 (fun c30 => ?_) (fun c30 => ?_)
                                    · have h := h.1 c30
                                      refine PW.iinc g rfl (show x3 + Int32.ofInt (4) = (x3 + 4) from congrArg (HAdd.hAdd x3) (by decide)) (by decide) rfl (L' := [some (.retAddr 2), some (.ref 0), some (.ref 121), some (.int (x3 + 4))]) rfl d_lw_law_528 ?_
                                      refine PW.goto g 18 (by decide) d_lw_law_531 ?_
                                      refine PX.sub [some (.retAddr 2), some (.ref 0), some (.ref 121), some (.int (x3 + 4))] ⟨rfl, ⟨rfl, ⟨rfl, ⟨rfl, trivial⟩⟩⟩⟩ ?_
                                      exact ih _ _ _ hL h
                                    · have h := h.2 c30
                                      refine PW.iconst g (0) (by decide) d_lw_law_483 ?_
                                      exact False.elim h
                                  · have h := h.2 c29
                                    by_cases c31 : ((xs x3.toNatClampNeg) &&& (15 : Int32)) = (15 : Int32)
                                    · have h := h.1 c31
                                      refine PW.tableIn g 485 (by rw [c31]; decide) (by rw [c31]; decide) (show _ = some (453) from by rw [c31]; decide) (by decide) d_lw_law_32 ?_
                                      refine PW.aload_n g rfl rfl d_lw_law_485 ?_
                                      refine PW.aloadX_n g rfl rfl d_lw_law_486 ?_
                                      refine PW.iload_n g rfl rfl d_lw_law_487 ?_
                                      refine PW.iconst g (1) (by decide) d_lw_law_488 ?_
                                      refine PW.iadd g d_lw_law_489 ?_
                                      refine PW.sld g hX hbl hbA h.1 d_lw_law_490 ?_
                                      have h := h.2
                                      refine PW.aloadX_n g rfl rfl d_lw_law_491 ?_
                                      refine PW.iload_n g rfl rfl d_lw_law_492 ?_
                                      refine PW.iconst g (2) (by decide) d_lw_law_493 ?_
                                      refine PW.iadd g d_lw_law_494 ?_
                                      refine PW.sld g hX hbl hbA h.1 d_lw_law_495 ?_
                                      have h := h.2
                                      refine PW.aloadX_n g rfl rfl d_lw_law_496 ?_
                                      refine PW.iload_n g rfl rfl d_lw_law_497 ?_
                                      refine PW.iconst g (3) (by decide) d_lw_law_498 ?_
                                      refine PW.iadd g d_lw_law_499 ?_
                                      refine PW.sld g hX hbl hbA h.1 d_lw_law_500 ?_
                                      have h := h.2
                                      refine PX.cVi [.int (xs (x3 + (1 : Int32)).toNatClampNeg), .int (xs (x3 + (2 : Int32)).toNatClampNeg), .int (xs (x3 + (3 : Int32)).toNatClampNeg)] [] g rfl ck_sr (c_sr_drawn d  hL h) cl_lw_80 (by omega) (by decide) rfl rfl (Nat.le_of_ble_eq_true rfl) d_lw_law_501 (fun v31 I31 R31 hL h => ?_)
                                      refine PW.aload_n g rfl rfl d_lw_law_504 ?_
                                      refine PW.aloadX_n g rfl rfl d_lw_law_505 ?_
                                      refine PW.iload_n g rfl rfl d_lw_law_506 ?_
                                      refine PW.iconst g (1) (by decide) d_lw_law_507 ?_
                                      refine PW.iadd g d_lw_law_508 ?_
                                      refine PW.sld g hX hbl hbA h.1 d_lw_law_509 ?_
                                      have h := h.2
                                      refine PW.aloadX_n g rfl rfl d_lw_law_510 ?_
                                      refine PW.iload_n g rfl rfl d_lw_law_511 ?_
                                      refine PW.iconst g (2) (by decide) d_lw_law_512 ?_
                                      refine PW.iadd g d_lw_law_513 ?_
                                      refine PW.sld g hX hbl hbA h.1 d_lw_law_514 ?_
                                      have h := h.2
                                      refine PW.aloadX_n g rfl rfl d_lw_law_515 ?_
                                      refine PW.iload_n g rfl rfl d_lw_law_516 ?_
                                      refine PW.iconst g (3) (by decide) d_lw_law_517 ?_
                                      refine PW.iadd g d_lw_law_518 ?_
                                      refine PW.sld g hX hbl hbA h.1 d_lw_law_519 ?_
                                      have h := h.2
                                      refine PX.cVi [.int (xs (x3 + (1 : Int32)).toNatClampNeg), .int (xs (x3 + (2 : Int32)).toNatClampNeg), .int (xs (x3 + (3 : Int32)).toNatClampNeg)] [.int v31] g rfl ck_md (c_md_drawn d  hL h) cl_lw_84 (by omega) (by decide) rfl rfl (Nat.le_of_ble_eq_true rfl) d_lw_law_520 (fun v32 I32 R32 hL h => ?_)
                                      refine PW.icmp_eq g 528 (by decide) d_lw_law_523 (fun c32 => ?_) (fun c32 => ?_)
                                      · have h := h.1 c32
                                        refine PW.iinc g rfl (show x3 + Int32.ofInt (4) = (x3 + 4) from congrArg (HAdd.hAdd x3) (by decide)) (by decide) rfl (L' := [some (.retAddr 2), some (.ref 0), some (.ref 121), some (.int (x3 + 4))]) rfl d_lw_law_528 ?_
                                        refine PW.goto g 18 (by decide) d_lw_law_531 ?_
                                        refine PX.sub [some (.retAddr 2), some (.ref 0), some (.ref 121), some (.int (x3 + 4))] ⟨rfl, ⟨rfl, ⟨rfl, ⟨rfl, trivial⟩⟩⟩⟩ ?_
                                        exact ih _ _ _ hL h
                                      · have h := h.2 c32
                                        refine PW.iconst g (0) (by decide) d_lw_law_526 ?_
                                        exact False.elim h
                                    · have h := h.2 c31
                                      refine PW.tableOut g 528 (by have b0 := lv_neT c2 (a := 0) (by decide); have b1 := lv_neT c4 (a := 1) (by decide); have b2 := lv_neT c5 (a := 2) (by decide); have b3 := lv_neT c7 (a := 3) (by decide); have b4 := lv_neT c9 (a := 4) (by decide); have b5 := lv_neT c11 (a := 5) (by decide); have b6 := lv_neT c13 (a := 6) (by decide); have b7 := lv_neT c15 (a := 7) (by decide); have b8 := lv_neT c17 (a := 8) (by decide); have b9 := lv_neT c19 (a := 9) (by decide); have b10 := lv_neT c21 (a := 10) (by decide); have b11 := lv_neT c23 (a := 11) (by decide); have b12 := lv_neT c25 (a := 12) (by decide); have b13 := lv_neT c27 (a := 13) (by decide); have b14 := lv_neT c29 (a := 14) (by decide); have b15 := lv_neT c31 (a := 15) (by decide); omega) (by decide) d_lw_law_32 ?_
                                      refine PW.iinc g rfl (show x3 + Int32.ofInt (4) = (x3 + 4) from congrArg (HAdd.hAdd x3) (by decide)) (by decide) rfl (L' := [some (.retAddr 2), some (.ref 0), some (.ref 121), some (.int (x3 + 4))]) rfl d_lw_law_528 ?_
                                      refine PW.goto g 18 (by decide) d_lw_law_531 ?_
                                      refine PX.sub [some (.retAddr 2), some (.ref 0), some (.ref 121), some (.int (x3 + 4))] ⟨rfl, ⟨rfl, ⟨rfl, ⟨rfl, trivial⟩⟩⟩⟩ ?_
                                      exact ih _ _ _ hL h
-- depth 72
