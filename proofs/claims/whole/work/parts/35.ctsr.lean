def kI_sr (I : pI) : pI := (kI_rn 114 (pw_zI (kI_ps 108 (pw_zI (kI_ft 81 (pw_zI (kI_ft 54 (pw_zI (kI_oc 46 (pw_zI (kI_oc 38 (pw_zI (kI_oc 30 (pw_zI (kI_oc 22 (pw_zI (kI_oc 14 (pw_zI (kI_oc 6 (pw_zI (pw_wI (kI_ck 2 (pw_zI (pw_zI I 1) 2)) 0 9 (-1 : Int32)) 6)) 14)) 22)) 30)) 38)) 46)) 54)) 81)) 108)) 114))
def kR_sr (R : pR) : pR := (pw_wR (kR_rn 114 81 6 (pw_zR (pw_wR (kR_ps 108 54 (pw_zR (pw_wR (kR_ft 81 (pw_zR (pw_wR (kR_ft 54 (pw_zR (pw_wR (kR_oc 46 (pw_zR (pw_wR (kR_oc 38 (pw_zR (pw_wR (kR_oc 30 (pw_zR (pw_wR (kR_oc 22 (pw_zR (pw_wR (kR_oc 14 (pw_zR (pw_wR (kR_oc 6 (pw_zR (pw_wR (pw_zR (pw_wR (kR_ck 2 (pw_zR (pw_wR R 0 0 (some 1)) 2)) 0 1 (some 2)) 5) 0 2 (some 5)) 6)) 5 (0 : Int32).toNatClampNeg (some 6)) 14)) 5 (1 : Int32).toNatClampNeg (some 14)) 22)) 5 (2 : Int32).toNatClampNeg (some 22)) 30)) 5 (3 : Int32).toNatClampNeg (some 30)) 38)) 5 (4 : Int32).toNatClampNeg (some 38)) 46)) 5 (5 : Int32).toNatClampNeg (some 46)) 54)) 0 6 (some 54)) 81)) 0 7 (some 81)) 108)) 0 3 (some 108)) 114)) 0 4 (some 114))
def ks_sr : pS := [(2, 120), (0, 1), (1, 26), (1, 26), (10, 6), (0, 6), (1, 26), (1, 2), (0, 3), (2, 120), (1, 120), (1, 120), (1, 120), (0, 6), (1, 26), (1, 2), (0, 3), (2, 120), (1, 120), (1, 120), (1, 120), (0, 6), (1, 26), (1, 2), (0, 3), (2, 120), (1, 120), (1, 120), (1, 120), (0, 6), (1, 26), (1, 2), (0, 3), (2, 120), (1, 120), (1, 120), (1, 120), (0, 6), (1, 26), (1, 2), (0, 3), (2, 120), (1, 120), (1, 120), (1, 120), (0, 6), (1, 26), (1, 2), (0, 3), (2, 120), (1, 120), (1, 120), (1, 120), (0, 5), (2, 120), (0, 2), (1, 120), (1, 120), (1, 120), (1, 120), (0, 10), (1, 61), (1, 61), (1, 61), (1, 61), (1, 61), (1, 61), (0, 8), (1, 22), (1, 22), (1, 22), (1, 22), (1, 22), (1, 22), (1, 22), (1, 61), (1, 42), (1, 61), (1, 61), (1, 61), (0, 5), (2, 120), (0, 2), (1, 120), (1, 120), (1, 120), (1, 120), (0, 10), (1, 61), (1, 61), (1, 61), (1, 61), (1, 61), (1, 61), (0, 8), (1, 22), (1, 22), (1, 22), (1, 22), (1, 22), (1, 22), (1, 22), (1, 61), (1, 42), (1, 61), (1, 61), (1, 61), (0, 7), (0, 11), (1, 120), (1, 120), (1, 120), (1, 120), (0, 9), (0, 4), (1, 120), (1, 120), (1, 120), (1, 120), (1, 22)]
set_option maxHeartbeats 4000000 in
set_option maxRecDepth 100000 in
theorem k_sr_init (d : Nat) {I : pI} {R : pR} {sh : pS} (hp : sh[0]? = some (0, 0)) (hl : sh.length = 0 + 1) : Ctr (d + 4) 120 7195 m_sr_init [.ref 0] I R sh (fun r I1 R1 sh1 => r = none ∧ I1 = kI_sr I ∧ R1 = kR_sr R ∧ sh1 = sh ++ ks_sr) := by
  refine Ctr.of [some (.ref 0), none] (by decide) rfl (Nat.le_of_ble_eq_true rfl) (by simp) (fun E B g hF => ?_)
  have hov : va_AO "SpecRunner$Outcome" E.2.2.2.2.1 := g.jd.2.2.2
  refine PW.aload_n g rfl rfl d_sr_init_0 ?_
  refine PW.objInit g (pw_gw 125 (by decide +kernel) (by decide +kernel)) (pw_d1 (by decide)) rfl (Nat.le_of_ble_eq_true rfl) d_sr_init_1 ?_
  refine PW.aload_n g rfl rfl d_sr_init_4 ?_
  refine PW.bipush g (120) (by decide) d_sr_init_5 ?_
  refine PW.newaC (nc := 119) (ns := 7075) g 120 1 hl (by decide) (by decide) (by decide) d_sr_init_7 ?_
  have on_ := pw_apn (x := (2, 120)) hl
  have hp := pw_apl (l := [(2, 120)]) hp
  have o_1 := on_
  have hl := pw_len1 (x := (2, 120)) hl
  refine PW.putFR g fi_sr_11 rfl (fun C_ T_ N_ ty_ h_ => by cases Option.some.inj (ck_sr.1.symm.trans h_.1); exact (pw_gw 518 (by decide +kernel) (by decide +kernel))) (fun C_ T_ N_ ty_ h_ => by cases Option.some.inj (ck_sr.1.symm.trans h_.1); rfl) hp rfl rfl d_sr_init_9 ?_
  refine PW.aload_n g rfl rfl d_sr_init_12 ?_
  refine PW.gen (fun I1 R1 sh1 eI1 eR1 eS1 => ?_)
  rw [← eS1] at hp o_1 hl
  refine PW.newo (nc := 118) (ns := 7071) g 2 ck_ck dv_ck (pw_gw 128 (by decide +kernel) (by decide +kernel)) (pw_gw 129 (by decide +kernel) (by decide +kernel)) (pw_gw 101 (by decide +kernel) (by decide +kernel)) hl d_sr_init_13 ?_
  have on_ := pw_apn (x := (0, 1)) hl
  have hp := pw_apl (l := [(0, 1)]) hp
  have o_1 := pw_apl (l := [(0, 1)]) o_1
  have o_2 := on_
  have hl := pw_len1 (x := (0, 1)) hl
  refine PW.dup g rfl d_sr_init_16 ?_
  refine PW.callI (mc2 := 2) (ms2 := 52) (nc := 116) (ns := 7019) [] [.ref 2, .ref 0] g (k_ck_init d o_2 hl) cl_sr_17 (pw_dl (by decide)) (by decide) rfl rfl (Nat.le_of_ble_eq_true rfl) d_sr_init_17 (fun r_ I_ R_ sh_ hh => ?_)
  obtain ⟨rfl, rfl, rfl, rfl⟩ := hh
  have hp := pw_apl (l := ks_ck) hp
  have o_1 := pw_apl (l := ks_ck) o_1
  have o_2 := pw_apl (l := ks_ck) o_2
  have hl := pw_lenk (l := ks_ck) (n := 5) hl (by simp [ks_ck])
  refine PW.putFR g fi_sr_18 rfl (fun C_ T_ N_ ty_ h_ => by cases Option.some.inj (ck_sr.1.symm.trans h_.1); exact (pw_gw 519 (by decide +kernel) (by decide +kernel))) (fun C_ T_ N_ ty_ h_ => by cases Option.some.inj (ck_sr.1.symm.trans h_.1); rfl) hp rfl rfl d_sr_init_20 ?_
  refine PW.aload_n g rfl rfl d_sr_init_23 ?_
  refine PW.bipush g (6) (by decide) d_sr_init_24 ?_
  refine PW.newr (nc := 115) (ns := 7013) g 6 5 (pw_gw 151 (by decide +kernel) (by decide +kernel)) hov hl (by decide) (by decide) (by decide) d_sr_init_26 ?_
  have on_ := pw_apn (x := (10, 6)) hl
  have hp := pw_apl (l := [(10, 6)]) hp
  have o_1 := pw_apl (l := [(10, 6)]) o_1
  have o_2 := pw_apl (l := [(10, 6)]) o_2
  have o_5 := on_
  have hl := pw_len1 (x := (10, 6)) hl
  refine PW.putFR g fi_sr_24 rfl (fun C_ T_ N_ ty_ h_ => by cases Option.some.inj (ck_sr.1.symm.trans h_.1); exact (pw_gw 520 (by decide +kernel) (by decide +kernel))) (fun C_ T_ N_ ty_ h_ => by cases Option.some.inj (ck_sr.1.symm.trans h_.1); rfl) hp rfl rfl d_sr_init_29 ?_
  refine PW.aload_n g rfl rfl d_sr_init_32 ?_
  refine PW.iconst g (-1) (by decide) d_sr_init_33 ?_
  refine PW.putI g fi_sr_28 hp rfl rfl d_sr_init_34 ?_
  refine PW.iconst g (0) (by decide) d_sr_init_37 ?_
  refine PW.istore_n g rfl (L' := [some (.ref 0), some (.int (0 : Int32))]) (by decide) rfl rfl d_sr_init_38 ?_
  refine PW.iload_n g rfl rfl d_sr_init_39 ?_
  refine PW.bipush g (6) (by decide) d_sr_init_40 ?_
  refine PW.icmp_ge g 64 (by decide) d_sr_init_42 (fun c => absurd c (by decide)) (fun _ => ?_)
  refine PW.aload_n g rfl rfl d_sr_init_45 ?_
  refine PW.getR (q := 5) g fi_sr_24 hp (by simp [pw_zR, pw_wR, va_up, kr_ck, kr_oc, kr_ft, kr_ps, kr_rn]) d_sr_init_46 ?_
  refine PW.iload_n g rfl rfl d_sr_init_49 ?_
  have r_0_2 : (pw_wR (pw_zR (pw_wR (kR_ck 2 (pw_zR R1 2)) 0 1 (some 2)) 5) 0 2 (some 5)) 0 2 = some 5 := by simp [pw_zR, pw_wR, va_up, kr_ck, kr_oc, kr_ft, kr_ps, kr_rn]
  refine PW.gen (fun I2 R2 sh2 eI2 eR2 eS2 => ?_)
  rw [← eS2] at hp o_1 o_2 o_5 hl
  rw [← eR2] at r_0_2
  refine PW.newo (nc := 114) (ns := 7007) g 6 ck_oc dv_oc (pw_gw 151 (by decide +kernel) (by decide +kernel)) (pw_gw 153 (by decide +kernel) (by decide +kernel)) (pw_gw 102 (by decide +kernel) (by decide +kernel)) hl d_sr_init_50 ?_
  have on_ := pw_apn (x := (0, 6)) hl
  have hp := pw_apl (l := [(0, 6)]) hp
  have o_1 := pw_apl (l := [(0, 6)]) o_1
  have o_2 := pw_apl (l := [(0, 6)]) o_2
  have o_5 := pw_apl (l := [(0, 6)]) o_5
  have o_6 := on_
  have hl := pw_len1 (x := (0, 6)) hl
  refine PW.dup g rfl d_sr_init_53 ?_
  refine PW.callI (mc2 := 7) (ms2 := 515) (nc := 107) (ns := 6492) [] [.ref 6, .int (0 : Int32), .ref 5] g (k_oc_init d o_6 hl) cl_sr_32 (pw_dl (by decide)) (by decide) rfl rfl (Nat.le_of_ble_eq_true rfl) d_sr_init_54 (fun r_ I_ R_ sh_ hh => ?_)
  obtain ⟨rfl, rfl, rfl, rfl⟩ := hh
  have hp := pw_apl (l := ks_oc) hp
  have o_1 := pw_apl (l := ks_oc) o_1
  have o_2 := pw_apl (l := ks_oc) o_2
  have o_5 := pw_apl (l := ks_oc) o_5
  have o_6 := pw_apl (l := ks_oc) o_6
  have hl := pw_lenk (l := ks_oc) (n := 14) hl (by simp [ks_oc])
  refine PW.aast g o_5 o_6 (by unfold vp_in; decide) d_sr_init_57 ?_
  refine PW.iinc g rfl (v := 1) (by decide) (by decide) rfl (L' := [some (.ref 0), some (.int (1 : Int32))]) rfl d_sr_init_58 ?_
  refine PW.goto g 39 (by decide) d_sr_init_61 ?_
  refine PW.iload_n g rfl rfl d_sr_init_39 ?_
  refine PW.bipush g (6) (by decide) d_sr_init_40 ?_
  refine PW.icmp_ge g 64 (by decide) d_sr_init_42 (fun c => absurd c (by decide)) (fun _ => ?_)
  refine PW.aload_n g rfl rfl d_sr_init_45 ?_
  refine PW.getR (q := 5) g fi_sr_24 hp (by simp [pw_zR, pw_wR, va_up, kr_ck, kr_oc, kr_ft, kr_ps, kr_rn, r_0_2]) d_sr_init_46 ?_
  refine PW.iload_n g rfl rfl d_sr_init_49 ?_
  have r_0_2 : (pw_wR (kR_oc 6 (pw_zR R2 6)) 5 (0 : Int32).toNatClampNeg (some 6)) 0 2 = some 5 := by simp [pw_zR, pw_wR, va_up, kr_ck, kr_oc, kr_ft, kr_ps, kr_rn, r_0_2]
  have r_5_0 : (pw_wR (kR_oc 6 (pw_zR R2 6)) 5 (0 : Int32).toNatClampNeg (some 6)) 5 0 = some 6 := by simp [pw_zR, pw_wR, va_up, kr_ck, kr_oc, kr_ft, kr_ps, kr_rn]
  refine PW.gen (fun I3 R3 sh3 eI3 eR3 eS3 => ?_)
  rw [← eS3] at hp o_1 o_2 o_5 o_6 hl
  rw [← eR3] at r_0_2 r_5_0
  refine PW.newo (nc := 106) (ns := 6486) g 14 ck_oc dv_oc (pw_gw 151 (by decide +kernel) (by decide +kernel)) (pw_gw 153 (by decide +kernel) (by decide +kernel)) (pw_gw 102 (by decide +kernel) (by decide +kernel)) hl d_sr_init_50 ?_
  have on_ := pw_apn (x := (0, 6)) hl
  have hp := pw_apl (l := [(0, 6)]) hp
  have o_1 := pw_apl (l := [(0, 6)]) o_1
  have o_2 := pw_apl (l := [(0, 6)]) o_2
  have o_5 := pw_apl (l := [(0, 6)]) o_5
  have o_6 := pw_apl (l := [(0, 6)]) o_6
  have o_14 := on_
  have hl := pw_len1 (x := (0, 6)) hl
  refine PW.dup g rfl d_sr_init_53 ?_
  refine PW.callI (mc2 := 7) (ms2 := 515) (nc := 99) (ns := 5971) [] [.ref 14, .int (1 : Int32), .ref 5] g (k_oc_init d o_14 hl) cl_sr_32 (pw_dl (by decide)) (by decide) rfl rfl (Nat.le_of_ble_eq_true rfl) d_sr_init_54 (fun r_ I_ R_ sh_ hh => ?_)
  obtain ⟨rfl, rfl, rfl, rfl⟩ := hh
  have hp := pw_apl (l := ks_oc) hp
  have o_1 := pw_apl (l := ks_oc) o_1
  have o_2 := pw_apl (l := ks_oc) o_2
  have o_5 := pw_apl (l := ks_oc) o_5
  have o_6 := pw_apl (l := ks_oc) o_6
  have o_14 := pw_apl (l := ks_oc) o_14
  have hl := pw_lenk (l := ks_oc) (n := 22) hl (by simp [ks_oc])
  refine PW.aast g o_5 o_14 (by unfold vp_in; decide) d_sr_init_57 ?_
  refine PW.iinc g rfl (v := 2) (by decide) (by decide) rfl (L' := [some (.ref 0), some (.int (2 : Int32))]) rfl d_sr_init_58 ?_
  refine PW.goto g 39 (by decide) d_sr_init_61 ?_
  refine PW.iload_n g rfl rfl d_sr_init_39 ?_
  refine PW.bipush g (6) (by decide) d_sr_init_40 ?_
  refine PW.icmp_ge g 64 (by decide) d_sr_init_42 (fun c => absurd c (by decide)) (fun _ => ?_)
  refine PW.aload_n g rfl rfl d_sr_init_45 ?_
  refine PW.getR (q := 5) g fi_sr_24 hp (by simp [pw_zR, pw_wR, va_up, kr_ck, kr_oc, kr_ft, kr_ps, kr_rn, r_0_2, r_5_0]) d_sr_init_46 ?_
  refine PW.iload_n g rfl rfl d_sr_init_49 ?_
  have r_0_2 : (pw_wR (kR_oc 14 (pw_zR R3 14)) 5 (1 : Int32).toNatClampNeg (some 14)) 0 2 = some 5 := by simp [pw_zR, pw_wR, va_up, kr_ck, kr_oc, kr_ft, kr_ps, kr_rn, r_0_2]
  have r_5_0 : (pw_wR (kR_oc 14 (pw_zR R3 14)) 5 (1 : Int32).toNatClampNeg (some 14)) 5 0 = some 6 := by simp [pw_zR, pw_wR, va_up, kr_ck, kr_oc, kr_ft, kr_ps, kr_rn, r_5_0]
  refine PW.gen (fun I4 R4 sh4 eI4 eR4 eS4 => ?_)
  rw [← eS4] at hp o_1 o_2 o_5 o_6 o_14 hl
  rw [← eR4] at r_0_2 r_5_0
  refine PW.newo (nc := 98) (ns := 5965) g 22 ck_oc dv_oc (pw_gw 151 (by decide +kernel) (by decide +kernel)) (pw_gw 153 (by decide +kernel) (by decide +kernel)) (pw_gw 102 (by decide +kernel) (by decide +kernel)) hl d_sr_init_50 ?_
  have on_ := pw_apn (x := (0, 6)) hl
  have hp := pw_apl (l := [(0, 6)]) hp
  have o_1 := pw_apl (l := [(0, 6)]) o_1
  have o_2 := pw_apl (l := [(0, 6)]) o_2
  have o_5 := pw_apl (l := [(0, 6)]) o_5
  have o_6 := pw_apl (l := [(0, 6)]) o_6
  have o_14 := pw_apl (l := [(0, 6)]) o_14
  have o_22 := on_
  have hl := pw_len1 (x := (0, 6)) hl
  refine PW.dup g rfl d_sr_init_53 ?_
  refine PW.callI (mc2 := 7) (ms2 := 515) (nc := 91) (ns := 5450) [] [.ref 22, .int (2 : Int32), .ref 5] g (k_oc_init d o_22 hl) cl_sr_32 (pw_dl (by decide)) (by decide) rfl rfl (Nat.le_of_ble_eq_true rfl) d_sr_init_54 (fun r_ I_ R_ sh_ hh => ?_)
  obtain ⟨rfl, rfl, rfl, rfl⟩ := hh
  have hp := pw_apl (l := ks_oc) hp
  have o_1 := pw_apl (l := ks_oc) o_1
  have o_2 := pw_apl (l := ks_oc) o_2
  have o_5 := pw_apl (l := ks_oc) o_5
  have o_6 := pw_apl (l := ks_oc) o_6
  have o_14 := pw_apl (l := ks_oc) o_14
  have o_22 := pw_apl (l := ks_oc) o_22
  have hl := pw_lenk (l := ks_oc) (n := 30) hl (by simp [ks_oc])
  refine PW.aast g o_5 o_22 (by unfold vp_in; decide) d_sr_init_57 ?_
  refine PW.iinc g rfl (v := 3) (by decide) (by decide) rfl (L' := [some (.ref 0), some (.int (3 : Int32))]) rfl d_sr_init_58 ?_
  refine PW.goto g 39 (by decide) d_sr_init_61 ?_
  refine PW.iload_n g rfl rfl d_sr_init_39 ?_
  refine PW.bipush g (6) (by decide) d_sr_init_40 ?_
  refine PW.icmp_ge g 64 (by decide) d_sr_init_42 (fun c => absurd c (by decide)) (fun _ => ?_)
  refine PW.aload_n g rfl rfl d_sr_init_45 ?_
  refine PW.getR (q := 5) g fi_sr_24 hp (by simp [pw_zR, pw_wR, va_up, kr_ck, kr_oc, kr_ft, kr_ps, kr_rn, r_0_2, r_5_0]) d_sr_init_46 ?_
  refine PW.iload_n g rfl rfl d_sr_init_49 ?_
  have r_0_2 : (pw_wR (kR_oc 22 (pw_zR R4 22)) 5 (2 : Int32).toNatClampNeg (some 22)) 0 2 = some 5 := by simp [pw_zR, pw_wR, va_up, kr_ck, kr_oc, kr_ft, kr_ps, kr_rn, r_0_2]
  have r_5_0 : (pw_wR (kR_oc 22 (pw_zR R4 22)) 5 (2 : Int32).toNatClampNeg (some 22)) 5 0 = some 6 := by simp [pw_zR, pw_wR, va_up, kr_ck, kr_oc, kr_ft, kr_ps, kr_rn, r_5_0]
  refine PW.gen (fun I5 R5 sh5 eI5 eR5 eS5 => ?_)
  rw [← eS5] at hp o_1 o_2 o_5 o_6 o_14 o_22 hl
  rw [← eR5] at r_0_2 r_5_0
  refine PW.newo (nc := 90) (ns := 5444) g 30 ck_oc dv_oc (pw_gw 151 (by decide +kernel) (by decide +kernel)) (pw_gw 153 (by decide +kernel) (by decide +kernel)) (pw_gw 102 (by decide +kernel) (by decide +kernel)) hl d_sr_init_50 ?_
  have on_ := pw_apn (x := (0, 6)) hl
  have hp := pw_apl (l := [(0, 6)]) hp
  have o_1 := pw_apl (l := [(0, 6)]) o_1
  have o_2 := pw_apl (l := [(0, 6)]) o_2
  have o_5 := pw_apl (l := [(0, 6)]) o_5
  have o_6 := pw_apl (l := [(0, 6)]) o_6
  have o_14 := pw_apl (l := [(0, 6)]) o_14
  have o_22 := pw_apl (l := [(0, 6)]) o_22
  have o_30 := on_
  have hl := pw_len1 (x := (0, 6)) hl
  refine PW.dup g rfl d_sr_init_53 ?_
  refine PW.callI (mc2 := 7) (ms2 := 515) (nc := 83) (ns := 4929) [] [.ref 30, .int (3 : Int32), .ref 5] g (k_oc_init d o_30 hl) cl_sr_32 (pw_dl (by decide)) (by decide) rfl rfl (Nat.le_of_ble_eq_true rfl) d_sr_init_54 (fun r_ I_ R_ sh_ hh => ?_)
  obtain ⟨rfl, rfl, rfl, rfl⟩ := hh
  have hp := pw_apl (l := ks_oc) hp
  have o_1 := pw_apl (l := ks_oc) o_1
  have o_2 := pw_apl (l := ks_oc) o_2
  have o_5 := pw_apl (l := ks_oc) o_5
  have o_6 := pw_apl (l := ks_oc) o_6
  have o_14 := pw_apl (l := ks_oc) o_14
  have o_22 := pw_apl (l := ks_oc) o_22
  have o_30 := pw_apl (l := ks_oc) o_30
  have hl := pw_lenk (l := ks_oc) (n := 38) hl (by simp [ks_oc])
  refine PW.aast g o_5 o_30 (by unfold vp_in; decide) d_sr_init_57 ?_
  refine PW.iinc g rfl (v := 4) (by decide) (by decide) rfl (L' := [some (.ref 0), some (.int (4 : Int32))]) rfl d_sr_init_58 ?_
  refine PW.goto g 39 (by decide) d_sr_init_61 ?_
  refine PW.iload_n g rfl rfl d_sr_init_39 ?_
  refine PW.bipush g (6) (by decide) d_sr_init_40 ?_
  refine PW.icmp_ge g 64 (by decide) d_sr_init_42 (fun c => absurd c (by decide)) (fun _ => ?_)
  refine PW.aload_n g rfl rfl d_sr_init_45 ?_
  refine PW.getR (q := 5) g fi_sr_24 hp (by simp [pw_zR, pw_wR, va_up, kr_ck, kr_oc, kr_ft, kr_ps, kr_rn, r_0_2, r_5_0]) d_sr_init_46 ?_
  refine PW.iload_n g rfl rfl d_sr_init_49 ?_
  have r_0_2 : (pw_wR (kR_oc 30 (pw_zR R5 30)) 5 (3 : Int32).toNatClampNeg (some 30)) 0 2 = some 5 := by simp [pw_zR, pw_wR, va_up, kr_ck, kr_oc, kr_ft, kr_ps, kr_rn, r_0_2]
  have r_5_0 : (pw_wR (kR_oc 30 (pw_zR R5 30)) 5 (3 : Int32).toNatClampNeg (some 30)) 5 0 = some 6 := by simp [pw_zR, pw_wR, va_up, kr_ck, kr_oc, kr_ft, kr_ps, kr_rn, r_5_0]
  refine PW.gen (fun I6 R6 sh6 eI6 eR6 eS6 => ?_)
  rw [← eS6] at hp o_1 o_2 o_5 o_6 o_14 o_22 o_30 hl
  rw [← eR6] at r_0_2 r_5_0
  refine PW.newo (nc := 82) (ns := 4923) g 38 ck_oc dv_oc (pw_gw 151 (by decide +kernel) (by decide +kernel)) (pw_gw 153 (by decide +kernel) (by decide +kernel)) (pw_gw 102 (by decide +kernel) (by decide +kernel)) hl d_sr_init_50 ?_
  have on_ := pw_apn (x := (0, 6)) hl
  have hp := pw_apl (l := [(0, 6)]) hp
  have o_1 := pw_apl (l := [(0, 6)]) o_1
  have o_2 := pw_apl (l := [(0, 6)]) o_2
  have o_5 := pw_apl (l := [(0, 6)]) o_5
  have o_6 := pw_apl (l := [(0, 6)]) o_6
  have o_14 := pw_apl (l := [(0, 6)]) o_14
  have o_22 := pw_apl (l := [(0, 6)]) o_22
  have o_30 := pw_apl (l := [(0, 6)]) o_30
  have o_38 := on_
  have hl := pw_len1 (x := (0, 6)) hl
  refine PW.dup g rfl d_sr_init_53 ?_
  refine PW.callI (mc2 := 7) (ms2 := 515) (nc := 75) (ns := 4408) [] [.ref 38, .int (4 : Int32), .ref 5] g (k_oc_init d o_38 hl) cl_sr_32 (pw_dl (by decide)) (by decide) rfl rfl (Nat.le_of_ble_eq_true rfl) d_sr_init_54 (fun r_ I_ R_ sh_ hh => ?_)
  obtain ⟨rfl, rfl, rfl, rfl⟩ := hh
  have hp := pw_apl (l := ks_oc) hp
  have o_1 := pw_apl (l := ks_oc) o_1
  have o_2 := pw_apl (l := ks_oc) o_2
  have o_5 := pw_apl (l := ks_oc) o_5
  have o_6 := pw_apl (l := ks_oc) o_6
  have o_14 := pw_apl (l := ks_oc) o_14
  have o_22 := pw_apl (l := ks_oc) o_22
  have o_30 := pw_apl (l := ks_oc) o_30
  have o_38 := pw_apl (l := ks_oc) o_38
  have hl := pw_lenk (l := ks_oc) (n := 46) hl (by simp [ks_oc])
  refine PW.aast g o_5 o_38 (by unfold vp_in; decide) d_sr_init_57 ?_
  refine PW.iinc g rfl (v := 5) (by decide) (by decide) rfl (L' := [some (.ref 0), some (.int (5 : Int32))]) rfl d_sr_init_58 ?_
  refine PW.goto g 39 (by decide) d_sr_init_61 ?_
  refine PW.iload_n g rfl rfl d_sr_init_39 ?_
  refine PW.bipush g (6) (by decide) d_sr_init_40 ?_
  refine PW.icmp_ge g 64 (by decide) d_sr_init_42 (fun c => absurd c (by decide)) (fun _ => ?_)
  refine PW.aload_n g rfl rfl d_sr_init_45 ?_
  refine PW.getR (q := 5) g fi_sr_24 hp (by simp [pw_zR, pw_wR, va_up, kr_ck, kr_oc, kr_ft, kr_ps, kr_rn, r_0_2, r_5_0]) d_sr_init_46 ?_
  refine PW.iload_n g rfl rfl d_sr_init_49 ?_
  have r_0_2 : (pw_wR (kR_oc 38 (pw_zR R6 38)) 5 (4 : Int32).toNatClampNeg (some 38)) 0 2 = some 5 := by simp [pw_zR, pw_wR, va_up, kr_ck, kr_oc, kr_ft, kr_ps, kr_rn, r_0_2]
  have r_5_0 : (pw_wR (kR_oc 38 (pw_zR R6 38)) 5 (4 : Int32).toNatClampNeg (some 38)) 5 0 = some 6 := by simp [pw_zR, pw_wR, va_up, kr_ck, kr_oc, kr_ft, kr_ps, kr_rn, r_5_0]
  refine PW.gen (fun I7 R7 sh7 eI7 eR7 eS7 => ?_)
  rw [← eS7] at hp o_1 o_2 o_5 o_6 o_14 o_22 o_30 o_38 hl
  rw [← eR7] at r_0_2 r_5_0
  refine PW.newo (nc := 74) (ns := 4402) g 46 ck_oc dv_oc (pw_gw 151 (by decide +kernel) (by decide +kernel)) (pw_gw 153 (by decide +kernel) (by decide +kernel)) (pw_gw 102 (by decide +kernel) (by decide +kernel)) hl d_sr_init_50 ?_
  have on_ := pw_apn (x := (0, 6)) hl
  have hp := pw_apl (l := [(0, 6)]) hp
  have o_1 := pw_apl (l := [(0, 6)]) o_1
  have o_2 := pw_apl (l := [(0, 6)]) o_2
  have o_5 := pw_apl (l := [(0, 6)]) o_5
  have o_6 := pw_apl (l := [(0, 6)]) o_6
  have o_14 := pw_apl (l := [(0, 6)]) o_14
  have o_22 := pw_apl (l := [(0, 6)]) o_22
  have o_30 := pw_apl (l := [(0, 6)]) o_30
  have o_38 := pw_apl (l := [(0, 6)]) o_38
  have o_46 := on_
  have hl := pw_len1 (x := (0, 6)) hl
  refine PW.dup g rfl d_sr_init_53 ?_
  refine PW.callI (mc2 := 7) (ms2 := 515) (nc := 67) (ns := 3887) [] [.ref 46, .int (5 : Int32), .ref 5] g (k_oc_init d o_46 hl) cl_sr_32 (pw_dl (by decide)) (by decide) rfl rfl (Nat.le_of_ble_eq_true rfl) d_sr_init_54 (fun r_ I_ R_ sh_ hh => ?_)
  obtain ⟨rfl, rfl, rfl, rfl⟩ := hh
  have hp := pw_apl (l := ks_oc) hp
  have o_1 := pw_apl (l := ks_oc) o_1
  have o_2 := pw_apl (l := ks_oc) o_2
  have o_5 := pw_apl (l := ks_oc) o_5
  have o_6 := pw_apl (l := ks_oc) o_6
  have o_14 := pw_apl (l := ks_oc) o_14
  have o_22 := pw_apl (l := ks_oc) o_22
  have o_30 := pw_apl (l := ks_oc) o_30
  have o_38 := pw_apl (l := ks_oc) o_38
  have o_46 := pw_apl (l := ks_oc) o_46
  have hl := pw_lenk (l := ks_oc) (n := 54) hl (by simp [ks_oc])
  refine PW.aast g o_5 o_46 (by unfold vp_in; decide) d_sr_init_57 ?_
  refine PW.iinc g rfl (v := 6) (by decide) (by decide) rfl (L' := [some (.ref 0), some (.int (6 : Int32))]) rfl d_sr_init_58 ?_
  refine PW.goto g 39 (by decide) d_sr_init_61 ?_
  refine PW.iload_n g rfl rfl d_sr_init_39 ?_
  refine PW.bipush g (6) (by decide) d_sr_init_40 ?_
  refine PW.icmp_ge g 64 (by decide) d_sr_init_42 (fun _ => ?_) (fun c => absurd c (by decide))
  refine PW.aload_n g rfl rfl d_sr_init_64 ?_
  have r_0_2 : (pw_wR (kR_oc 46 (pw_zR R7 46)) 5 (5 : Int32).toNatClampNeg (some 46)) 0 2 = some 5 := by simp [pw_zR, pw_wR, va_up, kr_ck, kr_oc, kr_ft, kr_ps, kr_rn, r_0_2]
  have r_5_0 : (pw_wR (kR_oc 46 (pw_zR R7 46)) 5 (5 : Int32).toNatClampNeg (some 46)) 5 0 = some 6 := by simp [pw_zR, pw_wR, va_up, kr_ck, kr_oc, kr_ft, kr_ps, kr_rn, r_5_0]
  refine PW.gen (fun I8 R8 sh8 eI8 eR8 eS8 => ?_)
  rw [← eS8] at hp o_1 o_2 o_5 o_6 o_14 o_22 o_30 o_38 o_46 hl
  rw [← eR8] at r_0_2 r_5_0
  refine PW.newo (nc := 66) (ns := 3876) g 54 ck_ft dv_ft (pw_gw 217 (by decide +kernel) (by decide +kernel)) (pw_gw 218 (by decide +kernel) (by decide +kernel)) (pw_gw 104 (by decide +kernel) (by decide +kernel)) hl d_sr_init_65 ?_
  have on_ := pw_apn (x := (0, 5)) hl
  have hp := pw_apl (l := [(0, 5)]) hp
  have o_1 := pw_apl (l := [(0, 5)]) o_1
  have o_2 := pw_apl (l := [(0, 5)]) o_2
  have o_5 := pw_apl (l := [(0, 5)]) o_5
  have o_6 := pw_apl (l := [(0, 5)]) o_6
  have o_14 := pw_apl (l := [(0, 5)]) o_14
  have o_22 := pw_apl (l := [(0, 5)]) o_22
  have o_30 := pw_apl (l := [(0, 5)]) o_30
  have o_38 := pw_apl (l := [(0, 5)]) o_38
  have o_46 := pw_apl (l := [(0, 5)]) o_46
  have o_54 := on_
  have hl := pw_len1 (x := (0, 5)) hl
  refine PW.dup g rfl d_sr_init_68 ?_
  refine PW.callI (mc2 := 26) (ms2 := 1428) (nc := 40) (ns := 2448) [] [.ref 54, .ref 0] g (k_ft_init d o_54 hl) cl_sr_35 (pw_dl (by decide)) (by decide) rfl rfl (Nat.le_of_ble_eq_true rfl) d_sr_init_69 (fun r_ I_ R_ sh_ hh => ?_)
  obtain ⟨rfl, rfl, rfl, rfl⟩ := hh
  have hp := pw_apl (l := ks_ft) hp
  have o_1 := pw_apl (l := ks_ft) o_1
  have o_2 := pw_apl (l := ks_ft) o_2
  have o_5 := pw_apl (l := ks_ft) o_5
  have o_6 := pw_apl (l := ks_ft) o_6
  have o_14 := pw_apl (l := ks_ft) o_14
  have o_22 := pw_apl (l := ks_ft) o_22
  have o_30 := pw_apl (l := ks_ft) o_30
  have o_38 := pw_apl (l := ks_ft) o_38
  have o_46 := pw_apl (l := ks_ft) o_46
  have o_54 := pw_apl (l := ks_ft) o_54
  have hl := pw_lenk (l := ks_ft) (n := 81) hl (by simp [ks_ft])
  refine PW.putR g fi_sr_36 hp rfl rfl d_sr_init_72 ?_
  refine PW.aload_n g rfl rfl d_sr_init_75 ?_
  have r_0_2 : (pw_wR (kR_ft 54 (pw_zR R8 54)) 0 6 (some 54)) 0 2 = some 5 := by simp [pw_zR, pw_wR, va_up, kr_ck, kr_oc, kr_ft, kr_ps, kr_rn, r_0_2]
  have r_5_0 : (pw_wR (kR_ft 54 (pw_zR R8 54)) 0 6 (some 54)) 5 0 = some 6 := by simp [pw_zR, pw_wR, va_up, kr_ck, kr_oc, kr_ft, kr_ps, kr_rn, r_5_0]
  have r_0_6 : (pw_wR (kR_ft 54 (pw_zR R8 54)) 0 6 (some 54)) 0 6 = some 54 := by simp [pw_zR, pw_wR, va_up, kr_ck, kr_oc, kr_ft, kr_ps, kr_rn]
  refine PW.gen (fun I9 R9 sh9 eI9 eR9 eS9 => ?_)
  rw [← eS9] at hp o_1 o_2 o_5 o_6 o_14 o_22 o_30 o_38 o_46 o_54 hl
  rw [← eR9] at r_0_2 r_5_0 r_0_6
  refine PW.newo (nc := 39) (ns := 2437) g 81 ck_ft dv_ft (pw_gw 217 (by decide +kernel) (by decide +kernel)) (pw_gw 218 (by decide +kernel) (by decide +kernel)) (pw_gw 104 (by decide +kernel) (by decide +kernel)) hl d_sr_init_76 ?_
  have on_ := pw_apn (x := (0, 5)) hl
  have hp := pw_apl (l := [(0, 5)]) hp
  have o_1 := pw_apl (l := [(0, 5)]) o_1
  have o_2 := pw_apl (l := [(0, 5)]) o_2
  have o_5 := pw_apl (l := [(0, 5)]) o_5
  have o_6 := pw_apl (l := [(0, 5)]) o_6
  have o_14 := pw_apl (l := [(0, 5)]) o_14
  have o_22 := pw_apl (l := [(0, 5)]) o_22
  have o_30 := pw_apl (l := [(0, 5)]) o_30
  have o_38 := pw_apl (l := [(0, 5)]) o_38
  have o_46 := pw_apl (l := [(0, 5)]) o_46
  have o_54 := pw_apl (l := [(0, 5)]) o_54
  have o_81 := on_
  have hl := pw_len1 (x := (0, 5)) hl
  refine PW.dup g rfl d_sr_init_79 ?_
  refine PW.callI (mc2 := 26) (ms2 := 1428) (nc := 13) (ns := 1009) [] [.ref 81, .ref 0] g (k_ft_init d o_81 hl) cl_sr_35 (pw_dl (by decide)) (by decide) rfl rfl (Nat.le_of_ble_eq_true rfl) d_sr_init_80 (fun r_ I_ R_ sh_ hh => ?_)
  obtain ⟨rfl, rfl, rfl, rfl⟩ := hh
  have hp := pw_apl (l := ks_ft) hp
  have o_1 := pw_apl (l := ks_ft) o_1
  have o_2 := pw_apl (l := ks_ft) o_2
  have o_5 := pw_apl (l := ks_ft) o_5
  have o_6 := pw_apl (l := ks_ft) o_6
  have o_14 := pw_apl (l := ks_ft) o_14
  have o_22 := pw_apl (l := ks_ft) o_22
  have o_30 := pw_apl (l := ks_ft) o_30
  have o_38 := pw_apl (l := ks_ft) o_38
  have o_46 := pw_apl (l := ks_ft) o_46
  have o_54 := pw_apl (l := ks_ft) o_54
  have o_81 := pw_apl (l := ks_ft) o_81
  have hl := pw_lenk (l := ks_ft) (n := 108) hl (by simp [ks_ft])
  refine PW.putR g fi_sr_40 hp rfl rfl d_sr_init_83 ?_
  refine PW.aload_n g rfl rfl d_sr_init_86 ?_
  have r_0_2 : (pw_wR (kR_ft 81 (pw_zR R9 81)) 0 7 (some 81)) 0 2 = some 5 := by simp [pw_zR, pw_wR, va_up, kr_ck, kr_oc, kr_ft, kr_ps, kr_rn, r_0_2]
  have r_5_0 : (pw_wR (kR_ft 81 (pw_zR R9 81)) 0 7 (some 81)) 5 0 = some 6 := by simp [pw_zR, pw_wR, va_up, kr_ck, kr_oc, kr_ft, kr_ps, kr_rn, r_5_0]
  have r_0_6 : (pw_wR (kR_ft 81 (pw_zR R9 81)) 0 7 (some 81)) 0 6 = some 54 := by simp [pw_zR, pw_wR, va_up, kr_ck, kr_oc, kr_ft, kr_ps, kr_rn, r_0_6]
  have r_0_7 : (pw_wR (kR_ft 81 (pw_zR R9 81)) 0 7 (some 81)) 0 7 = some 81 := by simp [pw_zR, pw_wR, va_up, kr_ck, kr_oc, kr_ft, kr_ps, kr_rn]
  refine PW.gen (fun I10 R10 sh10 eI10 eR10 eS10 => ?_)
  rw [← eS10] at hp o_1 o_2 o_5 o_6 o_14 o_22 o_30 o_38 o_46 o_54 o_81 hl
  rw [← eR10] at r_0_2 r_5_0 r_0_6 r_0_7
  refine PW.newo (nc := 12) (ns := 1004) g 108 ck_ps dv_ps (pw_gw 399 (by decide +kernel) (by decide +kernel)) (pw_gw 400 (by decide +kernel) (by decide +kernel)) (pw_gw 108 (by decide +kernel) (by decide +kernel)) hl d_sr_init_87 ?_
  have on_ := pw_apn (x := (0, 7)) hl
  have hp := pw_apl (l := [(0, 7)]) hp
  have o_1 := pw_apl (l := [(0, 7)]) o_1
  have o_2 := pw_apl (l := [(0, 7)]) o_2
  have o_5 := pw_apl (l := [(0, 7)]) o_5
  have o_6 := pw_apl (l := [(0, 7)]) o_6
  have o_14 := pw_apl (l := [(0, 7)]) o_14
  have o_22 := pw_apl (l := [(0, 7)]) o_22
  have o_30 := pw_apl (l := [(0, 7)]) o_30
  have o_38 := pw_apl (l := [(0, 7)]) o_38
  have o_46 := pw_apl (l := [(0, 7)]) o_46
  have o_54 := pw_apl (l := [(0, 7)]) o_54
  have o_81 := pw_apl (l := [(0, 7)]) o_81
  have o_108 := on_
  have hl := pw_len1 (x := (0, 7)) hl
  refine PW.dup g rfl d_sr_init_90 ?_
  refine PW.aload_n g rfl rfl d_sr_init_91 ?_
  refine PW.getR (q := 54) g fi_sr_36 hp (by simp [pw_zR, pw_wR, va_up, kr_ck, kr_oc, kr_ft, kr_ps, kr_rn, r_0_2, r_0_6, r_0_7, r_5_0]) d_sr_init_92 ?_
  refine PW.callI (mc2 := 5) (ms2 := 486) (nc := 7) (ns := 518) [.ref 54] [.ref 108, .ref 0] g (k_ps_init d o_108 o_54 hl) cl_sr_45 (pw_dl (by decide)) (by decide) rfl rfl (Nat.le_of_ble_eq_true rfl) d_sr_init_95 (fun r_ I_ R_ sh_ hh => ?_)
  obtain ⟨rfl, rfl, rfl, rfl⟩ := hh
  have hp := pw_apl (l := ks_ps) hp
  have o_1 := pw_apl (l := ks_ps) o_1
  have o_2 := pw_apl (l := ks_ps) o_2
  have o_5 := pw_apl (l := ks_ps) o_5
  have o_6 := pw_apl (l := ks_ps) o_6
  have o_14 := pw_apl (l := ks_ps) o_14
  have o_22 := pw_apl (l := ks_ps) o_22
  have o_30 := pw_apl (l := ks_ps) o_30
  have o_38 := pw_apl (l := ks_ps) o_38
  have o_46 := pw_apl (l := ks_ps) o_46
  have o_54 := pw_apl (l := ks_ps) o_54
  have o_81 := pw_apl (l := ks_ps) o_81
  have o_108 := pw_apl (l := ks_ps) o_108
  have hl := pw_lenk (l := ks_ps) (n := 114) hl (by simp [ks_ps])
  refine PW.putFR g fi_sr_48 rfl (fun C_ T_ N_ ty_ h_ => by cases Option.some.inj (ck_sr.1.symm.trans h_.1); exact (pw_gw 521 (by decide +kernel) (by decide +kernel))) (fun C_ T_ N_ ty_ h_ => by cases Option.some.inj (ck_sr.1.symm.trans h_.1); rfl) hp rfl rfl d_sr_init_98 ?_
  refine PW.aload_n g rfl rfl d_sr_init_101 ?_
  have r_0_2 : (pw_wR (kR_ps 108 54 (pw_zR R10 108)) 0 3 (some 108)) 0 2 = some 5 := by simp [pw_zR, pw_wR, va_up, kr_ck, kr_oc, kr_ft, kr_ps, kr_rn, r_0_2]
  have r_5_0 : (pw_wR (kR_ps 108 54 (pw_zR R10 108)) 0 3 (some 108)) 5 0 = some 6 := by simp [pw_zR, pw_wR, va_up, kr_ck, kr_oc, kr_ft, kr_ps, kr_rn, r_5_0]
  have r_0_6 : (pw_wR (kR_ps 108 54 (pw_zR R10 108)) 0 3 (some 108)) 0 6 = some 54 := by simp [pw_zR, pw_wR, va_up, kr_ck, kr_oc, kr_ft, kr_ps, kr_rn, r_0_6]
  have r_0_7 : (pw_wR (kR_ps 108 54 (pw_zR R10 108)) 0 3 (some 108)) 0 7 = some 81 := by simp [pw_zR, pw_wR, va_up, kr_ck, kr_oc, kr_ft, kr_ps, kr_rn, r_0_7]
  refine PW.gen (fun I11 R11 sh11 eI11 eR11 eS11 => ?_)
  rw [← eS11] at hp o_1 o_2 o_5 o_6 o_14 o_22 o_30 o_38 o_46 o_54 o_81 o_108 hl
  rw [← eR11] at r_0_2 r_5_0 r_0_6 r_0_7
  refine PW.newo (nc := 6) (ns := 515) g 114 ck_rn dv_rn (pw_gw 449 (by decide +kernel) (by decide +kernel)) (pw_gw 450 (by decide +kernel) (by decide +kernel)) (pw_gw 110 (by decide +kernel) (by decide +kernel)) hl d_sr_init_102 ?_
  have on_ := pw_apn (x := (0, 9)) hl
  have hp := pw_apl (l := [(0, 9)]) hp
  have o_1 := pw_apl (l := [(0, 9)]) o_1
  have o_2 := pw_apl (l := [(0, 9)]) o_2
  have o_5 := pw_apl (l := [(0, 9)]) o_5
  have o_6 := pw_apl (l := [(0, 9)]) o_6
  have o_14 := pw_apl (l := [(0, 9)]) o_14
  have o_22 := pw_apl (l := [(0, 9)]) o_22
  have o_30 := pw_apl (l := [(0, 9)]) o_30
  have o_38 := pw_apl (l := [(0, 9)]) o_38
  have o_46 := pw_apl (l := [(0, 9)]) o_46
  have o_54 := pw_apl (l := [(0, 9)]) o_54
  have o_81 := pw_apl (l := [(0, 9)]) o_81
  have o_108 := pw_apl (l := [(0, 9)]) o_108
  have o_114 := on_
  have hl := pw_len1 (x := (0, 9)) hl
  refine PW.dup g rfl d_sr_init_105 ?_
  refine PW.aload_n g rfl rfl d_sr_init_106 ?_
  refine PW.getR (q := 81) g fi_sr_40 hp (by simp [pw_zR, pw_wR, va_up, kr_ck, kr_oc, kr_ft, kr_ps, kr_rn, r_0_2, r_0_6, r_0_7, r_5_0]) d_sr_init_107 ?_
  refine PW.aload_n g rfl rfl d_sr_init_110 ?_
  refine PW.getR (q := 5) g fi_sr_24 hp (by simp [pw_zR, pw_wR, va_up, kr_ck, kr_oc, kr_ft, kr_ps, kr_rn, r_0_2, r_0_6, r_0_7, r_5_0]) d_sr_init_111 ?_
  refine PW.iconst g (0) (by decide) d_sr_init_114 ?_
  refine PW.aald0 (q := 6) g o_5 (by unfold vp_in; decide) (by simp [pw_zR, pw_wR, va_up, kr_ck, kr_oc, kr_ft, kr_ps, kr_rn, r_0_2, r_0_6, r_0_7, r_5_0]) d_sr_init_115 ?_
  refine PW.callI (mc2 := 6) (ms2 := 515) (nc := 0) (ns := 0) [.ref 81, .ref 6] [.ref 114, .ref 0] g (k_rn_init d o_114 o_81 o_6 hl) cl_sr_54 (pw_dl (by decide)) (by decide) rfl rfl (Nat.le_of_ble_eq_true rfl) d_sr_init_116 (fun r_ I_ R_ sh_ hh => ?_)
  obtain ⟨rfl, rfl, rfl, rfl⟩ := hh
  have hp := pw_apl (l := ks_rn) hp
  have o_1 := pw_apl (l := ks_rn) o_1
  have o_2 := pw_apl (l := ks_rn) o_2
  have o_5 := pw_apl (l := ks_rn) o_5
  have o_6 := pw_apl (l := ks_rn) o_6
  have o_14 := pw_apl (l := ks_rn) o_14
  have o_22 := pw_apl (l := ks_rn) o_22
  have o_30 := pw_apl (l := ks_rn) o_30
  have o_38 := pw_apl (l := ks_rn) o_38
  have o_46 := pw_apl (l := ks_rn) o_46
  have o_54 := pw_apl (l := ks_rn) o_54
  have o_81 := pw_apl (l := ks_rn) o_81
  have o_108 := pw_apl (l := ks_rn) o_108
  have o_114 := pw_apl (l := ks_rn) o_114
  have hl := pw_lenk (l := ks_rn) (n := 121) hl (by simp [ks_rn])
  refine PW.putFR g fi_sr_57 rfl (fun C_ T_ N_ ty_ h_ => by cases Option.some.inj (ck_sr.1.symm.trans h_.1); exact (pw_gw 522 (by decide +kernel) (by decide +kernel))) (fun C_ T_ N_ ty_ h_ => by cases Option.some.inj (ck_sr.1.symm.trans h_.1); rfl) hp rfl rfl d_sr_init_119 ?_
  subst eI11 eR11 eS11
  subst eI10 eR10 eS10
  subst eI9 eR9 eS9
  subst eI8 eR8 eS8
  subst eI7 eR7 eS7
  subst eI6 eR6 eS6
  subst eI5 eR5 eS5
  subst eI4 eR4 eS4
  subst eI3 eR3 eS3
  subst eI2 eR2 eS2
  subst eI1 eR1 eS1
  exact PW.vret g hF rfl d_sr_init_122 ⟨rfl, rfl, rfl, by simp [ks_sr, ks_ck, ks_cd, ks_dr, ks_st, ks_rl, ks_tk, ks_oc, ks_ft, ks_ev, ks_ps, ks_rn, ks_md]⟩
