def m_j_ix1 : pM := (⟨"java/lang/String", "indexOf", "(I)I"⟩, prog_17_method_79_code, 2, (some .int))
def m_j_ix2 : pM := (⟨"java/lang/String", "indexOf", "(II)I"⟩, prog_17_method_80_code, 3, (some .int))
def m_j_lat : pM := (⟨"java/lang/String", "isLatin1", "()Z"⟩, prog_17_method_154_code, 1, (some .boolean))
def m_j_len : pM := (⟨"java/lang/String", "length", "()I"⟩, prog_17_method_54_code, 1, (some .int))
def m_j_cod : pM := (⟨"java/lang/String", "coder", "()B"⟩, prog_17_method_152_code, 1, (some .byte))
def m_j_lix : pM := (⟨"java/lang/StringLatin1", "indexOf", "([BIII)I"⟩, prog_18_method_22_code, 4, (some .int))
def m_j_enc : pM := (⟨"java/lang/StringLatin1", "canEncode", "(I)Z"⟩, prog_18_method_4_code, 1, (some .boolean))
def m_j_ixc : pM := (⟨"java/lang/StringLatin1", "indexOfChar", "([BIII)I"⟩, prog_18_method_23_code, 6, (some .int))
theorem d_j_ix1_0 : decode prog_17_method_79_code 0 = .ok (.aload_n 0, 1) := by decide +kernel
theorem d_j_ix1_1 : decode prog_17_method_79_code 1 = .ok (.iload_n 1, 1) := by decide +kernel
theorem d_j_ix1_2 : decode prog_17_method_79_code 2 = .ok (.iconst 0, 1) := by decide +kernel
theorem d_j_ix1_3 : decode prog_17_method_79_code 3 = .ok (.invokevirtual 633, 3) := by decide +kernel
theorem d_j_ix1_6 : decode prog_17_method_79_code 6 = .ok (.ireturn, 1) := by decide +kernel
theorem d_j_ix2_0 : decode prog_17_method_80_code 0 = .ok (.aload_n 0, 1) := by decide +kernel
theorem d_j_ix2_1 : decode prog_17_method_80_code 1 = .ok (.invokevirtual 492, 3) := by decide +kernel
theorem d_j_ix2_4 : decode prog_17_method_80_code 4 = .ok (.ifCond .eq (19), 3) := by decide +kernel
theorem d_j_ix2_7 : decode prog_17_method_80_code 7 = .ok (.aload_n 0, 1) := by decide +kernel
theorem d_j_ix2_8 : decode prog_17_method_80_code 8 = .ok (.getfield 9, 3) := by decide +kernel
theorem d_j_ix2_11 : decode prog_17_method_80_code 11 = .ok (.iload_n 1, 1) := by decide +kernel
theorem d_j_ix2_12 : decode prog_17_method_80_code 12 = .ok (.iload_n 2, 1) := by decide +kernel
theorem d_j_ix2_13 : decode prog_17_method_80_code 13 = .ok (.aload_n 0, 1) := by decide +kernel
theorem d_j_ix2_14 : decode prog_17_method_80_code 14 = .ok (.invokevirtual 505, 3) := by decide +kernel
theorem d_j_ix2_17 : decode prog_17_method_80_code 17 = .ok (.invokestatic 637, 3) := by decide +kernel
theorem d_j_ix2_20 : decode prog_17_method_80_code 20 = .ok (.goto (16), 3) := by decide +kernel
theorem d_j_ix2_36 : decode prog_17_method_80_code 36 = .ok (.ireturn, 1) := by decide +kernel
theorem d_j_lat_0 : decode prog_17_method_154_code 0 = .ok (.getstatic 38, 3) := by decide +kernel
theorem d_j_lat_3 : decode prog_17_method_154_code 3 = .ok (.ifCond .eq (14), 3) := by decide +kernel
theorem d_j_lat_6 : decode prog_17_method_154_code 6 = .ok (.aload_n 0, 1) := by decide +kernel
theorem d_j_lat_7 : decode prog_17_method_154_code 7 = .ok (.getfield 15, 3) := by decide +kernel
theorem d_j_lat_10 : decode prog_17_method_154_code 10 = .ok (.ifCond .ne (7), 3) := by decide +kernel
theorem d_j_lat_13 : decode prog_17_method_154_code 13 = .ok (.iconst 1, 1) := by decide +kernel
theorem d_j_lat_14 : decode prog_17_method_154_code 14 = .ok (.goto (4), 3) := by decide +kernel
theorem d_j_lat_18 : decode prog_17_method_154_code 18 = .ok (.ireturn, 1) := by decide +kernel
theorem d_j_len_0 : decode prog_17_method_54_code 0 = .ok (.aload_n 0, 1) := by decide +kernel
theorem d_j_len_1 : decode prog_17_method_54_code 1 = .ok (.getfield 9, 3) := by decide +kernel
theorem d_j_len_4 : decode prog_17_method_54_code 4 = .ok (.arraylength, 1) := by decide +kernel
theorem d_j_len_5 : decode prog_17_method_54_code 5 = .ok (.aload_n 0, 1) := by decide +kernel
theorem d_j_len_6 : decode prog_17_method_54_code 6 = .ok (.invokevirtual 335, 3) := by decide +kernel
theorem d_j_len_9 : decode prog_17_method_54_code 9 = .ok (.ishr, 1) := by decide +kernel
theorem d_j_len_10 : decode prog_17_method_54_code 10 = .ok (.ireturn, 1) := by decide +kernel
theorem d_j_cod_0 : decode prog_17_method_152_code 0 = .ok (.getstatic 38, 3) := by decide +kernel
theorem d_j_cod_3 : decode prog_17_method_152_code 3 = .ok (.ifCond .eq (10), 3) := by decide +kernel
theorem d_j_cod_6 : decode prog_17_method_152_code 6 = .ok (.aload_n 0, 1) := by decide +kernel
theorem d_j_cod_7 : decode prog_17_method_152_code 7 = .ok (.getfield 15, 3) := by decide +kernel
theorem d_j_cod_10 : decode prog_17_method_152_code 10 = .ok (.goto (4), 3) := by decide +kernel
theorem d_j_cod_14 : decode prog_17_method_152_code 14 = .ok (.ireturn, 1) := by decide +kernel
theorem d_j_lix_0 : decode prog_18_method_22_code 0 = .ok (.iload_n 1, 1) := by decide +kernel
theorem d_j_lix_1 : decode prog_18_method_22_code 1 = .ok (.invokestatic 88, 3) := by decide +kernel
theorem d_j_lix_4 : decode prog_18_method_22_code 4 = .ok (.ifCond .ne (5), 3) := by decide +kernel
theorem d_j_lix_9 : decode prog_18_method_22_code 9 = .ok (.iload_n 2, 1) := by decide +kernel
theorem d_j_lix_10 : decode prog_18_method_22_code 10 = .ok (.iconst 0, 1) := by decide +kernel
theorem d_j_lix_11 : decode prog_18_method_22_code 11 = .ok (.invokestatic 92, 3) := by decide +kernel
theorem d_j_lix_14 : decode prog_18_method_22_code 14 = .ok (.istore_n 2, 1) := by decide +kernel
theorem d_j_lix_15 : decode prog_18_method_22_code 15 = .ok (.iload_n 3, 1) := by decide +kernel
theorem d_j_lix_16 : decode prog_18_method_22_code 16 = .ok (.aload_n 0, 1) := by decide +kernel
theorem d_j_lix_17 : decode prog_18_method_22_code 17 = .ok (.arraylength, 1) := by decide +kernel
theorem d_j_lix_18 : decode prog_18_method_22_code 18 = .ok (.invokestatic 38, 3) := by decide +kernel
theorem d_j_lix_21 : decode prog_18_method_22_code 21 = .ok (.istore_n 3, 1) := by decide +kernel
theorem d_j_lix_22 : decode prog_18_method_22_code 22 = .ok (.iload_n 2, 1) := by decide +kernel
theorem d_j_lix_23 : decode prog_18_method_22_code 23 = .ok (.iload_n 3, 1) := by decide +kernel
theorem d_j_lix_24 : decode prog_18_method_22_code 24 = .ok (.if_icmp .lt (5), 3) := by decide +kernel
theorem d_j_lix_29 : decode prog_18_method_22_code 29 = .ok (.aload_n 0, 1) := by decide +kernel
theorem d_j_lix_30 : decode prog_18_method_22_code 30 = .ok (.iload_n 1, 1) := by decide +kernel
theorem d_j_lix_31 : decode prog_18_method_22_code 31 = .ok (.iload_n 2, 1) := by decide +kernel
theorem d_j_lix_32 : decode prog_18_method_22_code 32 = .ok (.iload_n 3, 1) := by decide +kernel
theorem d_j_lix_33 : decode prog_18_method_22_code 33 = .ok (.invokestatic 95, 3) := by decide +kernel
theorem d_j_lix_36 : decode prog_18_method_22_code 36 = .ok (.ireturn, 1) := by decide +kernel
theorem d_j_enc_0 : decode prog_18_method_4_code 0 = .ok (.iload_n 0, 1) := by decide +kernel
theorem d_j_enc_1 : decode prog_18_method_4_code 1 = .ok (.ifCond .lt (14), 3) := by decide +kernel
theorem d_j_enc_4 : decode prog_18_method_4_code 4 = .ok (.iload_n 0, 1) := by decide +kernel
theorem d_j_enc_5 : decode prog_18_method_4_code 5 = .ok (.sipush 255, 3) := by decide +kernel
theorem d_j_enc_8 : decode prog_18_method_4_code 8 = .ok (.if_icmp .gt (7), 3) := by decide +kernel
theorem d_j_enc_11 : decode prog_18_method_4_code 11 = .ok (.iconst 1, 1) := by decide +kernel
theorem d_j_enc_12 : decode prog_18_method_4_code 12 = .ok (.goto (4), 3) := by decide +kernel
theorem d_j_enc_16 : decode prog_18_method_4_code 16 = .ok (.ireturn, 1) := by decide +kernel
theorem d_j_ixc_0 : decode prog_18_method_23_code 0 = .ok (.iload_n 1, 1) := by decide +kernel
theorem d_j_ixc_1 : decode prog_18_method_23_code 1 = .ok (.i2b, 1) := by decide +kernel
theorem d_j_ixc_2 : decode prog_18_method_23_code 2 = .ok (.istore 4, 2) := by decide +kernel
theorem d_j_ixc_4 : decode prog_18_method_23_code 4 = .ok (.iload_n 2, 1) := by decide +kernel
theorem d_j_ixc_5 : decode prog_18_method_23_code 5 = .ok (.istore 5, 2) := by decide +kernel
theorem d_j_ixc_7 : decode prog_18_method_23_code 7 = .ok (.iload 5, 2) := by decide +kernel
theorem d_j_ixc_9 : decode prog_18_method_23_code 9 = .ok (.iload_n 3, 1) := by decide +kernel
theorem d_j_ixc_10 : decode prog_18_method_23_code 10 = .ok (.if_icmp .ge (21), 3) := by decide +kernel
theorem d_j_ixc_13 : decode prog_18_method_23_code 13 = .ok (.aload_n 0, 1) := by decide +kernel
theorem d_j_ixc_14 : decode prog_18_method_23_code 14 = .ok (.iload 5, 2) := by decide +kernel
theorem d_j_ixc_16 : decode prog_18_method_23_code 16 = .ok (.baload, 1) := by decide +kernel
theorem d_j_ixc_17 : decode prog_18_method_23_code 17 = .ok (.iload 4, 2) := by decide +kernel
theorem d_j_ixc_19 : decode prog_18_method_23_code 19 = .ok (.if_icmp .ne (6), 3) := by decide +kernel
theorem d_j_ixc_22 : decode prog_18_method_23_code 22 = .ok (.iload 5, 2) := by decide +kernel
theorem d_j_ixc_24 : decode prog_18_method_23_code 24 = .ok (.ireturn, 1) := by decide +kernel
theorem d_j_ixc_25 : decode prog_18_method_23_code 25 = .ok (.iinc 5 (1), 3) := by decide +kernel
theorem d_j_ixc_28 : decode prog_18_method_23_code 28 = .ok (.goto (-21), 3) := by decide +kernel
theorem d_j_ixc_31 : decode prog_18_method_23_code 31 = .ok (.iconst (-1), 1) := by decide +kernel
theorem d_j_ixc_32 : decode prog_18_method_23_code 32 = .ok (.ireturn, 1) := by decide +kernel
theorem cl_j_161 : pw_cl n_sr 161 1 m_j_ix1 1 := ⟨Or.inl (pw_gw 570 (by decide +kernel) (by decide +kernel)), (pw_gw 113 (by decide +kernel) (by decide +kernel)), (pw_gw 573 (by decide +kernel) (by decide +kernel)), ⟨by decide +kernel, by decide +kernel, by decide +kernel⟩, ⟨(pw_gw 571 (by decide +kernel) (by decide +kernel)), (pw_gw 572 (by decide +kernel) (by decide +kernel))⟩⟩
theorem cl_j_633 : pw_cl "java/lang/String" 633 1 m_j_ix2 2 := ⟨Or.inl (pw_gw 574 (by decide +kernel) (by decide +kernel)), (pw_gw 113 (by decide +kernel) (by decide +kernel)), (pw_gw 577 (by decide +kernel) (by decide +kernel)), ⟨by decide +kernel, by decide +kernel, by decide +kernel⟩, ⟨(pw_gw 575 (by decide +kernel) (by decide +kernel)), (pw_gw 576 (by decide +kernel) (by decide +kernel))⟩⟩
theorem cl_j_492 : pw_cl "java/lang/String" 492 1 m_j_lat 0 := ⟨Or.inl (pw_gw 578 (by decide +kernel) (by decide +kernel)), (pw_gw 113 (by decide +kernel) (by decide +kernel)), (pw_gw 581 (by decide +kernel) (by decide +kernel)), ⟨by decide +kernel, by decide +kernel, by decide +kernel⟩, ⟨(pw_gw 579 (by decide +kernel) (by decide +kernel)), (pw_gw 580 (by decide +kernel) (by decide +kernel))⟩⟩
theorem cl_j_505 : pw_cl "java/lang/String" 505 1 m_j_len 0 := ⟨Or.inl (pw_gw 584 (by decide +kernel) (by decide +kernel)), (pw_gw 113 (by decide +kernel) (by decide +kernel)), (pw_gw 587 (by decide +kernel) (by decide +kernel)), ⟨by decide +kernel, by decide +kernel, by decide +kernel⟩, ⟨(pw_gw 585 (by decide +kernel) (by decide +kernel)), (pw_gw 586 (by decide +kernel) (by decide +kernel))⟩⟩
theorem cl_j_335 : pw_cl "java/lang/String" 335 1 m_j_cod 0 := ⟨Or.inl (pw_gw 588 (by decide +kernel) (by decide +kernel)), (pw_gw 113 (by decide +kernel) (by decide +kernel)), (pw_gw 591 (by decide +kernel) (by decide +kernel)), ⟨by decide +kernel, by decide +kernel, by decide +kernel⟩, ⟨(pw_gw 589 (by decide +kernel) (by decide +kernel)), (pw_gw 590 (by decide +kernel) (by decide +kernel))⟩⟩
theorem cl_j_637 : pw_cl "java/lang/String" 637 0 m_j_lix 4 := ⟨Or.inl (pw_gw 592 (by decide +kernel) (by decide +kernel)), (pw_gw 114 (by decide +kernel) (by decide +kernel)), (pw_gw 594 (by decide +kernel) (by decide +kernel)), ⟨by decide +kernel, by decide +kernel, by decide +kernel⟩, (pw_gw 593 (by decide +kernel) (by decide +kernel))⟩
theorem cl_j_88 : pw_cl "java/lang/StringLatin1" 88 0 m_j_enc 1 := ⟨Or.inl (pw_gw 595 (by decide +kernel) (by decide +kernel)), (pw_gw 114 (by decide +kernel) (by decide +kernel)), (pw_gw 597 (by decide +kernel) (by decide +kernel)), ⟨by decide +kernel, by decide +kernel, by decide +kernel⟩, (pw_gw 596 (by decide +kernel) (by decide +kernel))⟩
theorem cl_j_95 : pw_cl "java/lang/StringLatin1" 95 0 m_j_ixc 4 := ⟨Or.inl (pw_gw 604 (by decide +kernel) (by decide +kernel)), (pw_gw 114 (by decide +kernel) (by decide +kernel)), (pw_gw 606 (by decide +kernel) (by decide +kernel)), ⟨by decide +kernel, by decide +kernel, by decide +kernel⟩, (pw_gw 605 (by decide +kernel) (by decide +kernel))⟩
section PXJ
variable {mc ms ns : Nat} {y y2 : pM} {d0 d2 : Nat} {E : pE} {B : pB} {nL pc : Nat} {L : List (Option Value)} {S : List Value} {I : pI} {R : pR}
theorem PX.ldcS (g : pw_G y d0 mc ms E B) (hc : y.1.cls = "SpecRunner") (dg : decode y.2.1 pc = .ok (.ldc 159, 2)) (k : PY mc ms ns E B nL (pc + 2) L (.retAddr 0 :: S) I R) : PY mc ms ns E B nL pc L S I R :=
  fun H locs ls cells slots h1 h2 h3 h4 h5 h6 => va_ldcS g.exec g.bytes (hc ▸ g.own) g.jd.1 dg (k H locs ls cells slots h1 h2 h3 h4 h5 h6)
theorem PX.gets (g : pw_G y d0 mc ms E B) (hc : y.1.cls = "java/lang/String") (dg : decode y.2.1 pc = .ok (.getstatic 38, 3)) (k : PY mc ms ns E B nL (pc + 3) L (.int 1 :: S) I R) : PY mc ms ns E B nL pc L S I R :=
  fun H locs ls cells slots h1 h2 h3 h4 h5 h6 => va_gets (ref := "java/lang/String") g.exec g.bytes g.jd.2.2.1 h5 (hc ▸ g.own) (g.words _ (pw_gw 582 (by decide +kernel) (by decide +kernel))) (fun _ h => h) dg (k H locs ls cells slots h1 h2 h3 h4 h5 h6)
theorem PX.getC (g : pw_G y d0 mc ms E B) (hc : y.1.cls = "java/lang/String") (dg : decode y.2.1 pc = .ok (.getfield 15, 3)) (k : PY mc ms ns E B nL (pc + 3) L (.int 0 :: S) I R) : PY mc ms ns E B nL pc L (.retAddr 0 :: S) I R :=
  fun H locs ls cells slots h1 h2 h3 h4 h5 h6 => vk_getf (ref := "java/lang/String") g.exec g.bytes (g.jd.2.1.1 0 (by decide)).2.1 h5 (hc ▸ g.own) (g.words _ (pw_gw 1678 (by decide +kernel) (by decide +kernel))) (fun _ h => h) dg (k H locs ls cells slots h1 h2 h3 h4 h5 h6)
theorem PX.getV (g : pw_G y d0 mc ms E B) (hc : y.1.cls = "java/lang/String") (dg : decode y.2.1 pc = .ok (.getfield 9, 3)) (k : PY mc ms ns E B nL (pc + 3) L (.retAddr 1 :: S) I R) : PY mc ms ns E B nL pc L (.retAddr 0 :: S) I R :=
  fun H locs ls cells slots h1 h2 h3 h4 h5 h6 => vk_getf (ref := "java/lang/String") g.exec g.bytes (g.jd.2.1.1 0 (by decide)).2.2.1 h5 (hc ▸ g.own) (g.words _ (pw_gw 1679 (by decide +kernel) (by decide +kernel))) (fun _ h => h) dg (k H locs ls cells slots h1 h2 h3 h4 h5 h6)
theorem PX.tlen (g : pw_G y d0 mc ms E B) (dg : decode y.2.1 pc = .ok (.arraylength, 1)) (k : PY mc ms ns E B nL (pc + 1) L (.int 28 :: S) I R) : PY mc ms ns E B nL pc L (.retAddr 1 :: S) I R :=
  fun H locs ls cells slots h1 h2 h3 h4 h5 h6 => va_tlen g.exec g.bytes (g.jd.2.1.1 0 (by decide)).2.2.2 h5 (by decide) dg (k H locs ls cells slots h1 h2 h3 h4 h5 h6)
theorem PX.tb (g : pw_G y d0 mc ms E B) {i : Int32} (hi : vp_in i 28) (dg : decode y.2.1 pc = .ok (.baload, 1)) (k : PY mc ms ns E B nL (pc + 1) L (.int (pw_by.getD i.toNatClampNeg 0) :: S) I R) : PY mc ms ns E B nL pc L (.int i :: .retAddr 1 :: S) I R :=
  fun H locs ls cells slots h1 h2 h3 h4 h5 h6 => va_tb g.exec g.bytes (g.jd.2.1.1 0 (by decide)).2.2.2 h5 hi rfl dg (k H locs ls cells slots h1 h2 h3 h4 h5 h6)
theorem PX.i2b (g : pw_G y d0 mc ms E B) {x : Int32} (dg : decode y.2.1 pc = .ok (.i2b, 1)) (k : PY mc ms ns E B nL (pc + 1) L (.int x.toInt8.toInt32 :: S) I R) : PY mc ms ns E B nL pc L (.int x :: S) I R :=
  fun H locs ls cells slots h1 h2 h3 h4 h5 h6 => lv_i2b g.exec g.bytes dg rfl (k H locs ls cells slots h1 h2 h3 h4 h5 h6)
theorem PX.rw {v w : Int32} (h : v = w) (k : PY mc ms ns E B nL pc L (.int w :: S) I R) : PY mc ms ns E B nL pc L (.int v :: S) I R := h ▸ k
theorem PX.cX {q : Int32 → pI → pR → Prop} {idx : Nat} (as S : List Value) {S0 : List Value} (g : pw_G y d0 mc ms E B) (hc : y2.1.cls = "java/lang/String") (hM : Cm d2 y2 (.retAddr 0 :: as) I R (qi q)) (hw : pw_cl y.1.cls idx 1 y2 as.length) (hd : d2 + 1 ≤ d0) (hm : y2.2.2.1 ≤ 60) (hnl : y.2.2.1 = nL) (hst : S0 = as.reverse ++ .retAddr 0 :: S) (hcat : (S.map fun v => v.category).sum ≤ 8) (dg : decode y.2.1 pc = .ok (.invokevirtual idx, 3))
    (kk : ∀ v I1 R1, pw_Lay R1 → q v I1 R1 → PY mc ms ns E B nL (pc + 3) L (.int v :: S) I1 R1) : PY mc ms ns E B nL pc L S0 I R := by
  obtain ⟨hlk, hini, hcd, hdn, hkd⟩ := hw
  subst hst
  intro H locs ls cells slots h1 h2 h3 h4 h5 h6
  refine pw_sz (fun hz => ?_)
  have hfr := g.frames
  have hlo := g.locals
  have hce := g.cells
  have hsl := g.slots
  have hRm : (pw_rm d2 0 0).frames + 1 ≤ E.2.2.2.1.frames ∧ 8 + (y2.2.2.1 + 11) + (pw_rm d2 0 0).locals ≤ E.2.2.2.1.locals := by
    show d2 + 1 ≤ _ ∧ 8 + (y2.2.2.1 + 11) + 80 * d2 ≤ _
    omega
  have hcat2 : ((S.map (pw_tr B)).map fun v => v.category).sum ≤ 8 := by
    rw [List.map_map]
    have : ((fun v : Value => v.category) ∘ pw_tr B) = fun v => v.category := by funext v; exact pw_tr_cat _ v
    rw [this]; exact hcat
  have kk2 : ∀ r I' R' sh', pw_QQ (qi q) r I' R' sh' → PW E B nL mc ms 0 ns (pc + 3) L (r.toList ++ S) I' R' sh' := by
    intro r I1 R1 sh1 h
    obtain ⟨hs, hL, v, hv, hq⟩ := h
    subst hs; subst hv; exact kk v I1 R1 hL hq
  rcases hlk with hl | ⟨host, hl⟩
  · exact pw_back (mc2 := 0) (ms2 := 0) (as := (.retAddr 0 :: as)) (va_runV (C := y2.1.cls) (b := B.2.2 100) (As := (as.map (pw_tr B))) (rest := S.map (pw_tr B)) (bytes := y2.2.1) (maxL := y2.2.2.1) (ret := y2.2.2.2) ⟨g.exec, g.bytes, g.maxl, g.own, g.words⟩ (hM E.2.1 B) ⟨callB_of as.length g.words (pw_good hcd) rfl rfl rfl (g.words _ hini) (g.words _ hl) hdn hRm, g.words _ hkd.1, g.words _ hkd.2⟩ ⟨pw_blind, by rw [hc]; exact vk_recv g.jd.2.1 (i := 0) (by decide) h5, pw_pre g h3 h4 h5 hz⟩ rfl (by simp) (h6.1.trans hnl.symm) (by simp [List.map_reverse, pw_tr]) (lv_room hcat2) dg ⟨by omega, by omega⟩) kk2 (by omega) (by omega) h4 h5 h6
  · exact pw_back (mc2 := 0) (ms2 := 0) (as := (.retAddr 0 :: as)) (va_runVN (C := y2.1.cls) (b := B.2.2 100) (As := (as.map (pw_tr B))) (rest := S.map (pw_tr B)) (bytes := y2.2.1) (maxL := y2.2.2.1) (ret := y2.2.2.2) ⟨g.exec, g.bytes, g.maxl, g.own, g.words⟩ (hM E.2.1 B) ⟨va_cnB as.length g.words (pw_good hcd) rfl rfl rfl (g.nest _ hl) (g.words _ hini) hdn hRm, g.words _ hkd.1, g.words _ hkd.2⟩ ⟨pw_blind, by rw [hc]; exact vk_recv g.jd.2.1 (i := 0) (by decide) h5, pw_pre g h3 h4 h5 hz⟩ rfl (by simp) (h6.1.trans hnl.symm) (by simp [List.map_reverse, pw_tr]) (lv_room hcat2) dg ⟨by omega, by omega⟩) kk2 (by omega) (by omega) h4 h5 h6
end PXJ
/-- where a char's byte stands in the text, from place i on (with n places to go) -/
def pw_ix (b : Int32) : Nat → Nat → Int32
  | 0, _ => -1
  | n + 1, i => if pw_by.getD i 0 = b then nI i else pw_ix b n (i + 1)
set_option maxHeartbeats 4000000 in
set_option maxRecDepth 100000 in
theorem j_cod (d : Nat) {I : pI} {R : pR} (hL : pw_Lay R) : Cm (d + 1) m_j_cod [.retAddr 0] I R (qi (fun v I1 R1 => v = 0 ∧ I1 = I ∧ R1 = R)) := by
  refine Cm.of [some (.retAddr 0)] (by decide) rfl (Nat.le_of_ble_eq_true rfl) (by simp) (fun E B g hF => ?_)
  refine PX.gets g rfl d_j_cod_0 ?_
  refine PW.if_eq g 13 (by decide) d_j_cod_3 (fun c => absurd c (by decide)) (fun _ => ?_)
  refine PW.aloadX_n g rfl rfl d_j_cod_6 ?_
  refine PX.getC g rfl d_j_cod_7 ?_
  refine PW.goto g 14 (by decide) d_j_cod_10 ?_
  exact PW.zret g hF (show m_j_cod.2.2.2 = some .byte from rfl) rfl d_j_cod_14 ⟨rfl, hL, 0, rfl, rfl, rfl, rfl⟩
set_option maxHeartbeats 4000000 in
set_option maxRecDepth 100000 in
theorem j_lat (d : Nat) {I : pI} {R : pR} (hL : pw_Lay R) : Cm (d + 1) m_j_lat [.retAddr 0] I R (qi (fun v I1 R1 => v = 1 ∧ I1 = I ∧ R1 = R)) := by
  refine Cm.of [some (.retAddr 0)] (by decide) rfl (Nat.le_of_ble_eq_true rfl) (by simp) (fun E B g hF => ?_)
  refine PX.gets g rfl d_j_lat_0 ?_
  refine PW.if_eq g 17 (by decide) d_j_lat_3 (fun c => absurd c (by decide)) (fun _ => ?_)
  refine PW.aloadX_n g rfl rfl d_j_lat_6 ?_
  refine PX.getC g rfl d_j_lat_7 ?_
  refine PW.if_ne g 17 (by decide) d_j_lat_10 (fun c => absurd rfl c) (fun _ => ?_)
  refine PW.iconst g 1 (by decide) d_j_lat_13 ?_
  refine PW.goto g 18 (by decide) d_j_lat_14 ?_
  exact PW.zret g hF (show m_j_lat.2.2.2 = some .boolean from rfl) rfl d_j_lat_18 ⟨rfl, hL, 1, rfl, rfl, rfl, rfl⟩
set_option maxHeartbeats 4000000 in
set_option maxRecDepth 100000 in
theorem j_len (d : Nat) {I : pI} {R : pR} (hL : pw_Lay R) : Cm (d + 2) m_j_len [.retAddr 0] I R (qi (fun v I1 R1 => v = 28 ∧ I1 = I ∧ R1 = R)) := by
  refine Cm.of [some (.retAddr 0)] (by decide) rfl (Nat.le_of_ble_eq_true rfl) (by simp) (fun E B g hF => ?_)
  refine PW.aloadX_n g rfl rfl d_j_len_0 ?_
  refine PX.getV g rfl d_j_len_1 ?_
  refine PX.tlen g d_j_len_4 ?_
  refine PW.aloadX_n g rfl rfl d_j_len_5 ?_
  refine PX.cX [] [.int 28] g rfl (j_cod d hL) cl_j_335 (by omega) (by decide) rfl rfl (Nat.le_of_ble_eq_true rfl) d_j_len_6 (fun v I1 R1 hL h => ?_)
  obtain ⟨rfl, rfl, rfl⟩ := h
  refine PW.ishr g d_j_len_9 ?_
  exact PX.iret g hF rfl d_j_len_10 hL ⟨by decide, rfl, rfl⟩
set_option maxHeartbeats 4000000 in
set_option maxRecDepth 100000 in
theorem j_enc (d : Nat) {c : Int32} {I : pI} {R : pR} (hL : pw_Lay R) (h0 : ¬ c < 0) (h1 : ¬ 255 < c) : Cm (d + 1) m_j_enc [.int c] I R (qi (fun v I1 R1 => v = 1 ∧ I1 = I ∧ R1 = R)) := by
  refine Cm.of [some (.int c)] (by decide) rfl (Nat.le_of_ble_eq_true rfl) (by simp) (fun E B g hF => ?_)
  refine PW.iload_n g rfl rfl d_j_enc_0 ?_
  refine PW.if_lt g 15 (by decide) d_j_enc_1 (fun c => absurd c h0) (fun _ => ?_)
  refine PW.iload_n g rfl rfl d_j_enc_4 ?_
  refine PW.sipush g 255 (by decide) d_j_enc_5 ?_
  refine PW.icmp_gt g 15 (by decide) d_j_enc_8 (fun c => absurd c h1) (fun _ => ?_)
  refine PW.iconst g 1 (by decide) d_j_enc_11 ?_
  refine PW.goto g 16 (by decide) d_j_enc_12 ?_
  exact PW.zret g hF (show m_j_enc.2.2.2 = some .boolean from rfl) rfl d_j_enc_16 ⟨rfl, hL, 1, rfl, rfl, rfl, rfl⟩
set_option maxHeartbeats 4000000 in
set_option maxRecDepth 100000 in
theorem j_ixc_loop (d : Nat) {c b : Int32} {q : Int32 → pI → pR → Prop} {I : pI} {R : pR} (hL : pw_Lay R) {E : pE} {B : pB} (g : pw_G m_j_ixc (d + 1) 0 0 E B) (hF : pX (qi q) E B) : ∀ n i : Nat, i + n = 28 → q (pw_ix b n i) I R → PX E B m_j_ixc.2.2.1 7 [some (.retAddr 1), some (.int c), some (.int 0), some (.int 28), some (.int b), some (.int (nI i))] [] I R := by
  intro n
  induction n with
  | zero =>
    intro i hi hq
    refine PW.iload g rfl d_j_ixc_7 ?_
    refine PW.iload_n g rfl rfl d_j_ixc_9 ?_
    refine PW.icmp_ge g 31 (by decide) d_j_ixc_10 (fun _ => ?_) (fun c => absurd (by rw [show i = 28 by omega]; decide) c)
    refine PW.iconst g (-1) (by decide) d_j_ixc_31 ?_
    exact PX.iret g hF rfl d_j_ixc_32 hL hq
  | succ n ih =>
    intro i hi hq
    have hlt : i < 28 := by omega
    refine PW.iload g rfl d_j_ixc_7 ?_
    refine PW.iload_n g rfl rfl d_j_ixc_9 ?_
    refine PW.icmp_ge g 31 (by decide) d_j_ixc_10 (fun c => absurd c (nI_ge (b := 28) hlt (by decide))) (fun _ => ?_)
    refine PW.aloadX_n g rfl rfl d_j_ixc_13 ?_
    refine PW.iload g rfl d_j_ixc_14 ?_
    refine PX.tb g (vp_in_nI hlt (by decide)) d_j_ixc_16 ?_
    refine PW.iload g rfl d_j_ixc_17 ?_
    unfold pw_ix at hq
    rw [nI_clamp (by omega)]
    refine PW.icmp_ne g 25 (by decide) d_j_ixc_19 (fun hc => ?_) (fun hc => ?_)
    · rw [if_neg hc] at hq
      refine PW.iinc g rfl (v := nI (i + 1)) (show nI i + Int32.ofInt 1 = nI (i + 1) from nI_1 i) (by decide) rfl (L' := [some (.retAddr 1), some (.int c), some (.int 0), some (.int 28), some (.int b), some (.int (nI (i + 1)))]) rfl d_j_ixc_25 ?_
      refine PW.goto g 7 (by decide) d_j_ixc_28 ?_
      exact ih (i + 1) (by omega) hq
    · rw [if_pos hc] at hq
      refine PW.iload g rfl d_j_ixc_22 ?_
      exact PX.iret g hF rfl d_j_ixc_24 hL hq
set_option maxHeartbeats 4000000 in
set_option maxRecDepth 100000 in
theorem j_ixc (d : Nat) {c : Int32} {I : pI} {R : pR} (hL : pw_Lay R) : Cm (d + 1) m_j_ixc [.retAddr 1, .int c, .int 0, .int 28] I R (qi (fun v I1 R1 => v = pw_ix c.toInt8.toInt32 28 0 ∧ I1 = I ∧ R1 = R)) := by
  refine Cm.of [some (.retAddr 1), some (.int c), some (.int 0), some (.int 28), none, none] (by decide) rfl (Nat.le_of_ble_eq_true rfl) (by simp) (fun E B g hF => ?_)
  refine PW.iload_n g rfl rfl d_j_ixc_0 ?_
  refine PX.i2b g d_j_ixc_1 ?_
  refine PW.istore g (L' := [some (.retAddr 1), some (.int c), some (.int 0), some (.int 28), some (.int c.toInt8.toInt32), none]) (by decide) rfl rfl d_j_ixc_2 ?_
  refine PW.iload_n g rfl rfl d_j_ixc_4 ?_
  refine PW.istore g (L' := [some (.retAddr 1), some (.int c), some (.int 0), some (.int 28), some (.int c.toInt8.toInt32), some (.int 0)]) (by decide) rfl rfl d_j_ixc_5 ?_
  exact j_ixc_loop d hL g hF 28 0 rfl ⟨rfl, rfl, rfl⟩
set_option maxHeartbeats 4000000 in
set_option maxRecDepth 100000 in
theorem j_lix (d : Nat) {c : Int32} {I : pI} {R : pR} (hL : pw_Lay R) (h0 : ¬ c < 0) (h1 : ¬ 255 < c) : Cm (d + 2) m_j_lix [.retAddr 1, .int c, .int 0, .int 28] I R (qi (fun v I1 R1 => v = pw_ix c.toInt8.toInt32 28 0 ∧ I1 = I ∧ R1 = R)) := by
  refine Cm.of [some (.retAddr 1), some (.int c), some (.int 0), some (.int 28)] (by decide) rfl (Nat.le_of_ble_eq_true rfl) (by simp) (fun E B g hF => ?_)
  refine PW.iload_n g rfl rfl d_j_lix_0 ?_
  refine PX.cSi [.int c] [] g (j_enc d hL h0 h1) cl_j_88 (by omega) (by decide) rfl rfl (Nat.le_of_ble_eq_true rfl) d_j_lix_1 (fun v I1 R1 hL h => ?_)
  obtain ⟨rfl, rfl, rfl⟩ := h
  refine PW.if_ne g 9 (by decide) d_j_lix_4 (fun _ => ?_) (fun c => absurd c (by decide))
  refine PW.iload_n g rfl rfl d_j_lix_9 ?_
  refine PW.iconst g 0 (by decide) d_j_lix_10 ?_
  refine PX.mmax g (pw_gw 598 (by decide +kernel) (by decide +kernel)) (by omega) rfl (Nat.le_of_ble_eq_true rfl) d_j_lix_11 ?_
  refine PX.rw (w := 0) (by decide) ?_
  refine PW.istore_n g rfl (L' := [some (.retAddr 1), some (.int c), some (.int 0), some (.int 28)]) (by decide) rfl rfl d_j_lix_14 ?_
  refine PW.iload_n g rfl rfl d_j_lix_15 ?_
  refine PW.aloadX_n g rfl rfl d_j_lix_16 ?_
  refine PX.tlen g d_j_lix_17 ?_
  refine PX.mmin g (pw_gw 601 (by decide +kernel) (by decide +kernel)) (by omega) rfl (Nat.le_of_ble_eq_true rfl) d_j_lix_18 ?_
  refine PX.rw (w := 28) (by decide) ?_
  refine PW.istore_n g rfl (L' := [some (.retAddr 1), some (.int c), some (.int 0), some (.int 28)]) (by decide) rfl rfl d_j_lix_21 ?_
  refine PW.iload_n g rfl rfl d_j_lix_22 ?_
  refine PW.iload_n g rfl rfl d_j_lix_23 ?_
  refine PW.icmp_lt g 29 (by decide) d_j_lix_24 (fun _ => ?_) (fun c => absurd (by decide) c)
  refine PW.aloadX_n g rfl rfl d_j_lix_29 ?_
  refine PW.iload_n g rfl rfl d_j_lix_30 ?_
  refine PW.iload_n g rfl rfl d_j_lix_31 ?_
  refine PW.iload_n g rfl rfl d_j_lix_32 ?_
  refine PX.cSi [.retAddr 1, .int c, .int 0, .int 28] [] g (j_ixc d hL) cl_j_95 (by omega) (by decide) rfl rfl (Nat.le_of_ble_eq_true rfl) d_j_lix_33 (fun v I1 R1 hL h => ?_)
  exact PX.iret g hF rfl d_j_lix_36 hL h
set_option maxHeartbeats 4000000 in
set_option maxRecDepth 100000 in
theorem j_ix2 (d : Nat) {c : Int32} {I : pI} {R : pR} (hL : pw_Lay R) (h0 : ¬ c < 0) (h1 : ¬ 255 < c) : Cm (d + 3) m_j_ix2 [.retAddr 0, .int c, .int 0] I R (qi (fun v I1 R1 => v = pw_ix c.toInt8.toInt32 28 0 ∧ I1 = I ∧ R1 = R)) := by
  refine Cm.of [some (.retAddr 0), some (.int c), some (.int 0)] (by decide) rfl (Nat.le_of_ble_eq_true rfl) (by simp) (fun E B g hF => ?_)
  refine PW.aloadX_n g rfl rfl d_j_ix2_0 ?_
  refine PX.cX [] [] g rfl (j_lat d hL) cl_j_492 (by omega) (by decide) rfl rfl (Nat.le_of_ble_eq_true rfl) d_j_ix2_1 (fun v I1 R1 hL h => ?_)
  obtain ⟨rfl, rfl, rfl⟩ := h
  refine PW.if_eq g 23 (by decide) d_j_ix2_4 (fun c => absurd c (by decide)) (fun _ => ?_)
  refine PW.aloadX_n g rfl rfl d_j_ix2_7 ?_
  refine PX.getV g rfl d_j_ix2_8 ?_
  refine PW.iload_n g rfl rfl d_j_ix2_11 ?_
  refine PW.iload_n g rfl rfl d_j_ix2_12 ?_
  refine PW.aloadX_n g rfl rfl d_j_ix2_13 ?_
  refine PX.cX [] [.int 0, .int c, .retAddr 1] g rfl (j_len d hL) cl_j_505 (by omega) (by decide) rfl rfl (Nat.le_of_ble_eq_true rfl) d_j_ix2_14 (fun v I1 R1 hL h => ?_)
  obtain ⟨rfl, rfl, rfl⟩ := h
  refine PX.cSi [.retAddr 1, .int c, .int 0, .int 28] [] g (j_lix d hL h0 h1) cl_j_637 (by omega) (by decide) rfl rfl (Nat.le_of_ble_eq_true rfl) d_j_ix2_17 (fun v I1 R1 hL h => ?_)
  refine PW.goto g 36 (by decide) d_j_ix2_20 ?_
  exact PX.iret g hF rfl d_j_ix2_36 hL h
set_option maxHeartbeats 4000000 in
set_option maxRecDepth 100000 in
theorem j_ix1 (d : Nat) {c : Int32} {I : pI} {R : pR} (hL : pw_Lay R) (h0 : ¬ c < 0) (h1 : ¬ 255 < c) : Cm (d + 4) m_j_ix1 [.retAddr 0, .int c] I R (qi (fun v I1 R1 => v = pw_ix c.toInt8.toInt32 28 0 ∧ I1 = I ∧ R1 = R)) := by
  refine Cm.of [some (.retAddr 0), some (.int c)] (by decide) rfl (Nat.le_of_ble_eq_true rfl) (by simp) (fun E B g hF => ?_)
  refine PW.aloadX_n g rfl rfl d_j_ix1_0 ?_
  refine PW.iload_n g rfl rfl d_j_ix1_1 ?_
  refine PW.iconst g 0 (by decide) d_j_ix1_2 ?_
  refine PX.cX [.int c, .int 0] [] g rfl (j_ix2 d hL h0 h1) cl_j_633 (by omega) (by decide) rfl rfl (Nat.le_of_ble_eq_true rfl) d_j_ix1_3 (fun v I1 R1 hL h => ?_)
  exact PX.iret g hF rfl d_j_ix1_6 hL h
