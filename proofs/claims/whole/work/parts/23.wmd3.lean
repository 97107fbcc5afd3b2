def j_md_whenThen_129 (K67 : Int32 → pI → pR → Prop) (Q : pI → pR → Prop) (f2 : Int32) (f3 : Int32) (x4 : Int32) (I : pI) (R : pR) : Prop := (vp_in x4 200 ∧ ((¬ (I 131 x4.toNatClampNeg) = (4 : Int32) → K67 (x4 + 1) I R) ∧ ((I 131 x4.toNatClampNeg) = (4 : Int32) → (w_md_truly x4 I R (fun I4 R4 => K67 (x4 + 1) I4 R4)))))
set_option maxHeartbeats 4000000 in
set_option maxRecDepth 100000 in
theorem J_md_whenThen_129 (d : Nat) {K67 : Int32 → pI → pR → Prop} {Q : pI → pR → Prop} {f2 : Int32} {f3 : Int32} {x4 : Int32} {E : pE} {B : pB} (g : pw_G m_md_whenThen (d + 8) 0 0 E B) (hF : pX (qv Q) E B) (hK67 : ∀ (y4 : Int32) (I : pI) (R : pR), pw_Lay R → K67 y4 I R → PX E B m_md_whenThen.2.2.1 67 [some (.ref 121), none, some (.int f2), some (.int f3), some (.int y4)] [] I R) {I : pI} {R : pR} (hL : pw_Lay R) (h : j_md_whenThen_129  K67 Q f2 f3 x4 I R) : PX E B m_md_whenThen.2.2.1 129 [some (.ref 121), none, some (.int f2), some (.int f3), some (.int x4)] [] I R := by
  unfold j_md_whenThen_129 at h
  refine PW.aload_n g rfl rfl d_md_whenThen_129 ?_
  refine PW.getR (q := 131) g fi_md_37 rfl (hL 121 12 16 rfl (by decide)) d_md_whenThen_130 ?_
  refine PW.iload g rfl d_md_whenThen_133 ?_
  refine PW.iald g rfl h.1 d_md_whenThen_135 ?_
  have h := h.2
  refine PW.iconst g (4) (by decide) d_md_whenThen_136 ?_
  refine PW.icmp_ne g 146 (by decide) d_md_whenThen_137 (fun c8 => ?_) (fun c8 => ?_)
  · have h := h.1 c8
    refine PW.iinc g rfl (show x4 + Int32.ofInt (1) = (x4 + 1) from congrArg (HAdd.hAdd x4) (by decide)) (by decide) rfl (L' := [some (.ref 121), none, some (.int f2), some (.int f3), some (.int (x4 + 1))]) rfl d_md_whenThen_146 ?_
    refine PW.goto g 67 (by decide) d_md_whenThen_149 ?_
    refine PX.sub [some (.ref 121), none, some (.int f2), some (.int f3), some (.int (x4 + 1))] ⟨rfl, ⟨rfl, ⟨rfl, ⟨rfl, trivial⟩⟩⟩⟩ ?_
    exact hK67 _ _ _ hL h
  · have h := h.2 c8
    refine PW.aload_n g rfl rfl d_md_whenThen_140 ?_
    refine PW.iload g rfl d_md_whenThen_141 ?_
    refine PX.cVv [.int x4] [] g rfl ck_md (c_md_truly d  hL h) cl_md_436 (by omega) (by decide) rfl rfl (Nat.le_of_ble_eq_true rfl) d_md_whenThen_143 (fun I4 R4 hL h => ?_)
    refine PW.iinc g rfl (show x4 + Int32.ofInt (1) = (x4 + 1) from congrArg (HAdd.hAdd x4) (by decide)) (by decide) rfl (L' := [some (.ref 121), none, some (.int f2), some (.int f3), some (.int (x4 + 1))]) rfl d_md_whenThen_146 ?_
    refine PW.goto g 67 (by decide) d_md_whenThen_149 ?_
    refine PX.sub [some (.ref 121), none, some (.int f2), some (.int f3), some (.int (x4 + 1))] ⟨rfl, ⟨rfl, ⟨rfl, ⟨rfl, trivial⟩⟩⟩⟩ ?_
    exact hK67 _ _ _ hL h
def j_md_whenThen_117 (K67 : Int32 → pI → pR → Prop) (Q : pI → pR → Prop) (f2 : Int32) (f3 : Int32) (x4 : Int32) (I : pI) (R : pR) : Prop := (vp_in x4 200 ∧ (w_md_fails (1 : Int32) (I 136 x4.toNatClampNeg) I R (fun I7 R7 => (j_md_whenThen_129 (fun y3 I8 R8 => K67 y3 I8 R8) Q f2 f3 x4 I7 R7))))
set_option maxHeartbeats 4000000 in
set_option maxRecDepth 100000 in
theorem J_md_whenThen_117 (d : Nat) {K67 : Int32 → pI → pR → Prop} {Q : pI → pR → Prop} {f2 : Int32} {f3 : Int32} {x4 : Int32} {E : pE} {B : pB} (g : pw_G m_md_whenThen (d + 8) 0 0 E B) (hF : pX (qv Q) E B) (hK67 : ∀ (y4 : Int32) (I : pI) (R : pR), pw_Lay R → K67 y4 I R → PX E B m_md_whenThen.2.2.1 67 [some (.ref 121), none, some (.int f2), some (.int f3), some (.int y4)] [] I R) {I : pI} {R : pR} (hL : pw_Lay R) (h : j_md_whenThen_117  K67 Q f2 f3 x4 I R) : PX E B m_md_whenThen.2.2.1 117 [some (.ref 121), none, some (.int f2), some (.int f3), some (.int x4)] [] I R := by
  unfold j_md_whenThen_117 at h
  refine PW.aload_n g rfl rfl d_md_whenThen_117 ?_
  refine PW.iconst g (1) (by decide) d_md_whenThen_118 ?_
  refine PW.aload_n g rfl rfl d_md_whenThen_119 ?_
  refine PW.getR (q := 136) g fi_md_52 rfl (hL 121 12 21 rfl (by decide)) d_md_whenThen_120 ?_
  refine PW.iload g rfl d_md_whenThen_123 ?_
  refine PW.iald g rfl h.1 d_md_whenThen_125 ?_
  have h := h.2
  refine PX.cVv [.int (1 : Int32), .int (I 136 x4.toNatClampNeg)] [] g rfl ck_md (c_md_fails d  hL h) cl_md_421 (by omega) (by decide) rfl rfl (Nat.le_of_ble_eq_true rfl) d_md_whenThen_126 (fun I7 R7 hL h => ?_)
  refine PX.sub [some (.ref 121), none, some (.int f2), some (.int f3), some (.int x4)] ⟨rfl, ⟨rfl, ⟨rfl, ⟨rfl, trivial⟩⟩⟩⟩ ?_
  refine J_md_whenThen_129 d g hF (fun y3 I8 R8 hL h => ?_) hL h
  refine PX.sub [some (.ref 121), none, some (.int f2), some (.int f3), some (.int y3)] ⟨rfl, ⟨rfl, ⟨rfl, ⟨rfl, trivial⟩⟩⟩⟩ ?_
  exact hK67 _ _ _ hL h
def j_md_whenThen_100 (K67 : Int32 → pI → pR → Prop) (Q : pI → pR → Prop) (f2 : Int32) (f3 : Int32) (x4 : Int32) (I : pI) (R : pR) : Prop := (vp_in x4 200 ∧ ((¬ (I 131 x4.toNatClampNeg) = (6 : Int32) → (j_md_whenThen_129 (fun y1 I5 R5 => K67 y1 I5 R5) Q f2 f3 x4 I R)) ∧ ((I 131 x4.toNatClampNeg) = (6 : Int32) → ((¬ f2 = (3 : Int32) → (j_md_whenThen_129 (fun y2 I6 R6 => K67 y2 I6 R6) Q f2 f3 x4 I R)) ∧ (f2 = (3 : Int32) → (j_md_whenThen_117 (fun y4 I9 R9 => K67 y4 I9 R9) Q f2 f3 x4 I R))))))
set_option maxHeartbeats 4000000 in
set_option maxRecDepth 100000 in
theorem J_md_whenThen_100 (d : Nat) {K67 : Int32 → pI → pR → Prop} {Q : pI → pR → Prop} {f2 : Int32} {f3 : Int32} {x4 : Int32} {E : pE} {B : pB} (g : pw_G m_md_whenThen (d + 8) 0 0 E B) (hF : pX (qv Q) E B) (hK67 : ∀ (y4 : Int32) (I : pI) (R : pR), pw_Lay R → K67 y4 I R → PX E B m_md_whenThen.2.2.1 67 [some (.ref 121), none, some (.int f2), some (.int f3), some (.int y4)] [] I R) {I : pI} {R : pR} (hL : pw_Lay R) (h : j_md_whenThen_100  K67 Q f2 f3 x4 I R) : PX E B m_md_whenThen.2.2.1 100 [some (.ref 121), none, some (.int f2), some (.int f3), some (.int x4)] [] I R := by
  unfold j_md_whenThen_100 at h
  refine PW.aload_n g rfl rfl d_md_whenThen_100 ?_
  refine PW.getR (q := 131) g fi_md_37 rfl (hL 121 12 16 rfl (by decide)) d_md_whenThen_101 ?_
  refine PW.iload g rfl d_md_whenThen_104 ?_
  refine PW.iald g rfl h.1 d_md_whenThen_106 ?_
  have h := h.2
  refine PW.bipush g (6) (by decide) d_md_whenThen_107 ?_
  refine PW.icmp_ne g 129 (by decide) d_md_whenThen_109 (fun c7 => ?_) (fun c7 => ?_)
  · have h := h.1 c7
    refine PX.sub [some (.ref 121), none, some (.int f2), some (.int f3), some (.int x4)] ⟨rfl, ⟨rfl, ⟨rfl, ⟨rfl, trivial⟩⟩⟩⟩ ?_
    refine J_md_whenThen_129 d g hF (fun y1 I5 R5 hL h => ?_) hL h
    refine PX.sub [some (.ref 121), none, some (.int f2), some (.int f3), some (.int y1)] ⟨rfl, ⟨rfl, ⟨rfl, ⟨rfl, trivial⟩⟩⟩⟩ ?_
    exact hK67 _ _ _ hL h
  · have h := h.2 c7
    refine PW.iload_n g rfl rfl d_md_whenThen_112 ?_
    refine PW.iconst g (3) (by decide) d_md_whenThen_113 ?_
    refine PW.icmp_ne g 129 (by decide) d_md_whenThen_114 (fun c9 => ?_) (fun c9 => ?_)
    · have h := h.1 c9
      refine PX.sub [some (.ref 121), none, some (.int f2), some (.int f3), some (.int x4)] ⟨rfl, ⟨rfl, ⟨rfl, ⟨rfl, trivial⟩⟩⟩⟩ ?_
      refine J_md_whenThen_129 d g hF (fun y2 I6 R6 hL h => ?_) hL h
      refine PX.sub [some (.ref 121), none, some (.int f2), some (.int f3), some (.int y2)] ⟨rfl, ⟨rfl, ⟨rfl, ⟨rfl, trivial⟩⟩⟩⟩ ?_
      exact hK67 _ _ _ hL h
    · have h := h.2 c9
      refine PX.sub [some (.ref 121), none, some (.int f2), some (.int f3), some (.int x4)] ⟨rfl, ⟨rfl, ⟨rfl, ⟨rfl, trivial⟩⟩⟩⟩ ?_
      refine J_md_whenThen_117 d g hF (fun y4 I9 R9 hL h => ?_) hL h
      refine PX.sub [some (.ref 121), none, some (.int f2), some (.int f3), some (.int y4)] ⟨rfl, ⟨rfl, ⟨rfl, ⟨rfl, trivial⟩⟩⟩⟩ ?_
      exact hK67 _ _ _ hL h
def l_md_whenThen_67 (f2 : Int32) (f3 : Int32) (K : pI → pR → Prop) (Q : pI → pR → Prop) : Nat → Int32 → pI → pR → Prop
  | 0, _, _, _ => False
  | n + 1, x4, I, R => ((f3 ≤ x4 → K I R) ∧ (¬ f3 ≤ x4 → (vp_in (I 121 68) 6 ∧ ((¬ (I 163 (I 121 68).toNatClampNeg) = 0 → K I R) ∧ ((I 163 (I 121 68).toNatClampNeg) = 0 → (vp_in x4 200 ∧ ((¬ (I 131 x4.toNatClampNeg) = (5 : Int32) → (j_md_whenThen_100 (fun y5 I10 R10 => l_md_whenThen_67 f2 f3 K Q n y5 I10 R10) Q f2 f3 x4 I R)) ∧ ((I 131 x4.toNatClampNeg) = (5 : Int32) → ((f2 = 0 → (j_md_whenThen_117 (fun y6 I11 R11 => l_md_whenThen_67 f2 f3 K Q n y6 I11 R11) Q f2 f3 x4 I R)) ∧ (¬ f2 = 0 → (j_md_whenThen_100 (fun y7 I12 R12 => l_md_whenThen_67 f2 f3 K Q n y7 I12 R12) Q f2 f3 x4 I R)))))))))))
set_option maxHeartbeats 4000000 in
set_option maxRecDepth 100000 in
theorem L_md_whenThen_67 (d : Nat) {f2 : Int32} {f3 : Int32} {K : pI → pR → Prop} {Q : pI → pR → Prop} {E : pE} {B : pB} (g : pw_G m_md_whenThen (d + 8) 0 0 E B) (hF : pX (qv Q) E B) (hK : ∀ (I : pI) (R : pR), pw_Lay R → K  I R → PX E B m_md_whenThen.2.2.1 152 [some (.ref 121), none, none, some (.int f3), none] [] I R) : ∀ (n : Nat) (x4 : Int32) (I : pI) (R : pR), pw_Lay R → l_md_whenThen_67 f2 f3 K Q n x4 I R → PX E B m_md_whenThen.2.2.1 67 [some (.ref 121), none, some (.int f2), some (.int f3), some (.int x4)] [] I R := by
  intro n
  induction n with
  | zero => intro x4 I R hL h; exact False.elim h
  | succ n ih =>
    intro x4 I R hL h
    refine PW.iload g rfl d_md_whenThen_67 ?_
    refine PW.iload_n g rfl rfl d_md_whenThen_69 ?_
    refine PW.icmp_ge g 152 (by decide) d_md_whenThen_70 (fun c4 => ?_) (fun c4 => ?_)
    · have h := h.1 c4
      refine PX.sub [some (.ref 121), none, none, some (.int f3), none] ⟨rfl, ⟨rfl, trivial⟩⟩ ?_
      exact hK _ _ hL h
    · have h := h.2 c4
      refine PW.aload_n g rfl rfl d_md_whenThen_73 ?_
      refine PW.getR (q := 163) g fi_md_137 rfl (hL 121 12 71 rfl (by decide)) d_md_whenThen_74 ?_
      refine PW.aload_n g rfl rfl d_md_whenThen_77 ?_
      refine PW.getI g fi_md_374 rfl d_md_whenThen_78 ?_
      refine PW.iald g rfl h.1 d_md_whenThen_81 ?_
      have h := h.2
      refine PW.if_ne g 152 (by decide) d_md_whenThen_82 (fun c5 => ?_) (fun c5 => ?_)
      · have h := h.1 c5
        refine PX.sub [some (.ref 121), none, none, some (.int f3), none] ⟨rfl, ⟨rfl, trivial⟩⟩ ?_
        exact hK _ _ hL h
      · have h := h.2 c5
        refine PW.aload_n g rfl rfl d_md_whenThen_85 ?_
        refine PW.getR (q := 131) g fi_md_37 rfl (hL 121 12 16 rfl (by decide)) d_md_whenThen_86 ?_
        refine PW.iload g rfl d_md_whenThen_89 ?_
        refine PW.iald g rfl h.1 d_md_whenThen_91 ?_
        have h := h.2
        refine PW.iconst g (5) (by decide) d_md_whenThen_92 ?_
        refine PW.icmp_ne g 100 (by decide) d_md_whenThen_93 (fun c6 => ?_) (fun c6 => ?_)
        · have h := h.1 c6
          refine PX.sub [some (.ref 121), none, some (.int f2), some (.int f3), some (.int x4)] ⟨rfl, ⟨rfl, ⟨rfl, ⟨rfl, trivial⟩⟩⟩⟩ ?_
          refine J_md_whenThen_100 d g hF (fun y5 I10 R10 hL h => ?_) hL h
          refine PX.sub [some (.ref 121), none, some (.int f2), some (.int f3), some (.int y5)] ⟨rfl, ⟨rfl, ⟨rfl, ⟨rfl, trivial⟩⟩⟩⟩ ?_
          exact ih _ _ _ hL h
        · have h := h.2 c6
          refine PW.iload_n g rfl rfl d_md_whenThen_96 ?_
          refine PW.if_eq g 117 (by decide) d_md_whenThen_97 (fun c10 => ?_) (fun c10 => ?_)
          · have h := h.1 c10
            refine PX.sub [some (.ref 121), none, some (.int f2), some (.int f3), some (.int x4)] ⟨rfl, ⟨rfl, ⟨rfl, ⟨rfl, trivial⟩⟩⟩⟩ ?_
            refine J_md_whenThen_117 d g hF (fun y6 I11 R11 hL h => ?_) hL h
            refine PX.sub [some (.ref 121), none, some (.int f2), some (.int f3), some (.int y6)] ⟨rfl, ⟨rfl, ⟨rfl, ⟨rfl, trivial⟩⟩⟩⟩ ?_
            exact ih _ _ _ hL h
          · have h := h.2 c10
            refine PX.sub [some (.ref 121), none, some (.int f2), some (.int f3), some (.int x4)] ⟨rfl, ⟨rfl, ⟨rfl, ⟨rfl, trivial⟩⟩⟩⟩ ?_
            refine J_md_whenThen_100 d g hF (fun y7 I12 R12 hL h => ?_) hL h
            refine PX.sub [some (.ref 121), none, some (.int f2), some (.int f3), some (.int y7)] ⟨rfl, ⟨rfl, ⟨rfl, ⟨rfl, trivial⟩⟩⟩⟩ ?_
            exact ih _ _ _ hL h
def l_md_whenThen_158 (f3 : Int32) (K : pI → pR → Prop) (Q : pI → pR → Prop) : Nat → Int32 → pI → pR → Prop
  | 0, _, _, _ => False
  | n + 1, x4, I, R => ((f3 ≤ x4 → K I R) ∧ (¬ f3 ≤ x4 → (vp_in (I 121 68) 6 ∧ ((¬ (I 163 (I 121 68).toNatClampNeg) = 0 → K I R) ∧ ((I 163 (I 121 68).toNatClampNeg) = 0 → (vp_in x4 200 ∧ ((¬ (I 131 x4.toNatClampNeg) = (7 : Int32) → l_md_whenThen_158 f3 K Q n (x4 + 1) I R) ∧ ((I 131 x4.toNatClampNeg) = (7 : Int32) → (vp_in x4 200 ∧ (vp_in x4 200 ∧ (((I 138 x4.toNatClampNeg) ≤ (I 145 x4.toNatClampNeg) → l_md_whenThen_158 f3 K Q n (x4 + 1) I R) ∧ (¬ (I 138 x4.toNatClampNeg) ≤ (I 145 x4.toNatClampNeg) → (vp_in x4 200 ∧ (w_md_fails (2 : Int32) (I 136 x4.toNatClampNeg) I R (fun I14 R14 => l_md_whenThen_158 f3 K Q n (x4 + 1) I14 R14)))))))))))))))
set_option maxHeartbeats 4000000 in
set_option maxRecDepth 100000 in
theorem L_md_whenThen_158 (d : Nat) {f3 : Int32} {K : pI → pR → Prop} {Q : pI → pR → Prop} {E : pE} {B : pB} (g : pw_G m_md_whenThen (d + 8) 0 0 E B) (hF : pX (qv Q) E B) (hK : ∀ (I : pI) (R : pR), pw_Lay R → K  I R → PX E B m_md_whenThen.2.2.1 223 [none, none, none, none, none] [] I R) : ∀ (n : Nat) (x4 : Int32) (I : pI) (R : pR), pw_Lay R → l_md_whenThen_158 f3 K Q n x4 I R → PX E B m_md_whenThen.2.2.1 158 [some (.ref 121), none, none, some (.int f3), some (.int x4)] [] I R := by
  intro n
  induction n with
  | zero => intro x4 I R hL h; exact False.elim h
  | succ n ih =>
    intro x4 I R hL h
    refine PW.iload g rfl d_md_whenThen_158 ?_
    refine PW.iload_n g rfl rfl d_md_whenThen_160 ?_
    refine PW.icmp_ge g 223 (by decide) d_md_whenThen_161 (fun c11 => ?_) (fun c11 => ?_)
    · have h := h.1 c11
      refine PX.sub [none, none, none, none, none] trivial ?_
      exact hK _ _ hL h
    · have h := h.2 c11
      refine PW.aload_n g rfl rfl d_md_whenThen_164 ?_
      refine PW.getR (q := 163) g fi_md_137 rfl (hL 121 12 71 rfl (by decide)) d_md_whenThen_165 ?_
      refine PW.aload_n g rfl rfl d_md_whenThen_168 ?_
      refine PW.getI g fi_md_374 rfl d_md_whenThen_169 ?_
      refine PW.iald g rfl h.1 d_md_whenThen_172 ?_
      have h := h.2
      refine PW.if_ne g 223 (by decide) d_md_whenThen_173 (fun c12 => ?_) (fun c12 => ?_)
      · have h := h.1 c12
        refine PX.sub [none, none, none, none, none] trivial ?_
        exact hK _ _ hL h
      · have h := h.2 c12
        refine PW.aload_n g rfl rfl d_md_whenThen_176 ?_
        refine PW.getR (q := 131) g fi_md_37 rfl (hL 121 12 16 rfl (by decide)) d_md_whenThen_177 ?_
        refine PW.iload g rfl d_md_whenThen_180 ?_
        refine PW.iald g rfl h.1 d_md_whenThen_182 ?_
        have h := h.2
        refine PW.bipush g (7) (by decide) d_md_whenThen_183 ?_
        refine PW.icmp_ne g 217 (by decide) d_md_whenThen_185 (fun c13 => ?_) (fun c13 => ?_)
        · have h := h.1 c13
          refine PW.iinc g rfl (show x4 + Int32.ofInt (1) = (x4 + 1) from congrArg (HAdd.hAdd x4) (by decide)) (by decide) rfl (L' := [some (.ref 121), none, none, some (.int f3), some (.int (x4 + 1))]) rfl d_md_whenThen_217 ?_
          refine PW.goto g 158 (by decide) d_md_whenThen_220 ?_
          refine PX.sub [some (.ref 121), none, none, some (.int f3), some (.int (x4 + 1))] ⟨rfl, ⟨rfl, ⟨rfl, trivial⟩⟩⟩ ?_
          exact ih _ _ _ hL h
        · have h := h.2 c13
          refine PW.aload_n g rfl rfl d_md_whenThen_188 ?_
          refine PW.getR (q := 145) g fi_md_79 rfl (hL 121 12 30 rfl (by decide)) d_md_whenThen_189 ?_
          refine PW.iload g rfl d_md_whenThen_192 ?_
          refine PW.iald g rfl h.1 d_md_whenThen_194 ?_
          have h := h.2
          refine PW.aload_n g rfl rfl d_md_whenThen_195 ?_
          refine PW.getR (q := 138) g fi_md_58 rfl (hL 121 12 23 rfl (by decide)) d_md_whenThen_196 ?_
          refine PW.iload g rfl d_md_whenThen_199 ?_
          refine PW.iald g rfl h.1 d_md_whenThen_201 ?_
          have h := h.2
          refine PW.icmp_ge g 217 (by decide) d_md_whenThen_202 (fun c14 => ?_) (fun c14 => ?_)
          · have h := h.1 c14
            refine PW.iinc g rfl (show x4 + Int32.ofInt (1) = (x4 + 1) from congrArg (HAdd.hAdd x4) (by decide)) (by decide) rfl (L' := [some (.ref 121), none, none, some (.int f3), some (.int (x4 + 1))]) rfl d_md_whenThen_217 ?_
            refine PW.goto g 158 (by decide) d_md_whenThen_220 ?_
            refine PX.sub [some (.ref 121), none, none, some (.int f3), some (.int (x4 + 1))] ⟨rfl, ⟨rfl, ⟨rfl, trivial⟩⟩⟩ ?_
            exact ih _ _ _ hL h
          · have h := h.2 c14
            refine PW.aload_n g rfl rfl d_md_whenThen_205 ?_
            refine PW.iconst g (2) (by decide) d_md_whenThen_206 ?_
            refine PW.aload_n g rfl rfl d_md_whenThen_207 ?_
            refine PW.getR (q := 136) g fi_md_52 rfl (hL 121 12 21 rfl (by decide)) d_md_whenThen_208 ?_
            refine PW.iload g rfl d_md_whenThen_211 ?_
            refine PW.iald g rfl h.1 d_md_whenThen_213 ?_
            have h := h.2
            refine PX.cVv [.int (2 : Int32), .int (I 136 x4.toNatClampNeg)] [] g rfl ck_md (c_md_fails d  hL h) cl_md_421 (by omega) (by decide) rfl rfl (Nat.le_of_ble_eq_true rfl) d_md_whenThen_214 (fun I14 R14 hL h => ?_)
            refine PW.iinc g rfl (show x4 + Int32.ofInt (1) = (x4 + 1) from congrArg (HAdd.hAdd x4) (by decide)) (by decide) rfl (L' := [some (.ref 121), none, none, some (.int f3), some (.int (x4 + 1))]) rfl d_md_whenThen_217 ?_
            refine PW.goto g 158 (by decide) d_md_whenThen_220 ?_
            refine PX.sub [some (.ref 121), none, none, some (.int f3), some (.int (x4 + 1))] ⟨rfl, ⟨rfl, ⟨rfl, trivial⟩⟩⟩ ?_
            exact ih _ _ _ hL h
def w_md_whenThen (a1 : Int32) (I : pI) (R : pR) (Q : pI → pR → Prop) : Prop := (w_md_befores a1 I R (fun v1 I1 R1 => ((¬ v1 = 0 → (w_md_acted a1 I1 R1 (fun v2 I2 R2 => ((v2 = (2 : Int32) → (w_md_fails v2 (I2 121 60) I2 R2 (fun I3 R3 => Q I3 R3))) ∧ (¬ v2 = (2 : Int32) → ((¬ v2 = (3 : Int32) → (∃ n2, l_md_whenThen_67 v2 (I2 121 63) (fun I13 R13 => (∃ n1, l_md_whenThen_158 (I2 121 63) (fun I15 R15 => Q I15 R15) Q n1 (I13 121 62) I13 R13)) Q n2 (I2 121 62) I2 R2)) ∧ (v2 = (3 : Int32) → (w_md_firstItem (5 : Int32) a1 I2 R2 (fun v7 I16 R16 => ((0 ≤ v7 → (∃ n4, l_md_whenThen_67 v2 (I16 121 63) (fun I17 R17 => (∃ n3, l_md_whenThen_158 (I16 121 63) (fun I18 R18 => Q I18 R18) Q n3 (I17 121 62) I17 R17)) Q n4 (I16 121 62) I16 R16)) ∧ (¬ 0 ≤ v7 → (w_md_fails v2 (I16 121 60) I16 R16 (fun I19 R19 => Q I19 R19))))))))))))) ∧ (v1 = 0 → (w_md_fails (I1 121 59) (I1 121 60) I1 R1 (fun I20 R20 => Q I20 R20))))))
set_option maxHeartbeats 4000000 in
set_option maxRecDepth 100000 in
theorem c_md_whenThen (d : Nat) {a1 : Int32} {I : pI} {R : pR} {Q : pI → pR → Prop} (hL : pw_Lay R) (h : w_md_whenThen a1 I R Q) : Cm (d + 8) m_md_whenThen [.ref 121, .int a1] I R (qv Q) := by
  refine Cm.of [some (.ref 121), some (.int a1), none, none, none] (by decide) rfl (Nat.le_of_ble_eq_true rfl) (by simp) (fun E B g hF => ?_)
  unfold w_md_whenThen at h
  refine PW.aload_n g rfl rfl d_md_whenThen_0 ?_
  refine PW.iload_n g rfl rfl d_md_whenThen_1 ?_
  refine PX.cVz [.int a1] [] g rfl ck_md (c_md_befores d  hL h) cl_md_427 (by omega) (by decide) rfl rfl (Nat.le_of_ble_eq_true rfl) d_md_whenThen_2 (fun v1 I1 R1 hL hzv1 h => ?_)
  refine PW.if_ne g 21 (by decide) d_md_whenThen_5 (fun c1 => ?_) (fun c1 => ?_)
  · have h := h.1 c1
    refine PW.aload_n g rfl rfl d_md_whenThen_21 ?_
    refine PW.iload_n g rfl rfl d_md_whenThen_22 ?_
    refine PX.cVi [.int a1] [] g rfl ck_md (c_md_acted d  hL h) cl_md_430 (by omega) (by decide) rfl rfl (Nat.le_of_ble_eq_true rfl) d_md_whenThen_23 (fun v2 I2 R2 hL h => ?_)
    refine PW.istore_n g rfl (L' := [some (.ref 121), some (.int a1), some (.int v2), none, none]) (by decide) rfl rfl d_md_whenThen_26 ?_
    refine PW.iload_n g rfl rfl d_md_whenThen_27 ?_
    refine PW.iconst g (2) (by decide) d_md_whenThen_28 ?_
    refine PW.icmp_eq g 46 (by decide) d_md_whenThen_29 (fun c2 => ?_) (fun c2 => ?_)
    · have h := h.1 c2
      refine PW.aload_n g rfl rfl d_md_whenThen_46 ?_
      refine PW.iload_n g rfl rfl d_md_whenThen_47 ?_
      refine PW.aload_n g rfl rfl d_md_whenThen_48 ?_
      refine PW.getI g fi_md_371 rfl d_md_whenThen_49 ?_
      refine PX.cVv [.int v2, .int (I2 121 60)] [] g rfl ck_md (c_md_fails d  hL h) cl_md_421 (by omega) (by decide) rfl rfl (Nat.le_of_ble_eq_true rfl) d_md_whenThen_52 (fun I3 R3 hL h => ?_)
      exact PX.vret g hF rfl d_md_whenThen_55 hL h
    · have h := h.2 c2
      refine PW.iload_n g rfl rfl d_md_whenThen_32 ?_
      refine PW.iconst g (3) (by decide) d_md_whenThen_33 ?_
      refine PW.icmp_ne g 56 (by decide) d_md_whenThen_34 (fun c3 => ?_) (fun c3 => ?_)
      · have h := h.1 c3
        refine PW.aload_n g rfl rfl d_md_whenThen_56 ?_
        refine PW.getI g fi_md_380 rfl d_md_whenThen_57 ?_
        refine PW.istore_n g rfl (L' := [some (.ref 121), some (.int a1), some (.int v2), some (.int (I2 121 63)), none]) (by decide) rfl rfl d_md_whenThen_60 ?_
        refine PW.aload_n g rfl rfl d_md_whenThen_61 ?_
        refine PW.getI g fi_md_377 rfl d_md_whenThen_62 ?_
        refine PW.istore g (L' := [some (.ref 121), some (.int a1), some (.int v2), some (.int (I2 121 63)), some (.int (I2 121 62))]) (by decide) rfl rfl d_md_whenThen_65 ?_
        refine PX.sub [some (.ref 121), none, some (.int v2), some (.int (I2 121 63)), some (.int (I2 121 62))] ⟨rfl, ⟨rfl, ⟨rfl, ⟨rfl, trivial⟩⟩⟩⟩ ?_
        obtain ⟨n2, h⟩ := h
        refine L_md_whenThen_67 d g hF (fun I13 R13 hL h => ?_) n2 (I2 121 62) I2 R2 hL h
        refine PW.aload_n g rfl rfl d_md_whenThen_152 ?_
        refine PW.getI g fi_md_377 rfl d_md_whenThen_153 ?_
        refine PW.istore g (L' := [some (.ref 121), none, none, some (.int (I2 121 63)), some (.int (I13 121 62))]) (by decide) rfl rfl d_md_whenThen_156 ?_
        refine PX.sub [some (.ref 121), none, none, some (.int (I2 121 63)), some (.int (I13 121 62))] ⟨rfl, ⟨rfl, ⟨rfl, trivial⟩⟩⟩ ?_
        obtain ⟨n1, h⟩ := h
        refine L_md_whenThen_158 d g hF (fun I15 R15 hL h => ?_) n1 (I13 121 62) I13 R13 hL h
        exact PX.vret g hF rfl d_md_whenThen_223 hL h
      · have h := h.2 c3
        refine PW.aload_n g rfl rfl d_md_whenThen_37 ?_
        refine PW.iconst g (5) (by decide) d_md_whenThen_38 ?_
        refine PW.iload_n g rfl rfl d_md_whenThen_39 ?_
        refine PX.cVi [.int (5 : Int32), .int a1] [] g rfl ck_md (c_md_firstItem d  hL h) cl_md_433 (by omega) (by decide) rfl rfl (Nat.le_of_ble_eq_true rfl) d_md_whenThen_40 (fun v7 I16 R16 hL h => ?_)
        refine PW.if_ge g 56 (by decide) d_md_whenThen_43 (fun c15 => ?_) (fun c15 => ?_)
        · have h := h.1 c15
          refine PW.aload_n g rfl rfl d_md_whenThen_56 ?_
          refine PW.getI g fi_md_380 rfl d_md_whenThen_57 ?_
          refine PW.istore_n g rfl (L' := [some (.ref 121), some (.int a1), some (.int v2), some (.int (I16 121 63)), none]) (by decide) rfl rfl d_md_whenThen_60 ?_
          refine PW.aload_n g rfl rfl d_md_whenThen_61 ?_
          refine PW.getI g fi_md_377 rfl d_md_whenThen_62 ?_
          refine PW.istore g (L' := [some (.ref 121), some (.int a1), some (.int v2), some (.int (I16 121 63)), some (.int (I16 121 62))]) (by decide) rfl rfl d_md_whenThen_65 ?_
          refine PX.sub [some (.ref 121), none, some (.int v2), some (.int (I16 121 63)), some (.int (I16 121 62))] ⟨rfl, ⟨rfl, ⟨rfl, ⟨rfl, trivial⟩⟩⟩⟩ ?_
          obtain ⟨n4, h⟩ := h
          refine L_md_whenThen_67 d g hF (fun I17 R17 hL h => ?_) n4 (I16 121 62) I16 R16 hL h
          refine PW.aload_n g rfl rfl d_md_whenThen_152 ?_
          refine PW.getI g fi_md_377 rfl d_md_whenThen_153 ?_
          refine PW.istore g (L' := [some (.ref 121), none, none, some (.int (I16 121 63)), some (.int (I17 121 62))]) (by decide) rfl rfl d_md_whenThen_156 ?_
          refine PX.sub [some (.ref 121), none, none, some (.int (I16 121 63)), some (.int (I17 121 62))] ⟨rfl, ⟨rfl, ⟨rfl, trivial⟩⟩⟩ ?_
          obtain ⟨n3, h⟩ := h
          refine L_md_whenThen_158 d g hF (fun I18 R18 hL h => ?_) n3 (I17 121 62) I17 R17 hL h
          exact PX.vret g hF rfl d_md_whenThen_223 hL h
        · have h := h.2 c15
          refine PW.aload_n g rfl rfl d_md_whenThen_46 ?_
          refine PW.iload_n g rfl rfl d_md_whenThen_47 ?_
          refine PW.aload_n g rfl rfl d_md_whenThen_48 ?_
          refine PW.getI g fi_md_371 rfl d_md_whenThen_49 ?_
          refine PX.cVv [.int v2, .int (I16 121 60)] [] g rfl ck_md (c_md_fails d  hL h) cl_md_421 (by omega) (by decide) rfl rfl (Nat.le_of_ble_eq_true rfl) d_md_whenThen_52 (fun I19 R19 hL h => ?_)
          exact PX.vret g hF rfl d_md_whenThen_55 hL h
  · have h := h.2 c1
    refine PW.aload_n g rfl rfl d_md_whenThen_8 ?_
    refine PW.aload_n g rfl rfl d_md_whenThen_9 ?_
    refine PW.getI g fi_md_368 rfl d_md_whenThen_10 ?_
    refine PW.aload_n g rfl rfl d_md_whenThen_13 ?_
    refine PW.getI g fi_md_371 rfl d_md_whenThen_14 ?_
    refine PX.cVv [.int (I1 121 59), .int (I1 121 60)] [] g rfl ck_md (c_md_fails d  hL h) cl_md_421 (by omega) (by decide) rfl rfl (Nat.le_of_ble_eq_true rfl) d_md_whenThen_17 (fun I20 R20 hL h => ?_)
    exact PX.vret g hF rfl d_md_whenThen_20 hL h
def l_md_iterate_60 (f1 : Int32) (K : pI → pR → Prop) (Q : pI → pR → Prop) : Nat → Int32 → pI → pR → Prop
  | 0, _, _, _ => False
  | n + 1, x2, I, R => (((26 : Int32) ≤ x2 → K I R) ∧ (¬ (26 : Int32) ≤ x2 → (vp_in (((26 : Int32) * f1) + x2) 156 ∧ ∀ I9, I9 = pw_wI I 166 (((26 : Int32) * f1) + x2).toNatClampNeg (0 : Int32) → l_md_iterate_60 f1 K Q n (x2 + 1) I9 R)))
set_option maxHeartbeats 4000000 in
set_option maxRecDepth 100000 in
theorem L_md_iterate_60 (d : Nat) {f1 : Int32} {K : pI → pR → Prop} {Q : pI → pR → Prop} {E : pE} {B : pB} (g : pw_G m_md_iterate (d + 9) 0 0 E B) (hF : pX (qv Q) E B) (hK : ∀ (I : pI) (R : pR), pw_Lay R → K  I R → PX E B m_md_iterate.2.2.1 84 [some (.ref 121), some (.int f1), none, none] [] I R) : ∀ (n : Nat) (x2 : Int32) (I : pI) (R : pR), pw_Lay R → l_md_iterate_60 f1 K Q n x2 I R → PX E B m_md_iterate.2.2.1 60 [some (.ref 121), some (.int f1), some (.int x2), none] [] I R := by
  intro n
  induction n with
  | zero => intro x2 I R hL h; exact False.elim h
  | succ n ih =>
    intro x2 I R hL h
    refine PW.iload_n g rfl rfl d_md_iterate_60 ?_
    refine PW.bipush g (26) (by decide) d_md_iterate_61 ?_
    refine PW.icmp_ge g 84 (by decide) d_md_iterate_63 (fun c1 => ?_) (fun c1 => ?_)
    · have h := h.1 c1
      refine PX.sub [some (.ref 121), some (.int f1), none, none] ⟨rfl, ⟨rfl, trivial⟩⟩ ?_
      exact hK _ _ hL h
    · have h := h.2 c1
      refine PW.aload_n g rfl rfl d_md_iterate_66 ?_
      refine PW.getR (q := 166) g fi_md_147 rfl (hL 121 12 74 rfl (by decide)) d_md_iterate_67 ?_
      refine PW.bipush g (26) (by decide) d_md_iterate_70 ?_
      refine PW.iload_n g rfl rfl d_md_iterate_72 ?_
      refine PW.imul g d_md_iterate_73 ?_
      refine PW.iload_n g rfl rfl d_md_iterate_74 ?_
      refine PW.iadd g d_md_iterate_75 ?_
      refine PW.iconst g (0) (by decide) d_md_iterate_76 ?_
      refine PW.iast g rfl h.1 d_md_iterate_77 ?_
      refine PX.gI (fun I9 eI9 => ?_)
      have h := h.2 _ eI9
      refine PW.iinc g rfl (show x2 + Int32.ofInt (1) = (x2 + 1) from congrArg (HAdd.hAdd x2) (by decide)) (by decide) rfl (L' := [some (.ref 121), some (.int f1), some (.int (x2 + 1)), none]) rfl d_md_iterate_78 ?_
      refine PW.goto g 60 (by decide) d_md_iterate_81 ?_
      refine PX.sub [some (.ref 121), some (.int f1), some (.int (x2 + 1)), none] ⟨rfl, ⟨rfl, ⟨rfl, trivial⟩⟩⟩ ?_
      exact ih _ _ _ hL h
def l_md_iterate_156 (f1 : Int32) (f2 : Int32) (K : pI → pR → Prop) (Q : pI → pR → Prop) : Nat → Int32 → pI → pR → Prop
  | 0, _, _, _ => False
  | n + 1, x3, I, R => (vp_in (I 121 10) 2 ∧ (((I 147 (I 121 10).toNatClampNeg) ≤ x3 → K I R) ∧ (¬ (I 147 (I 121 10).toNatClampNeg) ≤ x3 → (vp_in f1 6 ∧ ((¬ (I 163 f1.toNatClampNeg) = 0 → K I R) ∧ ((I 163 f1.toNatClampNeg) = 0 → (vp_in x3 200 ∧ ((¬ (I 131 x3.toNatClampNeg) = (2 : Int32) → l_md_iterate_156 f1 f2 K Q n (x3 + 1) I R) ∧ ((I 131 x3.toNatClampNeg) = (2 : Int32) → (vp_in x3 200 ∧ ((¬ (I 132 x3.toNatClampNeg) = f2 → l_md_iterate_156 f1 f2 K Q n (x3 + 1) I R) ∧ ((I 132 x3.toNatClampNeg) = f2 → (w_md_truly x3 I R (fun I14 R5 => l_md_iterate_156 f1 f2 K Q n (x3 + 1) I14 R5))))))))))))))
set_option maxHeartbeats 4000000 in
set_option maxRecDepth 100000 in
theorem L_md_iterate_156 (d : Nat) {f1 : Int32} {f2 : Int32} {K : pI → pR → Prop} {Q : pI → pR → Prop} {E : pE} {B : pB} (g : pw_G m_md_iterate (d + 9) 0 0 E B) (hF : pX (qv Q) E B) (hK : ∀ (I : pI) (R : pR), pw_Lay R → K  I R → PX E B m_md_iterate.2.2.1 209 [some (.ref 121), some (.int f1), some (.int f2), none] [] I R) : ∀ (n : Nat) (x3 : Int32) (I : pI) (R : pR), pw_Lay R → l_md_iterate_156 f1 f2 K Q n x3 I R → PX E B m_md_iterate.2.2.1 156 [some (.ref 121), some (.int f1), some (.int f2), some (.int x3)] [] I R := by
  intro n
  induction n with
  | zero => intro x3 I R hL h; exact False.elim h
  | succ n ih =>
    intro x3 I R hL h
    refine PW.iload_n g rfl rfl d_md_iterate_156 ?_
    refine PW.aload_n g rfl rfl d_md_iterate_157 ?_
    refine PW.getR (q := 147) g fi_md_85 rfl (hL 121 12 36 rfl (by decide)) d_md_iterate_158 ?_
    refine PW.aload_n g rfl rfl d_md_iterate_161 ?_
    refine PW.getI g fi_md_347 rfl d_md_iterate_162 ?_
    refine PW.iald g rfl h.1 d_md_iterate_165 ?_
    have h := h.2
    refine PW.icmp_ge g 209 (by decide) d_md_iterate_166 (fun c6 => ?_) (fun c6 => ?_)
    · have h := h.1 c6
      refine PX.sub [some (.ref 121), some (.int f1), some (.int f2), none] ⟨rfl, ⟨rfl, ⟨rfl, trivial⟩⟩⟩ ?_
      exact hK _ _ hL h
    · have h := h.2 c6
      refine PW.aload_n g rfl rfl d_md_iterate_169 ?_
      refine PW.getR (q := 163) g fi_md_137 rfl (hL 121 12 71 rfl (by decide)) d_md_iterate_170 ?_
      refine PW.iload_n g rfl rfl d_md_iterate_173 ?_
      refine PW.iald g rfl h.1 d_md_iterate_174 ?_
      have h := h.2
      refine PW.if_ne g 209 (by decide) d_md_iterate_175 (fun c7 => ?_) (fun c7 => ?_)
      · have h := h.1 c7
        refine PX.sub [some (.ref 121), some (.int f1), some (.int f2), none] ⟨rfl, ⟨rfl, ⟨rfl, trivial⟩⟩⟩ ?_
        exact hK _ _ hL h
      · have h := h.2 c7
        refine PW.aload_n g rfl rfl d_md_iterate_178 ?_
        refine PW.getR (q := 131) g fi_md_37 rfl (hL 121 12 16 rfl (by decide)) d_md_iterate_179 ?_
        refine PW.iload_n g rfl rfl d_md_iterate_182 ?_
        refine PW.iald g rfl h.1 d_md_iterate_183 ?_
        have h := h.2
        refine PW.iconst g (2) (by decide) d_md_iterate_184 ?_
        refine PW.icmp_ne g 203 (by decide) d_md_iterate_185 (fun c8 => ?_) (fun c8 => ?_)
        · have h := h.1 c8
          refine PW.iinc g rfl (show x3 + Int32.ofInt (1) = (x3 + 1) from congrArg (HAdd.hAdd x3) (by decide)) (by decide) rfl (L' := [some (.ref 121), some (.int f1), some (.int f2), some (.int (x3 + 1))]) rfl d_md_iterate_203 ?_
          refine PW.goto g 156 (by decide) d_md_iterate_206 ?_
          refine PX.sub [some (.ref 121), some (.int f1), some (.int f2), some (.int (x3 + 1))] ⟨rfl, ⟨rfl, ⟨rfl, ⟨rfl, trivial⟩⟩⟩⟩ ?_
          exact ih _ _ _ hL h
        · have h := h.2 c8
          refine PW.aload_n g rfl rfl d_md_iterate_188 ?_
          refine PW.getR (q := 132) g fi_md_40 rfl (hL 121 12 17 rfl (by decide)) d_md_iterate_189 ?_
          refine PW.iload_n g rfl rfl d_md_iterate_192 ?_
          refine PW.iald g rfl h.1 d_md_iterate_193 ?_
          have h := h.2
          refine PW.iload_n g rfl rfl d_md_iterate_194 ?_
          refine PW.icmp_ne g 203 (by decide) d_md_iterate_195 (fun c9 => ?_) (fun c9 => ?_)
          · have h := h.1 c9
            refine PW.iinc g rfl (show x3 + Int32.ofInt (1) = (x3 + 1) from congrArg (HAdd.hAdd x3) (by decide)) (by decide) rfl (L' := [some (.ref 121), some (.int f1), some (.int f2), some (.int (x3 + 1))]) rfl d_md_iterate_203 ?_
            refine PW.goto g 156 (by decide) d_md_iterate_206 ?_
            refine PX.sub [some (.ref 121), some (.int f1), some (.int f2), some (.int (x3 + 1))] ⟨rfl, ⟨rfl, ⟨rfl, ⟨rfl, trivial⟩⟩⟩⟩ ?_
            exact ih _ _ _ hL h
          · have h := h.2 c9
            refine PW.aload_n g rfl rfl d_md_iterate_198 ?_
            refine PW.iload_n g rfl rfl d_md_iterate_199 ?_
            refine PX.cVv [.int x3] [] g rfl ck_md (c_md_truly d  hL h) cl_md_436 (by omega) (by decide) rfl rfl (Nat.le_of_ble_eq_true rfl) d_md_iterate_200 (fun I14 R5 hL h => ?_)
            refine PW.iinc g rfl (show x3 + Int32.ofInt (1) = (x3 + 1) from congrArg (HAdd.hAdd x3) (by decide)) (by decide) rfl (L' := [some (.ref 121), some (.int f1), some (.int f2), some (.int (x3 + 1))]) rfl d_md_iterate_203 ?_
            refine PW.goto g 156 (by decide) d_md_iterate_206 ?_
            refine PX.sub [some (.ref 121), some (.int f1), some (.int f2), some (.int (x3 + 1))] ⟨rfl, ⟨rfl, ⟨rfl, ⟨rfl, trivial⟩⟩⟩⟩ ?_
            exact ih _ _ _ hL h
def l_md_iterate_109 (f1 : Int32) (K : pI → pR → Prop) (Q : pI → pR → Prop) : Nat → Int32 → pI → pR → Prop
  | 0, _, _, _ => False
  | n + 1, x2, I, R => (vp_in (I 121 10) 2 ∧ (((I 148 (I 121 10).toNatClampNeg) ≤ x2 → K I R) ∧ (¬ (I 148 (I 121 10).toNatClampNeg) ≤ x2 → (vp_in f1 6 ∧ ((¬ (I 163 f1.toNatClampNeg) = 0 → K I R) ∧ ((I 163 f1.toNatClampNeg) = 0 → (w_md_firstItem (3 : Int32) x2 I R (fun v3 I13 R4 => ((v3 < 0 → (∃ n1, l_md_iterate_156 f1 x2 (fun I15 R6 => l_md_iterate_109 f1 K Q n (x2 + 1) I15 R6) Q n1 ((100 : Int32) * (I13 121 10)) I13 R4)) ∧ (¬ v3 < 0 → (w_md_whenThen x2 I13 R4 (fun I16 R7 => l_md_iterate_109 f1 K Q n (x2 + 1) I16 R7))))))))))))
set_option maxHeartbeats 4000000 in
set_option maxRecDepth 100000 in
theorem L_md_iterate_109 (d : Nat) {f1 : Int32} {K : pI → pR → Prop} {Q : pI → pR → Prop} {E : pE} {B : pB} (g : pw_G m_md_iterate (d + 9) 0 0 E B) (hF : pX (qv Q) E B) (hK : ∀ (I : pI) (R : pR), pw_Lay R → K  I R → PX E B m_md_iterate.2.2.1 215 [some (.ref 121), none, none, none] [] I R) : ∀ (n : Nat) (x2 : Int32) (I : pI) (R : pR), pw_Lay R → l_md_iterate_109 f1 K Q n x2 I R → PX E B m_md_iterate.2.2.1 109 [some (.ref 121), some (.int f1), some (.int x2), none] [] I R := by
  intro n
  induction n with
  | zero => intro x2 I R hL h; exact False.elim h
  | succ n ih =>
    intro x2 I R hL h
    refine PW.iload_n g rfl rfl d_md_iterate_109 ?_
    refine PW.aload_n g rfl rfl d_md_iterate_110 ?_
    refine PW.getR (q := 148) g fi_md_88 rfl (hL 121 12 37 rfl (by decide)) d_md_iterate_111 ?_
    refine PW.aload_n g rfl rfl d_md_iterate_114 ?_
    refine PW.getI g fi_md_347 rfl d_md_iterate_115 ?_
    refine PW.iald g rfl h.1 d_md_iterate_118 ?_
    have h := h.2
    refine PW.icmp_ge g 215 (by decide) d_md_iterate_119 (fun c3 => ?_) (fun c3 => ?_)
    · have h := h.1 c3
      refine PX.sub [some (.ref 121), none, none, none] ⟨rfl, trivial⟩ ?_
      exact hK _ _ hL h
    · have h := h.2 c3
      refine PW.aload_n g rfl rfl d_md_iterate_122 ?_
      refine PW.getR (q := 163) g fi_md_137 rfl (hL 121 12 71 rfl (by decide)) d_md_iterate_123 ?_
      refine PW.iload_n g rfl rfl d_md_iterate_126 ?_
      refine PW.iald g rfl h.1 d_md_iterate_127 ?_
      have h := h.2
      refine PW.if_ne g 215 (by decide) d_md_iterate_128 (fun c4 => ?_) (fun c4 => ?_)
      · have h := h.1 c4
        refine PX.sub [some (.ref 121), none, none, none] ⟨rfl, trivial⟩ ?_
        exact hK _ _ hL h
      · have h := h.2 c4
        refine PW.aload_n g rfl rfl d_md_iterate_131 ?_
        refine PW.iconst g (3) (by decide) d_md_iterate_132 ?_
        refine PW.iload_n g rfl rfl d_md_iterate_133 ?_
        refine PX.cVi [.int (3 : Int32), .int x2] [] g rfl ck_md (c_md_firstItem d  hL h) cl_md_433 (by omega) (by decide) rfl rfl (Nat.le_of_ble_eq_true rfl) d_md_iterate_134 (fun v3 I13 R4 hL h => ?_)
        refine PW.if_lt g 148 (by decide) d_md_iterate_137 (fun c5 => ?_) (fun c5 => ?_)
        · have h := h.1 c5
          refine PW.bipush g (100) (by decide) d_md_iterate_148 ?_
          refine PW.aload_n g rfl rfl d_md_iterate_150 ?_
          refine PW.getI g fi_md_347 rfl d_md_iterate_151 ?_
          refine PW.imul g d_md_iterate_154 ?_
          refine PW.istore_n g rfl (L' := [some (.ref 121), some (.int f1), some (.int x2), some (.int ((100 : Int32) * (I13 121 10)))]) (by decide) rfl rfl d_md_iterate_155 ?_
          refine PX.sub [some (.ref 121), some (.int f1), some (.int x2), some (.int ((100 : Int32) * (I13 121 10)))] ⟨rfl, ⟨rfl, ⟨rfl, ⟨rfl, trivial⟩⟩⟩⟩ ?_
          obtain ⟨n1, h⟩ := h
          refine L_md_iterate_156 d g hF (fun I15 R6 hL h => ?_) n1 ((100 : Int32) * (I13 121 10)) I13 R4 hL h
          refine PW.iinc g rfl (show x2 + Int32.ofInt (1) = (x2 + 1) from congrArg (HAdd.hAdd x2) (by decide)) (by decide) rfl (L' := [some (.ref 121), some (.int f1), some (.int (x2 + 1)), none]) rfl d_md_iterate_209 ?_
          refine PW.goto g 109 (by decide) d_md_iterate_212 ?_
          refine PX.sub [some (.ref 121), some (.int f1), some (.int (x2 + 1)), none] ⟨rfl, ⟨rfl, ⟨rfl, trivial⟩⟩⟩ ?_
          exact ih _ _ _ hL h
        · have h := h.2 c5
          refine PW.aload_n g rfl rfl d_md_iterate_140 ?_
          refine PW.iload_n g rfl rfl d_md_iterate_141 ?_
          refine PX.cVv [.int x2] [] g rfl ck_md (c_md_whenThen d  hL h) cl_md_442 (by omega) (by decide) rfl rfl (Nat.le_of_ble_eq_true rfl) d_md_iterate_142 (fun I16 R7 hL h => ?_)
          refine PW.goto g 209 (by decide) d_md_iterate_145 ?_
          refine PW.iinc g rfl (show x2 + Int32.ofInt (1) = (x2 + 1) from congrArg (HAdd.hAdd x2) (by decide)) (by decide) rfl (L' := [some (.ref 121), some (.int f1), some (.int (x2 + 1)), none]) rfl d_md_iterate_209 ?_
          refine PW.goto g 109 (by decide) d_md_iterate_212 ?_
          refine PX.sub [some (.ref 121), some (.int f1), some (.int (x2 + 1)), none] ⟨rfl, ⟨rfl, ⟨rfl, trivial⟩⟩⟩ ?_
          exact ih _ _ _ hL h
def w_md_iterate (a1 : Int32) (I : pI) (R : pR) (Q : pI → pR → Prop) : Prop := (∀ I1, I1 = pw_wI I 121 68 a1 → (∀ I2, I2 = pw_wI I1 121 61 (0 : Int32) → (vp_in a1 6 ∧ ∀ I3, I3 = pw_wI I2 163 a1.toNatClampNeg (0 : Int32) → (vp_in a1 6 ∧ ∀ I4, I4 = pw_wI I3 164 a1.toNatClampNeg (-1 : Int32) → (vp_in a1 6 ∧ ∀ I5, I5 = pw_wI I4 165 a1.toNatClampNeg (vp_nar .boolean (0 : Int32)) → (vp_in a1 6 ∧ ∀ I6, I6 = pw_wI I5 168 a1.toNatClampNeg (-1 : Int32) → (vp_in ((2 : Int32) * a1) 12 ∧ ∀ I7, I7 = pw_wI I6 167 ((2 : Int32) * a1).toNatClampNeg (0 : Int32) → (vp_in (((2 : Int32) * a1) + (1 : Int32)) 12 ∧ ∀ I8, I8 = pw_wI I7 167 (((2 : Int32) * a1) + (1 : Int32)).toNatClampNeg (0 : Int32) → (∃ n3, l_md_iterate_60 a1 (fun I10 R1 => (w_md_steps (9 : Int32) a1 I10 R1 (fun I11 R2 => (vp_in a1 6 ∧ (((I11 163 a1.toNatClampNeg) ≤ 0 → (w_md_steps (1 : Int32) (0 : Int32) I11 R2 (fun I12 R3 => (∃ n2, l_md_iterate_109 a1 (fun I17 R8 => (w_md_steps (8 : Int32) (0 : Int32) I17 R8 (fun I18 R9 => Q I18 R9))) Q n2 (0 : Int32) I12 R3)))) ∧ (¬ (I11 163 a1.toNatClampNeg) ≤ 0 → Q I11 R2)))))) Q n3 (0 : Int32) I8 R)))))))))
set_option maxHeartbeats 4000000 in
set_option maxRecDepth 100000 in
theorem c_md_iterate (d : Nat) {a1 : Int32} {I : pI} {R : pR} {Q : pI → pR → Prop} (hL : pw_Lay R) (h : w_md_iterate a1 I R Q) : Cm (d + 9) m_md_iterate [.ref 121, .int a1] I R (qv Q) := by
  refine Cm.of [some (.ref 121), some (.int a1), none, none] (by decide) rfl (Nat.le_of_ble_eq_true rfl) (by simp) (fun E B g hF => ?_)
  unfold w_md_iterate at h
  refine PW.aload_n g rfl rfl d_md_iterate_0 ?_
  refine PW.iload_n g rfl rfl d_md_iterate_1 ?_
  refine PW.putI g fi_md_374 rfl rfl rfl d_md_iterate_2 ?_
  refine PX.gI (fun I1 eI1 => ?_)
  have h := h _ eI1
  refine PW.aload_n g rfl rfl d_md_iterate_5 ?_
  refine PW.iconst g (0) (by decide) d_md_iterate_6 ?_
  refine PW.putI g fi_md_383 rfl (pw_nb (Or.inl rfl)) (pw_fb (Or.inl rfl)) d_md_iterate_7 ?_
  refine PX.gI (fun I2 eI2 => ?_)
  have h := h _ eI2
  refine PW.aload_n g rfl rfl d_md_iterate_10 ?_
  refine PW.getR (q := 163) g fi_md_137 rfl (hL 121 12 71 rfl (by decide)) d_md_iterate_11 ?_
  refine PW.iload_n g rfl rfl d_md_iterate_14 ?_
  refine PW.iconst g (0) (by decide) d_md_iterate_15 ?_
  refine PW.iast g rfl h.1 d_md_iterate_16 ?_
  refine PX.gI (fun I3 eI3 => ?_)
  have h := h.2 _ eI3
  refine PW.aload_n g rfl rfl d_md_iterate_17 ?_
  refine PW.getR (q := 164) g fi_md_140 rfl (hL 121 12 72 rfl (by decide)) d_md_iterate_18 ?_
  refine PW.iload_n g rfl rfl d_md_iterate_21 ?_
  refine PW.iconst g (-1) (by decide) d_md_iterate_22 ?_
  refine PW.iast g rfl h.1 d_md_iterate_23 ?_
  refine PX.gI (fun I4 eI4 => ?_)
  have h := h.2 _ eI4
  refine PW.aload_n g rfl rfl d_md_iterate_24 ?_
  refine PW.getR (q := 165) g fi_md_143 rfl (hL 121 12 73 rfl (by decide)) d_md_iterate_25 ?_
  refine PW.iload_n g rfl rfl d_md_iterate_28 ?_
  refine PW.iconst g (0) (by decide) d_md_iterate_29 ?_
  refine PW.zast g rfl h.1 d_md_iterate_30 ?_
  refine PX.gI (fun I5 eI5 => ?_)
  have h := h.2 _ eI5
  refine PW.aload_n g rfl rfl d_md_iterate_31 ?_
  refine PW.getR (q := 168) g fi_md_153 rfl (hL 121 12 76 rfl (by decide)) d_md_iterate_32 ?_
  refine PW.iload_n g rfl rfl d_md_iterate_35 ?_
  refine PW.iconst g (-1) (by decide) d_md_iterate_36 ?_
  refine PW.iast g rfl h.1 d_md_iterate_37 ?_
  refine PX.gI (fun I6 eI6 => ?_)
  have h := h.2 _ eI6
  refine PW.aload_n g rfl rfl d_md_iterate_38 ?_
  refine PW.getR (q := 167) g fi_md_150 rfl (hL 121 12 75 rfl (by decide)) d_md_iterate_39 ?_
  refine PW.iconst g (2) (by decide) d_md_iterate_42 ?_
  refine PW.iload_n g rfl rfl d_md_iterate_43 ?_
  refine PW.imul g d_md_iterate_44 ?_
  refine PW.iconst g (0) (by decide) d_md_iterate_45 ?_
  refine PW.iast g rfl h.1 d_md_iterate_46 ?_
  refine PX.gI (fun I7 eI7 => ?_)
  have h := h.2 _ eI7
  refine PW.aload_n g rfl rfl d_md_iterate_47 ?_
  refine PW.getR (q := 167) g fi_md_150 rfl (hL 121 12 75 rfl (by decide)) d_md_iterate_48 ?_
  refine PW.iconst g (2) (by decide) d_md_iterate_51 ?_
  refine PW.iload_n g rfl rfl d_md_iterate_52 ?_
  refine PW.imul g d_md_iterate_53 ?_
  refine PW.iconst g (1) (by decide) d_md_iterate_54 ?_
  refine PW.iadd g d_md_iterate_55 ?_
  refine PW.iconst g (0) (by decide) d_md_iterate_56 ?_
  refine PW.iast g rfl h.1 d_md_iterate_57 ?_
  refine PX.gI (fun I8 eI8 => ?_)
  have h := h.2 _ eI8
  refine PW.iconst g (0) (by decide) d_md_iterate_58 ?_
  refine PW.istore_n g rfl (L' := [some (.ref 121), some (.int a1), some (.int (0 : Int32)), none]) (by decide) rfl rfl d_md_iterate_59 ?_
  refine PX.sub [some (.ref 121), some (.int a1), some (.int (0 : Int32)), none] ⟨rfl, ⟨rfl, ⟨rfl, trivial⟩⟩⟩ ?_
  obtain ⟨n3, h⟩ := h
  refine L_md_iterate_60 d g hF (fun I10 R1 hL h => ?_) n3 (0 : Int32) I8 R hL h
  refine PW.aload_n g rfl rfl d_md_iterate_84 ?_
  refine PW.bipush g (9) (by decide) d_md_iterate_85 ?_
  refine PW.iload_n g rfl rfl d_md_iterate_87 ?_
  refine PX.cVv [.int (9 : Int32), .int a1] [] g rfl ck_md (c_md_steps d  hL h) cl_md_439 (by omega) (by decide) rfl rfl (Nat.le_of_ble_eq_true rfl) d_md_iterate_88 (fun I11 R2 hL h => ?_)
  refine PW.aload_n g rfl rfl d_md_iterate_91 ?_
  refine PW.getR (q := 163) g fi_md_137 rfl (hL 121 12 71 rfl (by decide)) d_md_iterate_92 ?_
  refine PW.iload_n g rfl rfl d_md_iterate_95 ?_
  refine PW.iald g rfl h.1 d_md_iterate_96 ?_
  have h := h.2
  refine PW.if_le g 101 (by decide) d_md_iterate_97 (fun c2 => ?_) (fun c2 => ?_)
  · have h := h.1 c2
    refine PW.aload_n g rfl rfl d_md_iterate_101 ?_
    refine PW.iconst g (1) (by decide) d_md_iterate_102 ?_
    refine PW.iconst g (0) (by decide) d_md_iterate_103 ?_
    refine PX.cVv [.int (1 : Int32), .int (0 : Int32)] [] g rfl ck_md (c_md_steps d  hL h) cl_md_439 (by omega) (by decide) rfl rfl (Nat.le_of_ble_eq_true rfl) d_md_iterate_104 (fun I12 R3 hL h => ?_)
    refine PW.iconst g (0) (by decide) d_md_iterate_107 ?_
    refine PW.istore_n g rfl (L' := [some (.ref 121), some (.int a1), some (.int (0 : Int32)), none]) (by decide) rfl rfl d_md_iterate_108 ?_
    refine PX.sub [some (.ref 121), some (.int a1), some (.int (0 : Int32)), none] ⟨rfl, ⟨rfl, ⟨rfl, trivial⟩⟩⟩ ?_
    obtain ⟨n2, h⟩ := h
    refine L_md_iterate_109 d g hF (fun I17 R8 hL h => ?_) n2 (0 : Int32) I12 R3 hL h
    refine PW.aload_n g rfl rfl d_md_iterate_215 ?_
    refine PW.bipush g (8) (by decide) d_md_iterate_216 ?_
    refine PW.iconst g (0) (by decide) d_md_iterate_218 ?_
    refine PX.cVv [.int (8 : Int32), .int (0 : Int32)] [] g rfl ck_md (c_md_steps d  hL h) cl_md_439 (by omega) (by decide) rfl rfl (Nat.le_of_ble_eq_true rfl) d_md_iterate_219 (fun I18 R9 hL h => ?_)
    exact PX.vret g hF rfl d_md_iterate_222 hL h
  · have h := h.2 c2
    exact PX.vret g hF rfl d_md_iterate_100 hL h
def l_md_run_42 (f1 : Int32) (K : pI → pR → Prop) (Q : Int32 → pI → pR → Prop) : Nat → Int32 → pI → pR → Prop
  | 0, _, _, _ => False
  | n + 1, x2, I, R => (((120 : Int32) ≤ x2 → K I R) ∧ (¬ (120 : Int32) ≤ x2 → (vp_in (((120 : Int32) * (I 121 10)) + x2) 240 ∧ (vp_in x2 120 ∧ ∀ I2, I2 = pw_wI I 162 x2.toNatClampNeg (I 127 (((120 : Int32) * (I 121 10)) + x2).toNatClampNeg) → l_md_run_42 f1 K Q n (x2 + 1) I2 R))))
set_option maxHeartbeats 4000000 in
set_option maxRecDepth 100000 in
theorem L_md_run_42 (d : Nat) {f1 : Int32} {K : pI → pR → Prop} {Q : Int32 → pI → pR → Prop} {E : pE} {B : pB} (g : pw_G m_md_run (d + 10) 0 0 E B) (hF : pX (qi Q) E B) (hK : ∀ (I : pI) (R : pR), pw_Lay R → K  I R → PX E B m_md_run.2.2.1 74 [some (.ref 121), some (.int f1), none] [] I R) : ∀ (n : Nat) (x2 : Int32) (I : pI) (R : pR), pw_Lay R → l_md_run_42 f1 K Q n x2 I R → PX E B m_md_run.2.2.1 42 [some (.ref 121), some (.int f1), some (.int x2)] [] I R := by
  intro n
  induction n with
  | zero => intro x2 I R hL h; exact False.elim h
  | succ n ih =>
    intro x2 I R hL h
    refine PW.iload_n g rfl rfl d_md_run_42 ?_
    refine PW.bipush g (120) (by decide) d_md_run_43 ?_
    refine PW.icmp_ge g 74 (by decide) d_md_run_45 (fun c3 => ?_) (fun c3 => ?_)
    · have h := h.1 c3
      refine PX.sub [some (.ref 121), some (.int f1), none] ⟨rfl, ⟨rfl, trivial⟩⟩ ?_
      exact hK _ _ hL h
    · have h := h.2 c3
      refine PW.aload_n g rfl rfl d_md_run_48 ?_
      refine PW.getR (q := 162) g fi_md_134 rfl (hL 121 12 70 rfl (by decide)) d_md_run_49 ?_
      refine PW.iload_n g rfl rfl d_md_run_52 ?_
      refine PW.aload_n g rfl rfl d_md_run_53 ?_
      refine PW.getR (q := 127) g fi_md_25 rfl (hL 121 12 11 rfl (by decide)) d_md_run_54 ?_
      refine PW.bipush g (120) (by decide) d_md_run_57 ?_
      refine PW.aload_n g rfl rfl d_md_run_59 ?_
      refine PW.getI g fi_md_347 rfl d_md_run_60 ?_
      refine PW.imul g d_md_run_63 ?_
      refine PW.iload_n g rfl rfl d_md_run_64 ?_
      refine PW.iadd g d_md_run_65 ?_
      refine PW.iald g rfl h.1 d_md_run_66 ?_
      have h := h.2
      refine PW.iast g rfl h.1 d_md_run_67 ?_
      refine PX.gI (fun I2 eI2 => ?_)
      have h := h.2 _ eI2
      refine PW.iinc g rfl (show x2 + Int32.ofInt (1) = (x2 + 1) from congrArg (HAdd.hAdd x2) (by decide)) (by decide) rfl (L' := [some (.ref 121), some (.int f1), some (.int (x2 + 1))]) rfl d_md_run_68 ?_
      refine PW.goto g 42 (by decide) d_md_run_71 ?_
      refine PX.sub [some (.ref 121), some (.int f1), some (.int (x2 + 1))] ⟨rfl, ⟨rfl, ⟨rfl, trivial⟩⟩⟩ ?_
      exact ih _ _ _ hL h
def l_md_run_76 (K : Int32 → pI → pR → Prop) (Q : Int32 → pI → pR → Prop) : Nat → Int32 → Int32 → pI → pR → Prop
  | 0, _, _, _, _ => False
  | n + 1, x1, x2, I, R => (((I 121 69) ≤ x2 → K x1 I R) ∧ (¬ (I 121 69) ≤ x2 → (w_md_iterate x2 I R (fun I4 R2 => (vp_in x2 6 ∧ (((I4 163 x2.toNatClampNeg) ≤ 0 → l_md_run_76 K Q n x1 (x2 + 1) I4 R2) ∧ (¬ (I4 163 x2.toNatClampNeg) ≤ 0 → l_md_run_76 K Q n (x1 + (1 : Int32)) (x2 + 1) I4 R2)))))))
set_option maxHeartbeats 4000000 in
set_option maxRecDepth 100000 in
theorem L_md_run_76 (d : Nat) {K : Int32 → pI → pR → Prop} {Q : Int32 → pI → pR → Prop} {E : pE} {B : pB} (g : pw_G m_md_run (d + 10) 0 0 E B) (hF : pX (qi Q) E B) (hK : ∀ (y1 : Int32) (I : pI) (R : pR), pw_Lay R → K y1 I R → PX E B m_md_run.2.2.1 112 [none, some (.int y1), none] [] I R) : ∀ (n : Nat) (x1 : Int32) (x2 : Int32) (I : pI) (R : pR), pw_Lay R → l_md_run_76  K Q n x1 x2 I R → PX E B m_md_run.2.2.1 76 [some (.ref 121), some (.int x1), some (.int x2)] [] I R := by
  intro n
  induction n with
  | zero => intro x1 x2 I R hL h; exact False.elim h
  | succ n ih =>
    intro x1 x2 I R hL h
    refine PW.iload_n g rfl rfl d_md_run_76 ?_
    refine PW.aload_n g rfl rfl d_md_run_77 ?_
    refine PW.getI g fi_md_445 rfl d_md_run_78 ?_
    refine PW.icmp_ge g 112 (by decide) d_md_run_81 (fun c4 => ?_) (fun c4 => ?_)
    · have h := h.1 c4
      refine PX.sub [none, some (.int x1), none] ⟨rfl, trivial⟩ ?_
      exact hK _ _ _ hL h
    · have h := h.2 c4
      refine PW.aload_n g rfl rfl d_md_run_84 ?_
      refine PW.iload_n g rfl rfl d_md_run_85 ?_
      refine PX.cVv [.int x2] [] g rfl ck_md (c_md_iterate d  hL h) cl_md_448 (by omega) (by decide) rfl rfl (Nat.le_of_ble_eq_true rfl) d_md_run_86 (fun I4 R2 hL h => ?_)
      refine PW.aload_n g rfl rfl d_md_run_89 ?_
      refine PW.getR (q := 163) g fi_md_137 rfl (hL 121 12 71 rfl (by decide)) d_md_run_90 ?_
      refine PW.iload_n g rfl rfl d_md_run_93 ?_
      refine PW.iald g rfl h.1 d_md_run_94 ?_
      have h := h.2
      refine PW.if_le g 104 (by decide) d_md_run_95 (fun c5 => ?_) (fun c5 => ?_)
      · have h := h.1 c5
        refine PW.iload_n g rfl rfl d_md_run_104 ?_
        refine PW.istore_n g rfl (L' := [some (.ref 121), some (.int x1), some (.int x2)]) (by decide) rfl rfl d_md_run_105 ?_
        refine PW.iinc g rfl (show x2 + Int32.ofInt (1) = (x2 + 1) from congrArg (HAdd.hAdd x2) (by decide)) (by decide) rfl (L' := [some (.ref 121), some (.int x1), some (.int (x2 + 1))]) rfl d_md_run_106 ?_
        refine PW.goto g 76 (by decide) d_md_run_109 ?_
        refine PX.sub [some (.ref 121), some (.int x1), some (.int (x2 + 1))] ⟨rfl, ⟨rfl, ⟨rfl, trivial⟩⟩⟩ ?_
        exact ih _ _ _ _ hL h
      · have h := h.2 c5
        refine PW.iload_n g rfl rfl d_md_run_98 ?_
        refine PW.iconst g (1) (by decide) d_md_run_99 ?_
        refine PW.iadd g d_md_run_100 ?_
        refine PW.goto g 105 (by decide) d_md_run_101 ?_
        refine PW.istore_n g rfl (L' := [some (.ref 121), some (.int (x1 + (1 : Int32))), some (.int x2)]) (by decide) rfl rfl d_md_run_105 ?_
        refine PW.iinc g rfl (show x2 + Int32.ofInt (1) = (x2 + 1) from congrArg (HAdd.hAdd x2) (by decide)) (by decide) rfl (L' := [some (.ref 121), some (.int (x1 + (1 : Int32))), some (.int (x2 + 1))]) rfl d_md_run_106 ?_
        refine PW.goto g 76 (by decide) d_md_run_109 ?_
        refine PX.sub [some (.ref 121), some (.int (x1 + (1 : Int32))), some (.int (x2 + 1))] ⟨rfl, ⟨rfl, ⟨rfl, trivial⟩⟩⟩ ?_
        exact ih _ _ _ _ hL h
def w_md_run (I : pI) (R : pR) (Q : Int32 → pI → pR → Prop) : Prop := ((¬ (I 121 9) = 0 → (vp_in (I 121 10) 2 ∧ ((¬ (I 149 (I 121 10).toNatClampNeg) = 0 → (vp_in (I 121 10) 2 ∧ (∀ I1, I1 = pw_wI I 121 69 (I 149 (I 121 10).toNatClampNeg) → (∃ n2, l_md_run_42 (0 : Int32) (fun I3 R1 => (∃ n1, l_md_run_76 (fun y1 I5 R3 => Q y1 I5 R3) Q n1 (0 : Int32) (0 : Int32) I3 R1)) Q n2 (0 : Int32) I1 R)))) ∧ ((I 149 (I 121 10).toNatClampNeg) = 0 → (∀ I6, I6 = pw_wI I 121 69 (1 : Int32) → (∃ n4, l_md_run_42 (0 : Int32) (fun I7 R4 => (∃ n3, l_md_run_76 (fun y2 I8 R5 => Q y2 I8 R5) Q n3 (0 : Int32) (0 : Int32) I7 R4)) Q n4 (0 : Int32) I6 R)))))) ∧ ((I 121 9) = 0 → Q (-1 : Int32) I R))
set_option maxHeartbeats 4000000 in
set_option maxRecDepth 100000 in
theorem c_md_run (d : Nat) {I : pI} {R : pR} {Q : Int32 → pI → pR → Prop} (hL : pw_Lay R) (h : w_md_run  I R Q) : Cm (d + 10) m_md_run [.ref 121] I R (qi Q) := by
  refine Cm.of [some (.ref 121), none, none] (by decide) rfl (Nat.le_of_ble_eq_true rfl) (by simp) (fun E B g hF => ?_)
  unfold w_md_run at h
  refine PW.aload_n g rfl rfl d_md_run_0 ?_
  refine PW.getI g fi_md_359 rfl d_md_run_1 ?_
  refine PW.if_ne g 9 (by decide) d_md_run_4 (fun c1 => ?_) (fun c1 => ?_)
  · have h := h.1 c1
    refine PW.iconst g (0) (by decide) d_md_run_9 ?_
    refine PW.istore_n g rfl (L' := [some (.ref 121), some (.int (0 : Int32)), none]) (by decide) rfl rfl d_md_run_10 ?_
    refine PW.aload_n g rfl rfl d_md_run_11 ?_
    refine PW.aload_n g rfl rfl d_md_run_12 ?_
    refine PW.getR (q := 149) g fi_md_91 rfl (hL 121 12 38 rfl (by decide)) d_md_run_13 ?_
    refine PW.aload_n g rfl rfl d_md_run_16 ?_
    refine PW.getI g fi_md_347 rfl d_md_run_17 ?_
    refine PW.iald g rfl h.1 d_md_run_20 ?_
    have h := h.2
    refine PW.if_ne g 28 (by decide) d_md_run_21 (fun c2 => ?_) (fun c2 => ?_)
    · have h := h.1 c2
      refine PW.aload_n g rfl rfl d_md_run_28 ?_
      refine PW.getR (q := 149) g fi_md_91 rfl (hL 121 12 38 rfl (by decide)) d_md_run_29 ?_
      refine PW.aload_n g rfl rfl d_md_run_32 ?_
      refine PW.getI g fi_md_347 rfl d_md_run_33 ?_
      refine PW.iald g rfl h.1 d_md_run_36 ?_
      have h := h.2
      refine PW.putI g fi_md_445 rfl rfl rfl d_md_run_37 ?_
      refine PX.gI (fun I1 eI1 => ?_)
      have h := h _ eI1
      refine PW.iconst g (0) (by decide) d_md_run_40 ?_
      refine PW.istore_n g rfl (L' := [some (.ref 121), some (.int (0 : Int32)), some (.int (0 : Int32))]) (by decide) rfl rfl d_md_run_41 ?_
      refine PX.sub [some (.ref 121), some (.int (0 : Int32)), some (.int (0 : Int32))] ⟨rfl, ⟨rfl, ⟨rfl, trivial⟩⟩⟩ ?_
      obtain ⟨n2, h⟩ := h
      refine L_md_run_42 d g hF (fun I3 R1 hL h => ?_) n2 (0 : Int32) I1 R hL h
      refine PW.iconst g (0) (by decide) d_md_run_74 ?_
      refine PW.istore_n g rfl (L' := [some (.ref 121), some (.int (0 : Int32)), some (.int (0 : Int32))]) (by decide) rfl rfl d_md_run_75 ?_
      refine PX.sub [some (.ref 121), some (.int (0 : Int32)), some (.int (0 : Int32))] ⟨rfl, ⟨rfl, ⟨rfl, trivial⟩⟩⟩ ?_
      obtain ⟨n1, h⟩ := h
      refine L_md_run_76 d g hF (fun y1 I5 R3 hL h => ?_) n1 (0 : Int32) (0 : Int32) I3 R1 hL h
      refine PW.iload_n g rfl rfl d_md_run_112 ?_
      exact PX.iret g hF rfl d_md_run_113 hL h
    · have h := h.2 c2
      refine PW.iconst g (1) (by decide) d_md_run_24 ?_
      refine PW.goto g 37 (by decide) d_md_run_25 ?_
      refine PW.putI g fi_md_445 rfl rfl rfl d_md_run_37 ?_
      refine PX.gI (fun I6 eI6 => ?_)
      have h := h _ eI6
      refine PW.iconst g (0) (by decide) d_md_run_40 ?_
      refine PW.istore_n g rfl (L' := [some (.ref 121), some (.int (0 : Int32)), some (.int (0 : Int32))]) (by decide) rfl rfl d_md_run_41 ?_
      refine PX.sub [some (.ref 121), some (.int (0 : Int32)), some (.int (0 : Int32))] ⟨rfl, ⟨rfl, ⟨rfl, trivial⟩⟩⟩ ?_
      obtain ⟨n4, h⟩ := h
      refine L_md_run_42 d g hF (fun I7 R4 hL h => ?_) n4 (0 : Int32) I6 R hL h
      refine PW.iconst g (0) (by decide) d_md_run_74 ?_
      refine PW.istore_n g rfl (L' := [some (.ref 121), some (.int (0 : Int32)), some (.int (0 : Int32))]) (by decide) rfl rfl d_md_run_75 ?_
      refine PX.sub [some (.ref 121), some (.int (0 : Int32)), some (.int (0 : Int32))] ⟨rfl, ⟨rfl, ⟨rfl, trivial⟩⟩⟩ ?_
      obtain ⟨n3, h⟩ := h
      refine L_md_run_76 d g hF (fun y2 I8 R5 hL h => ?_) n3 (0 : Int32) (0 : Int32) I7 R4 hL h
      refine PW.iload_n g rfl rfl d_md_run_112 ?_
      exact PX.iret g hF rfl d_md_run_113 hL h
  · have h := h.2 c1
    refine PW.iconst g (-1) (by decide) d_md_run_7 ?_
    exact PX.iret g hF rfl d_md_run_8 hL h
def w_md_there (a1 : Int32) (I : pI) (R : pR) (Q : Int32 → pI → pR → Prop) : Prop := ((a1 < 0 → Q (0 : Int32) I R) ∧ (¬ a1 < 0 → (((I 121 69) ≤ a1 → Q (0 : Int32) I R) ∧ (¬ (I 121 69) ≤ a1 → Q (1 : Int32) I R))))
set_option maxHeartbeats 4000000 in
set_option maxRecDepth 100000 in
theorem c_md_there (d : Nat) {a1 : Int32} {I : pI} {R : pR} {Q : Int32 → pI → pR → Prop} (hL : pw_Lay R) (h : w_md_there a1 I R Q) : Cm (d + 1) m_md_there [.ref 121, .int a1] I R (qz Q) := by
  refine Cm.of [some (.ref 121), some (.int a1)] (by decide) rfl (Nat.le_of_ble_eq_true rfl) (by simp) (fun E B g hF => ?_)
  unfold w_md_there at h
  refine PW.iload_n g rfl rfl d_md_there_0 ?_
  refine PW.if_lt g 16 (by decide) d_md_there_1 (fun c1 => ?_) (fun c1 => ?_)
  · have h := h.1 c1
    refine PW.iconst g (0) (by decide) d_md_there_16 ?_
    exact PX.zret g hF rfl (Or.inl rfl) d_md_there_17 hL h
  · have h := h.2 c1
    refine PW.iload_n g rfl rfl d_md_there_4 ?_
    refine PW.aload_n g rfl rfl d_md_there_5 ?_
    refine PW.getI g fi_md_445 rfl d_md_there_6 ?_
    refine PW.icmp_ge g 16 (by decide) d_md_there_9 (fun c2 => ?_) (fun c2 => ?_)
    · have h := h.1 c2
      refine PW.iconst g (0) (by decide) d_md_there_16 ?_
      exact PX.zret g hF rfl (Or.inl rfl) d_md_there_17 hL h
    · have h := h.2 c2
      refine PW.iconst g (1) (by decide) d_md_there_12 ?_
      refine PW.goto g 17 (by decide) d_md_there_13 ?_
      exact PX.zret g hF rfl (Or.inr rfl) d_md_there_17 hL h
def w_md_iterations (I : pI) (R : pR) (Q : Int32 → pI → pR → Prop) : Prop := Q (I 121 69) I R
set_option maxHeartbeats 4000000 in
set_option maxRecDepth 100000 in
theorem c_md_iterations (d : Nat) {I : pI} {R : pR} {Q : Int32 → pI → pR → Prop} (hL : pw_Lay R) (h : w_md_iterations  I R Q) : Cm (d + 1) m_md_iterations [.ref 121] I R (qi Q) := by
  refine Cm.of [some (.ref 121)] (by decide) rfl (Nat.le_of_ble_eq_true rfl) (by simp) (fun E B g hF => ?_)
  unfold w_md_iterations at h
  refine PW.aload_n g rfl rfl d_md_iterations_0 ?_
  refine PW.getI g fi_md_445 rfl d_md_iterations_1 ?_
  exact PX.iret g hF rfl d_md_iterations_4 hL h
def w_md_status (a1 : Int32) (I : pI) (R : pR) (Q : Int32 → pI → pR → Prop) : Prop := (w_md_there a1 I R (fun v1 I1 R1 => ((v1 = 0 → Q (-1 : Int32) I1 R1) ∧ (¬ v1 = 0 → (vp_in a1 6 ∧ Q (I1 163 a1.toNatClampNeg) I1 R1)))))
set_option maxHeartbeats 4000000 in
set_option maxRecDepth 100000 in
theorem c_md_status (d : Nat) {a1 : Int32} {I : pI} {R : pR} {Q : Int32 → pI → pR → Prop} (hL : pw_Lay R) (h : w_md_status a1 I R Q) : Cm (d + 2) m_md_status [.ref 121, .int a1] I R (qi Q) := by
  refine Cm.of [some (.ref 121), some (.int a1)] (by decide) rfl (Nat.le_of_ble_eq_true rfl) (by simp) (fun E B g hF => ?_)
  unfold w_md_status at h
  refine PW.aload_n g rfl rfl d_md_status_0 ?_
  refine PW.iload_n g rfl rfl d_md_status_1 ?_
  refine PX.cVz [.int a1] [] g rfl ck_md (c_md_there d  hL h) cl_md_451 (by omega) (by decide) rfl rfl (Nat.le_of_ble_eq_true rfl) d_md_status_2 (fun v1 I1 R1 hL hzv1 h => ?_)
  refine PW.if_eq g 17 (by decide) d_md_status_5 (fun c1 => ?_) (fun c1 => ?_)
  · have h := h.1 c1
    refine PW.iconst g (-1) (by decide) d_md_status_17 ?_
    exact PX.iret g hF rfl d_md_status_18 hL h
  · have h := h.2 c1
    refine PW.aload_n g rfl rfl d_md_status_8 ?_
    refine PW.getR (q := 163) g fi_md_137 rfl (hL 121 12 71 rfl (by decide)) d_md_status_9 ?_
    refine PW.iload_n g rfl rfl d_md_status_12 ?_
    refine PW.iald g rfl h.1 d_md_status_13 ?_
    have h := h.2
    refine PW.goto g 18 (by decide) d_md_status_14 ?_
    exact PX.iret g hF rfl d_md_status_18 hL h
def w_md_failedAt (a1 : Int32) (I : pI) (R : pR) (Q : Int32 → pI → pR → Prop) : Prop := (w_md_there a1 I R (fun v1 I1 R1 => ((v1 = 0 → Q (-1 : Int32) I1 R1) ∧ (¬ v1 = 0 → (vp_in a1 6 ∧ Q (I1 164 a1.toNatClampNeg) I1 R1)))))
set_option maxHeartbeats 4000000 in
set_option maxRecDepth 100000 in
theorem c_md_failedAt (d : Nat) {a1 : Int32} {I : pI} {R : pR} {Q : Int32 → pI → pR → Prop} (hL : pw_Lay R) (h : w_md_failedAt a1 I R Q) : Cm (d + 2) m_md_failedAt [.ref 121, .int a1] I R (qi Q) := by
  refine Cm.of [some (.ref 121), some (.int a1)] (by decide) rfl (Nat.le_of_ble_eq_true rfl) (by simp) (fun E B g hF => ?_)
  unfold w_md_failedAt at h
  refine PW.aload_n g rfl rfl d_md_failedAt_0 ?_
  refine PW.iload_n g rfl rfl d_md_failedAt_1 ?_
  refine PX.cVz [.int a1] [] g rfl ck_md (c_md_there d  hL h) cl_md_451 (by omega) (by decide) rfl rfl (Nat.le_of_ble_eq_true rfl) d_md_failedAt_2 (fun v1 I1 R1 hL hzv1 h => ?_)
  refine PW.if_eq g 17 (by decide) d_md_failedAt_5 (fun c1 => ?_) (fun c1 => ?_)
  · have h := h.1 c1
    refine PW.iconst g (-1) (by decide) d_md_failedAt_17 ?_
    exact PX.iret g hF rfl d_md_failedAt_18 hL h
  · have h := h.2 c1
    refine PW.aload_n g rfl rfl d_md_failedAt_8 ?_
    refine PW.getR (q := 164) g fi_md_140 rfl (hL 121 12 72 rfl (by decide)) d_md_failedAt_9 ?_
    refine PW.iload_n g rfl rfl d_md_failedAt_12 ?_
    refine PW.iald g rfl h.1 d_md_failedAt_13 ?_
    have h := h.2
    refine PW.goto g 18 (by decide) d_md_failedAt_14 ?_
    exact PX.iret g hF rfl d_md_failedAt_18 hL h
def w_md_second (a1 : Int32) (I : pI) (R : pR) (Q : Int32 → pI → pR → Prop) : Prop := (w_md_there a1 I R (fun v1 I1 R1 => ((v1 = 0 → Q (0 : Int32) I1 R1) ∧ (¬ v1 = 0 → (vp_in a1 6 ∧ (((I1 165 a1.toNatClampNeg) = 0 → Q (0 : Int32) I1 R1) ∧ (¬ (I1 165 a1.toNatClampNeg) = 0 → Q (1 : Int32) I1 R1)))))))
set_option maxHeartbeats 4000000 in
set_option maxRecDepth 100000 in
theorem c_md_second (d : Nat) {a1 : Int32} {I : pI} {R : pR} {Q : Int32 → pI → pR → Prop} (hL : pw_Lay R) (h : w_md_second a1 I R Q) : Cm (d + 2) m_md_second [.ref 121, .int a1] I R (qz Q) := by
  refine Cm.of [some (.ref 121), some (.int a1)] (by decide) rfl (Nat.le_of_ble_eq_true rfl) (by simp) (fun E B g hF => ?_)
  unfold w_md_second at h
  refine PW.aload_n g rfl rfl d_md_second_0 ?_
  refine PW.iload_n g rfl rfl d_md_second_1 ?_
  refine PX.cVz [.int a1] [] g rfl ck_md (c_md_there d  hL h) cl_md_451 (by omega) (by decide) rfl rfl (Nat.le_of_ble_eq_true rfl) d_md_second_2 (fun v1 I1 R1 hL hzv1 h => ?_)
  refine PW.if_eq g 21 (by decide) d_md_second_5 (fun c1 => ?_) (fun c1 => ?_)
  · have h := h.1 c1
    refine PW.iconst g (0) (by decide) d_md_second_21 ?_
    exact PX.zret g hF rfl (Or.inl rfl) d_md_second_22 hL h
  · have h := h.2 c1
    refine PW.aload_n g rfl rfl d_md_second_8 ?_
    refine PW.getR (q := 165) g fi_md_143 rfl (hL 121 12 73 rfl (by decide)) d_md_second_9 ?_
    refine PW.iload_n g rfl rfl d_md_second_12 ?_
    refine PW.zald g rfl h.1 d_md_second_13 ?_
    have h := h.2
    refine PW.if_eq g 21 (by decide) d_md_second_14 (fun c2 => ?_) (fun c2 => ?_)
    · have h := h.1 c2
      refine PW.iconst g (0) (by decide) d_md_second_21 ?_
      exact PX.zret g hF rfl (Or.inl rfl) d_md_second_22 hL h
    · have h := h.2 c2
      refine PW.iconst g (1) (by decide) d_md_second_17 ?_
      refine PW.goto g 22 (by decide) d_md_second_18 ?_
      exact PX.zret g hF rfl (Or.inr rfl) d_md_second_22 hL h
def w_md_variable (a1 : Int32) (a2 : Int32) (I : pI) (R : pR) (Q : Int32 → pI → pR → Prop) : Prop := (w_md_there a1 I R (fun v1 I1 R1 => ((v1 = 0 → Q (0 : Int32) I1 R1) ∧ (¬ v1 = 0 → ((a2 < 0 → Q (0 : Int32) I1 R1) ∧ (¬ a2 < 0 → (((26 : Int32) ≤ a2 → Q (0 : Int32) I1 R1) ∧ (¬ (26 : Int32) ≤ a2 → (vp_in (((26 : Int32) * a1) + a2) 156 ∧ Q (I1 166 (((26 : Int32) * a1) + a2).toNatClampNeg) I1 R1)))))))))
set_option maxHeartbeats 4000000 in
set_option maxRecDepth 100000 in
theorem c_md_variable (d : Nat) {a1 : Int32} {a2 : Int32} {I : pI} {R : pR} {Q : Int32 → pI → pR → Prop} (hL : pw_Lay R) (h : w_md_variable a1 a2 I R Q) : Cm (d + 2) m_md_variable [.ref 121, .int a1, .int a2] I R (qi Q) := by
  refine Cm.of [some (.ref 121), some (.int a1), some (.int a2)] (by decide) rfl (Nat.le_of_ble_eq_true rfl) (by simp) (fun E B g hF => ?_)
  unfold w_md_variable at h
  refine PW.aload_n g rfl rfl d_md_variable_0 ?_
  refine PW.iload_n g rfl rfl d_md_variable_1 ?_
  refine PX.cVz [.int a1] [] g rfl ck_md (c_md_there d  hL h) cl_md_451 (by omega) (by decide) rfl rfl (Nat.le_of_ble_eq_true rfl) d_md_variable_2 (fun v1 I1 R1 hL hzv1 h => ?_)
  refine PW.if_eq g 32 (by decide) d_md_variable_5 (fun c1 => ?_) (fun c1 => ?_)
  · have h := h.1 c1
    refine PW.iconst g (0) (by decide) d_md_variable_32 ?_
    exact PX.iret g hF rfl d_md_variable_33 hL h
  · have h := h.2 c1
    refine PW.iload_n g rfl rfl d_md_variable_8 ?_
    refine PW.if_lt g 32 (by decide) d_md_variable_9 (fun c2 => ?_) (fun c2 => ?_)
    · have h := h.1 c2
      refine PW.iconst g (0) (by decide) d_md_variable_32 ?_
      exact PX.iret g hF rfl d_md_variable_33 hL h
    · have h := h.2 c2
      refine PW.iload_n g rfl rfl d_md_variable_12 ?_
      refine PW.bipush g (26) (by decide) d_md_variable_13 ?_
      refine PW.icmp_ge g 32 (by decide) d_md_variable_15 (fun c3 => ?_) (fun c3 => ?_)
      · have h := h.1 c3
        refine PW.iconst g (0) (by decide) d_md_variable_32 ?_
        exact PX.iret g hF rfl d_md_variable_33 hL h
      · have h := h.2 c3
        refine PW.aload_n g rfl rfl d_md_variable_18 ?_
        refine PW.getR (q := 166) g fi_md_147 rfl (hL 121 12 74 rfl (by decide)) d_md_variable_19 ?_
        refine PW.bipush g (26) (by decide) d_md_variable_22 ?_
        refine PW.iload_n g rfl rfl d_md_variable_24 ?_
        refine PW.imul g d_md_variable_25 ?_
        refine PW.iload_n g rfl rfl d_md_variable_26 ?_
        refine PW.iadd g d_md_variable_27 ?_
        refine PW.iald g rfl h.1 d_md_variable_28 ?_
        have h := h.2
        refine PW.goto g 33 (by decide) d_md_variable_29 ?_
        exact PX.iret g hF rfl d_md_variable_33 hL h
def w_md_calls (a1 : Int32) (a2 : Int32) (I : pI) (R : pR) (Q : Int32 → pI → pR → Prop) : Prop := (w_md_there a1 I R (fun v1 I1 R1 => ((v1 = 0 → Q (0 : Int32) I1 R1) ∧ (¬ v1 = 0 → ((a2 = 0 → (vp_in (((2 : Int32) * a1) + a2) 12 ∧ Q (I1 167 (((2 : Int32) * a1) + a2).toNatClampNeg) I1 R1)) ∧ (¬ a2 = 0 → ((¬ a2 = (1 : Int32) → Q (0 : Int32) I1 R1) ∧ (a2 = (1 : Int32) → (vp_in (((2 : Int32) * a1) + a2) 12 ∧ Q (I1 167 (((2 : Int32) * a1) + a2).toNatClampNeg) I1 R1)))))))))
set_option maxHeartbeats 4000000 in
set_option maxRecDepth 100000 in
theorem c_md_calls (d : Nat) {a1 : Int32} {a2 : Int32} {I : pI} {R : pR} {Q : Int32 → pI → pR → Prop} (hL : pw_Lay R) (h : w_md_calls a1 a2 I R Q) : Cm (d + 2) m_md_calls [.ref 121, .int a1, .int a2] I R (qi Q) := by
  refine Cm.of [some (.ref 121), some (.int a1), some (.int a2)] (by decide) rfl (Nat.le_of_ble_eq_true rfl) (by simp) (fun E B g hF => ?_)
  unfold w_md_calls at h
  refine PW.aload_n g rfl rfl d_md_calls_0 ?_
  refine PW.iload_n g rfl rfl d_md_calls_1 ?_
  refine PX.cVz [.int a1] [] g rfl ck_md (c_md_there d  hL h) cl_md_451 (by omega) (by decide) rfl rfl (Nat.le_of_ble_eq_true rfl) d_md_calls_2 (fun v1 I1 R1 hL hzv1 h => ?_)
  refine PW.if_eq g 30 (by decide) d_md_calls_5 (fun c1 => ?_) (fun c1 => ?_)
  · have h := h.1 c1
    refine PW.iconst g (0) (by decide) d_md_calls_30 ?_
    exact PX.iret g hF rfl d_md_calls_31 hL h
  · have h := h.2 c1
    refine PW.iload_n g rfl rfl d_md_calls_8 ?_
    refine PW.if_eq g 17 (by decide) d_md_calls_9 (fun c2 => ?_) (fun c2 => ?_)
    · have h := h.1 c2
      refine PW.aload_n g rfl rfl d_md_calls_17 ?_
      refine PW.getR (q := 167) g fi_md_150 rfl (hL 121 12 75 rfl (by decide)) d_md_calls_18 ?_
      refine PW.iconst g (2) (by decide) d_md_calls_21 ?_
      refine PW.iload_n g rfl rfl d_md_calls_22 ?_
      refine PW.imul g d_md_calls_23 ?_
      refine PW.iload_n g rfl rfl d_md_calls_24 ?_
      refine PW.iadd g d_md_calls_25 ?_
      refine PW.iald g rfl h.1 d_md_calls_26 ?_
      have h := h.2
      refine PW.goto g 31 (by decide) d_md_calls_27 ?_
      exact PX.iret g hF rfl d_md_calls_31 hL h
    · have h := h.2 c2
      refine PW.iload_n g rfl rfl d_md_calls_12 ?_
      refine PW.iconst g (1) (by decide) d_md_calls_13 ?_
      refine PW.icmp_ne g 30 (by decide) d_md_calls_14 (fun c3 => ?_) (fun c3 => ?_)
      · have h := h.1 c3
        refine PW.iconst g (0) (by decide) d_md_calls_30 ?_
        exact PX.iret g hF rfl d_md_calls_31 hL h
      · have h := h.2 c3
        refine PW.aload_n g rfl rfl d_md_calls_17 ?_
        refine PW.getR (q := 167) g fi_md_150 rfl (hL 121 12 75 rfl (by decide)) d_md_calls_18 ?_
        refine PW.iconst g (2) (by decide) d_md_calls_21 ?_
        refine PW.iload_n g rfl rfl d_md_calls_22 ?_
        refine PW.imul g d_md_calls_23 ?_
        refine PW.iload_n g rfl rfl d_md_calls_24 ?_
        refine PW.iadd g d_md_calls_25 ?_
        refine PW.iald g rfl h.1 d_md_calls_26 ?_
        have h := h.2
        refine PW.goto g 31 (by decide) d_md_calls_27 ?_
        exact PX.iret g hF rfl d_md_calls_31 hL h
def w_md_values (a1 : Int32) (I : pI) (R : pR) (Q : Int32 → pI → pR → Prop) : Prop := (w_md_there a1 I R (fun v1 I1 R1 => ((v1 = 0 → Q (0 : Int32) I1 R1) ∧ (¬ v1 = 0 → (vp_in a1 6 ∧ (((I1 168 a1.toNatClampNeg) ≤ 0 → Q (0 : Int32) I1 R1) ∧ (¬ (I1 168 a1.toNatClampNeg) ≤ 0 → (vp_in a1 6 ∧ Q (I1 168 a1.toNatClampNeg) I1 R1))))))))
set_option maxHeartbeats 4000000 in
set_option maxRecDepth 100000 in
theorem c_md_values (d : Nat) {a1 : Int32} {I : pI} {R : pR} {Q : Int32 → pI → pR → Prop} (hL : pw_Lay R) (h : w_md_values a1 I R Q) : Cm (d + 2) m_md_values [.ref 121, .int a1] I R (qi Q) := by
  refine Cm.of [some (.ref 121), some (.int a1)] (by decide) rfl (Nat.le_of_ble_eq_true rfl) (by simp) (fun E B g hF => ?_)
  unfold w_md_values at h
  refine PW.aload_n g rfl rfl d_md_values_0 ?_
  refine PW.iload_n g rfl rfl d_md_values_1 ?_
  refine PX.cVz [.int a1] [] g rfl ck_md (c_md_there d  hL h) cl_md_451 (by omega) (by decide) rfl rfl (Nat.le_of_ble_eq_true rfl) d_md_values_2 (fun v1 I1 R1 hL hzv1 h => ?_)
  refine PW.if_eq g 26 (by decide) d_md_values_5 (fun c1 => ?_) (fun c1 => ?_)
  · have h := h.1 c1
    refine PW.iconst g (0) (by decide) d_md_values_26 ?_
    exact PX.iret g hF rfl d_md_values_27 hL h
  · have h := h.2 c1
    refine PW.aload_n g rfl rfl d_md_values_8 ?_
    refine PW.getR (q := 168) g fi_md_153 rfl (hL 121 12 76 rfl (by decide)) d_md_values_9 ?_
    refine PW.iload_n g rfl rfl d_md_values_12 ?_
    refine PW.iald g rfl h.1 d_md_values_13 ?_
    have h := h.2
    refine PW.if_le g 26 (by decide) d_md_values_14 (fun c2 => ?_) (fun c2 => ?_)
    · have h := h.1 c2
      refine PW.iconst g (0) (by decide) d_md_values_26 ?_
      exact PX.iret g hF rfl d_md_values_27 hL h
    · have h := h.2 c2
      refine PW.aload_n g rfl rfl d_md_values_17 ?_
      refine PW.getR (q := 168) g fi_md_153 rfl (hL 121 12 76 rfl (by decide)) d_md_values_18 ?_
      refine PW.iload_n g rfl rfl d_md_values_21 ?_
      refine PW.iald g rfl h.1 d_md_values_22 ?_
      have h := h.2
      refine PW.goto g 27 (by decide) d_md_values_23 ?_
      exact PX.iret g hF rfl d_md_values_27 hL h
def w_md_column (a1 : Int32) (a2 : Int32) (I : pI) (R : pR) (Q : Int32 → pI → pR → Prop) : Prop := ((a2 < 0 → Q (-1 : Int32) I R) ∧ (¬ a2 < 0 → (w_md_values a1 I R (fun v1 I1 R1 => ((v1 ≤ a2 → Q (-1 : Int32) I1 R1) ∧ (¬ v1 ≤ a2 → (vp_in (((120 : Int32) * a1) + a2) 720 ∧ Q (I1 169 (((120 : Int32) * a1) + a2).toNatClampNeg) I1 R1)))))))
set_option maxHeartbeats 4000000 in
set_option maxRecDepth 100000 in
theorem c_md_column (d : Nat) {a1 : Int32} {a2 : Int32} {I : pI} {R : pR} {Q : Int32 → pI → pR → Prop} (hL : pw_Lay R) (h : w_md_column a1 a2 I R Q) : Cm (d + 3) m_md_column [.ref 121, .int a1, .int a2] I R (qi Q) := by
  refine Cm.of [some (.ref 121), some (.int a1), some (.int a2)] (by decide) rfl (Nat.le_of_ble_eq_true rfl) (by simp) (fun E B g hF => ?_)
  unfold w_md_column at h
  refine PW.iload_n g rfl rfl d_md_column_0 ?_
  refine PW.if_lt g 27 (by decide) d_md_column_1 (fun c1 => ?_) (fun c1 => ?_)
  · have h := h.1 c1
    refine PW.iconst g (-1) (by decide) d_md_column_27 ?_
    exact PX.iret g hF rfl d_md_column_28 hL h
  · have h := h.2 c1
    refine PW.iload_n g rfl rfl d_md_column_4 ?_
    refine PW.aload_n g rfl rfl d_md_column_5 ?_
    refine PW.iload_n g rfl rfl d_md_column_6 ?_
    refine PX.cVi [.int a1] [.int a2] g rfl ck_md (c_md_values d  hL h) cl_md_454 (by omega) (by decide) rfl rfl (Nat.le_of_ble_eq_true rfl) d_md_column_7 (fun v1 I1 R1 hL h => ?_)
    refine PW.icmp_ge g 27 (by decide) d_md_column_10 (fun c2 => ?_) (fun c2 => ?_)
    · have h := h.1 c2
      refine PW.iconst g (-1) (by decide) d_md_column_27 ?_
      exact PX.iret g hF rfl d_md_column_28 hL h
    · have h := h.2 c2
      refine PW.aload_n g rfl rfl d_md_column_13 ?_
      refine PW.getR (q := 169) g fi_md_156 rfl (hL 121 12 77 rfl (by decide)) d_md_column_14 ?_
      refine PW.bipush g (120) (by decide) d_md_column_17 ?_
      refine PW.iload_n g rfl rfl d_md_column_19 ?_
      refine PW.imul g d_md_column_20 ?_
      refine PW.iload_n g rfl rfl d_md_column_21 ?_
      refine PW.iadd g d_md_column_22 ?_
      refine PW.iald g rfl h.1 d_md_column_23 ?_
      have h := h.2
      refine PW.goto g 28 (by decide) d_md_column_24 ?_
      exact PX.iret g hF rfl d_md_column_28 hL h
def w_md_value (a1 : Int32) (a2 : Int32) (I : pI) (R : pR) (Q : Int32 → pI → pR → Prop) : Prop := ((a2 < 0 → Q (0 : Int32) I R) ∧ (¬ a2 < 0 → (w_md_values a1 I R (fun v1 I1 R1 => ((v1 ≤ a2 → Q (0 : Int32) I1 R1) ∧ (¬ v1 ≤ a2 → (vp_in (((120 : Int32) * a1) + a2) 720 ∧ Q (I1 170 (((120 : Int32) * a1) + a2).toNatClampNeg) I1 R1)))))))
set_option maxHeartbeats 4000000 in
set_option maxRecDepth 100000 in
theorem c_md_value (d : Nat) {a1 : Int32} {a2 : Int32} {I : pI} {R : pR} {Q : Int32 → pI → pR → Prop} (hL : pw_Lay R) (h : w_md_value a1 a2 I R Q) : Cm (d + 3) m_md_value [.ref 121, .int a1, .int a2] I R (qi Q) := by
  refine Cm.of [some (.ref 121), some (.int a1), some (.int a2)] (by decide) rfl (Nat.le_of_ble_eq_true rfl) (by simp) (fun E B g hF => ?_)
  unfold w_md_value at h
  refine PW.iload_n g rfl rfl d_md_value_0 ?_
  refine PW.if_lt g 27 (by decide) d_md_value_1 (fun c1 => ?_) (fun c1 => ?_)
  · have h := h.1 c1
    refine PW.iconst g (0) (by decide) d_md_value_27 ?_
    exact PX.iret g hF rfl d_md_value_28 hL h
  · have h := h.2 c1
    refine PW.iload_n g rfl rfl d_md_value_4 ?_
    refine PW.aload_n g rfl rfl d_md_value_5 ?_
    refine PW.iload_n g rfl rfl d_md_value_6 ?_
    refine PX.cVi [.int a1] [.int a2] g rfl ck_md (c_md_values d  hL h) cl_md_454 (by omega) (by decide) rfl rfl (Nat.le_of_ble_eq_true rfl) d_md_value_7 (fun v1 I1 R1 hL h => ?_)
    refine PW.icmp_ge g 27 (by decide) d_md_value_10 (fun c2 => ?_) (fun c2 => ?_)
    · have h := h.1 c2
      refine PW.iconst g (0) (by decide) d_md_value_27 ?_
      exact PX.iret g hF rfl d_md_value_28 hL h
    · have h := h.2 c2
      refine PW.aload_n g rfl rfl d_md_value_13 ?_
      refine PW.getR (q := 170) g fi_md_159 rfl (hL 121 12 78 rfl (by decide)) d_md_value_14 ?_
      refine PW.bipush g (120) (by decide) d_md_value_17 ?_
      refine PW.iload_n g rfl rfl d_md_value_19 ?_
      refine PW.imul g d_md_value_20 ?_
      refine PW.iload_n g rfl rfl d_md_value_21 ?_
      refine PW.iadd g d_md_value_22 ?_
      refine PW.iald g rfl h.1 d_md_value_23 ?_
      have h := h.2
      refine PW.goto g 28 (by decide) d_md_value_24 ?_
      exact PX.iret g hF rfl d_md_value_28 hL h
def l_md_width_15 (K : Int32 → pI → pR → Prop) (Q : Int32 → pI → pR → Prop) : Nat → Int32 → Int32 → pI → pR → Prop
  | 0, _, _, _, _ => False
  | n + 1, x1, x2, I, R => ((x2 = 0 → K x1 I R) ∧ (¬ x2 = 0 → l_md_width_15 K Q n (x1 + 1) (x2 / (10 : Int32)) I R))
set_option maxHeartbeats 4000000 in
set_option maxRecDepth 100000 in
theorem L_md_width_15 (d : Nat) {K : Int32 → pI → pR → Prop} {Q : Int32 → pI → pR → Prop} {E : pE} {B : pB} (g : pw_G m_md_width (d + 1) 0 0 E B) (hF : pX (qi Q) E B) (hK : ∀ (y1 : Int32) (I : pI) (R : pR), pw_Lay R → K y1 I R → PX E B m_md_width.2.2.1 30 [none, some (.int y1), none] [] I R) : ∀ (n : Nat) (x1 : Int32) (x2 : Int32) (I : pI) (R : pR), pw_Lay R → l_md_width_15  K Q n x1 x2 I R → PX E B m_md_width.2.2.1 15 [none, some (.int x1), some (.int x2)] [] I R := by
  intro n
  induction n with
  | zero => intro x1 x2 I R hL h; exact False.elim h
  | succ n ih =>
    intro x1 x2 I R hL h
    refine PW.iload_n g rfl rfl d_md_width_15 ?_
    refine PW.if_eq g 30 (by decide) d_md_width_16 (fun c2 => ?_) (fun c2 => ?_)
    · have h := h.1 c2
      refine PX.sub [none, some (.int x1), none] ⟨rfl, trivial⟩ ?_
      exact hK _ _ _ hL h
    · have h := h.2 c2
      refine PW.iload_n g rfl rfl d_md_width_19 ?_
      refine PW.bipush g (10) (by decide) d_md_width_20 ?_
      refine PW.idiv g (by decide) d_md_width_22 ?_
      refine PW.istore_n g rfl (L' := [none, some (.int x1), some (.int (x2 / (10 : Int32)))]) (by decide) rfl rfl d_md_width_23 ?_
      refine PW.iinc g rfl (show x1 + Int32.ofInt (1) = (x1 + 1) from congrArg (HAdd.hAdd x1) (by decide)) (by decide) rfl (L' := [none, some (.int (x1 + 1)), some (.int (x2 / (10 : Int32)))]) rfl d_md_width_24 ?_
      refine PW.goto g 15 (by decide) d_md_width_27 ?_
      refine PX.sub [none, some (.int (x1 + 1)), some (.int (x2 / (10 : Int32)))] ⟨rfl, ⟨rfl, trivial⟩⟩ ?_
      exact ih _ _ _ _ hL h
def w_md_width (a1 : Int32) (I : pI) (R : pR) (Q : Int32 → pI → pR → Prop) : Prop := ((0 ≤ a1 → (∃ n1, l_md_width_15 (fun y1 I1 R1 => Q y1 I1 R1) Q n1 (1 : Int32) (a1 / (10 : Int32)) I R)) ∧ (¬ 0 ≤ a1 → (∃ n2, l_md_width_15 (fun y2 I2 R2 => Q y2 I2 R2) Q n2 (2 : Int32) (a1 / (10 : Int32)) I R)))
set_option maxHeartbeats 4000000 in
set_option maxRecDepth 100000 in
theorem c_md_width (d : Nat) {a1 : Int32} {I : pI} {R : pR} {Q : Int32 → pI → pR → Prop} (hL : pw_Lay R) (h : w_md_width a1 I R Q) : Cm (d + 1) m_md_width [.int a1] I R (qi Q) := by
  refine Cm.of [some (.int a1), none, none] (by decide) rfl (Nat.le_of_ble_eq_true rfl) (by simp) (fun E B g hF => ?_)
  unfold w_md_width at h
  refine PW.iload_n g rfl rfl d_md_width_0 ?_
  refine PW.if_ge g 8 (by decide) d_md_width_1 (fun c1 => ?_) (fun c1 => ?_)
  · have h := h.1 c1
    refine PW.iconst g (1) (by decide) d_md_width_8 ?_
    refine PW.istore_n g rfl (L' := [some (.int a1), some (.int (1 : Int32)), none]) (by decide) rfl rfl d_md_width_9 ?_
    refine PW.iload_n g rfl rfl d_md_width_10 ?_
    refine PW.bipush g (10) (by decide) d_md_width_11 ?_
    refine PW.idiv g (by decide) d_md_width_13 ?_
    refine PW.istore_n g rfl (L' := [some (.int a1), some (.int (1 : Int32)), some (.int (a1 / (10 : Int32)))]) (by decide) rfl rfl d_md_width_14 ?_
    refine PX.sub [none, some (.int (1 : Int32)), some (.int (a1 / (10 : Int32)))] ⟨rfl, ⟨rfl, trivial⟩⟩ ?_
    obtain ⟨n1, h⟩ := h
    refine L_md_width_15 d g hF (fun y1 I1 R1 hL h => ?_) n1 (1 : Int32) (a1 / (10 : Int32)) I R hL h
    refine PW.iload_n g rfl rfl d_md_width_30 ?_
    exact PX.iret g hF rfl d_md_width_31 hL h
  · have h := h.2 c1
    refine PW.iconst g (2) (by decide) d_md_width_4 ?_
    refine PW.goto g 9 (by decide) d_md_width_5 ?_
    refine PW.istore_n g rfl (L' := [some (.int a1), some (.int (2 : Int32)), none]) (by decide) rfl rfl d_md_width_9 ?_
    refine PW.iload_n g rfl rfl d_md_width_10 ?_
    refine PW.bipush g (10) (by decide) d_md_width_11 ?_
    refine PW.idiv g (by decide) d_md_width_13 ?_
    refine PW.istore_n g rfl (L' := [some (.int a1), some (.int (2 : Int32)), some (.int (a1 / (10 : Int32)))]) (by decide) rfl rfl d_md_width_14 ?_
    refine PX.sub [none, some (.int (2 : Int32)), some (.int (a1 / (10 : Int32)))] ⟨rfl, ⟨rfl, trivial⟩⟩ ?_
    obtain ⟨n2, h⟩ := h
    refine L_md_width_15 d g hF (fun y2 I2 R2 hL h => ?_) n2 (2 : Int32) (a1 / (10 : Int32)) I R hL h
    refine PW.iload_n g rfl rfl d_md_width_30 ?_
    exact PX.iret g hF rfl d_md_width_31 hL h
def l_md_digitOf_20 (f1 : Int32) (K : Int32 → pI → pR → Prop) (Q : Int32 → pI → pR → Prop) : Nat → Int32 → Int32 → pI → pR → Prop
  | 0, _, _, _, _ => False
  | n + 1, x2, x3, I, R => ((x3 ≤ f1 → K x2 I R) ∧ (¬ x3 ≤ f1 → l_md_digitOf_20 f1 K Q n (x2 / (10 : Int32)) (x3 + (-1)) I R))
set_option maxHeartbeats 4000000 in
set_option maxRecDepth 100000 in
theorem L_md_digitOf_20 (d : Nat) {f1 : Int32} {K : Int32 → pI → pR → Prop} {Q : Int32 → pI → pR → Prop} {E : pE} {B : pB} (g : pw_G m_md_digitOf (d + 2) 0 0 E B) (hF : pX (qi Q) E B) (hK : ∀ (y2 : Int32) (I : pI) (R : pR), pw_Lay R → K y2 I R → PX E B m_md_digitOf.2.2.1 36 [none, none, some (.int y2), none] [] I R) : ∀ (n : Nat) (x2 : Int32) (x3 : Int32) (I : pI) (R : pR), pw_Lay R → l_md_digitOf_20 f1 K Q n x2 x3 I R → PX E B m_md_digitOf.2.2.1 20 [none, some (.int f1), some (.int x2), some (.int x3)] [] I R := by
  intro n
  induction n with
  | zero => intro x2 x3 I R hL h; exact False.elim h
  | succ n ih =>
    intro x2 x3 I R hL h
    refine PW.iload_n g rfl rfl d_md_digitOf_20 ?_
    refine PW.iload_n g rfl rfl d_md_digitOf_21 ?_
    refine PW.icmp_le g 36 (by decide) d_md_digitOf_22 (fun c2 => ?_) (fun c2 => ?_)
    · have h := h.1 c2
      refine PX.sub [none, none, some (.int x2), none] ⟨rfl, trivial⟩ ?_
      exact hK _ _ _ hL h
    · have h := h.2 c2
      refine PW.iload_n g rfl rfl d_md_digitOf_25 ?_
      refine PW.bipush g (10) (by decide) d_md_digitOf_26 ?_
      refine PW.idiv g (by decide) d_md_digitOf_28 ?_
      refine PW.istore_n g rfl (L' := [none, some (.int f1), some (.int (x2 / (10 : Int32))), some (.int x3)]) (by decide) rfl rfl d_md_digitOf_29 ?_
      refine PW.iinc g rfl (show x3 + Int32.ofInt (-1) = (x3 + (-1)) from congrArg (HAdd.hAdd x3) (by decide)) (by decide) rfl (L' := [none, some (.int f1), some (.int (x2 / (10 : Int32))), some (.int (x3 + (-1)))]) rfl d_md_digitOf_30 ?_
      refine PW.goto g 20 (by decide) d_md_digitOf_33 ?_
      refine PX.sub [none, some (.int f1), some (.int (x2 / (10 : Int32))), some (.int (x3 + (-1)))] ⟨rfl, ⟨rfl, ⟨rfl, trivial⟩⟩⟩ ?_
      exact ih _ _ _ _ hL h
def w_md_digitOf (a1 : Int32) (a2 : Int32) (I : pI) (R : pR) (Q : Int32 → pI → pR → Prop) : Prop := ((0 ≤ a1 → (w_md_width a1 I R (fun v1 I1 R1 => (∃ n1, l_md_digitOf_20 a2 (fun y1 I2 R2 => ((0 ≤ (y1 - y1 / (10 : Int32) * (10 : Int32)) → Q ((48 : Int32) + (y1 - y1 / (10 : Int32) * (10 : Int32))) I2 R2) ∧ (¬ 0 ≤ (y1 - y1 / (10 : Int32) * (10 : Int32)) → Q ((48 : Int32) + (-(y1 - y1 / (10 : Int32) * (10 : Int32)))) I2 R2))) Q n1 a1 (v1 - (1 : Int32)) I1 R1)))) ∧ (¬ 0 ≤ a1 → ((¬ a2 = 0 → (w_md_width a1 I R (fun v2 I3 R3 => (∃ n2, l_md_digitOf_20 a2 (fun y2 I4 R4 => ((0 ≤ (y2 - y2 / (10 : Int32) * (10 : Int32)) → Q ((48 : Int32) + (y2 - y2 / (10 : Int32) * (10 : Int32))) I4 R4) ∧ (¬ 0 ≤ (y2 - y2 / (10 : Int32) * (10 : Int32)) → Q ((48 : Int32) + (-(y2 - y2 / (10 : Int32) * (10 : Int32)))) I4 R4))) Q n2 a1 (v2 - (1 : Int32)) I3 R3)))) ∧ (a2 = 0 → Q (45 : Int32) I R))))
set_option maxHeartbeats 4000000 in
set_option maxRecDepth 100000 in
theorem c_md_digitOf (d : Nat) {a1 : Int32} {a2 : Int32} {I : pI} {R : pR} {Q : Int32 → pI → pR → Prop} (hL : pw_Lay R) (h : w_md_digitOf a1 a2 I R Q) : Cm (d + 2) m_md_digitOf [.int a1, .int a2] I R (qi Q) := by
  refine Cm.of [some (.int a1), some (.int a2), none, none] (by decide) rfl (Nat.le_of_ble_eq_true rfl) (by simp) (fun E B g hF => ?_)
  unfold w_md_digitOf at h
  refine PW.iload_n g rfl rfl d_md_digitOf_0 ?_
  refine PW.if_ge g 11 (by decide) d_md_digitOf_1 (fun c1 => ?_) (fun c1 => ?_)
  · have h := h.1 c1
    refine PW.iload_n g rfl rfl d_md_digitOf_11 ?_
    refine PW.istore_n g rfl (L' := [some (.int a1), some (.int a2), some (.int a1), none]) (by decide) rfl rfl d_md_digitOf_12 ?_
    refine PW.iload_n g rfl rfl d_md_digitOf_13 ?_
    refine PX.cSi [.int a1] [] g (c_md_width d  hL h) cl_md_456 (by omega) (by decide) rfl rfl (Nat.le_of_ble_eq_true rfl) d_md_digitOf_14 (fun v1 I1 R1 hL h => ?_)
    refine PW.iconst g (1) (by decide) d_md_digitOf_17 ?_
    refine PW.isub g d_md_digitOf_18 ?_
    refine PW.istore_n g rfl (L' := [some (.int a1), some (.int a2), some (.int a1), some (.int (v1 - (1 : Int32)))]) (by decide) rfl rfl d_md_digitOf_19 ?_
    refine PX.sub [none, some (.int a2), some (.int a1), some (.int (v1 - (1 : Int32)))] ⟨rfl, ⟨rfl, ⟨rfl, trivial⟩⟩⟩ ?_
    obtain ⟨n1, h⟩ := h
    refine L_md_digitOf_20 d g hF (fun y1 I2 R2 hL h => ?_) n1 a1 (v1 - (1 : Int32)) I1 R1 hL h
    refine PW.iload_n g rfl rfl d_md_digitOf_36 ?_
    refine PW.bipush g (10) (by decide) d_md_digitOf_37 ?_
    refine PW.irem g (by decide) d_md_digitOf_39 ?_
    refine PW.istore_n g rfl (L' := [none, none, some (.int y1), some (.int (y1 - y1 / (10 : Int32) * (10 : Int32)))]) (by decide) rfl rfl d_md_digitOf_40 ?_
    refine PW.bipush g (48) (by decide) d_md_digitOf_41 ?_
    refine PW.iload_n g rfl rfl d_md_digitOf_43 ?_
    refine PW.if_ge g 52 (by decide) d_md_digitOf_44 (fun c3 => ?_) (fun c3 => ?_)
    · have h := h.1 c3
      refine PW.iload_n g rfl rfl d_md_digitOf_52 ?_
      refine PW.iadd g d_md_digitOf_53 ?_
      exact PX.iret g hF rfl d_md_digitOf_54 hL h
    · have h := h.2 c3
      refine PW.iload_n g rfl rfl d_md_digitOf_47 ?_
      refine PW.ineg g d_md_digitOf_48 ?_
      refine PW.goto g 53 (by decide) d_md_digitOf_49 ?_
      refine PW.iadd g d_md_digitOf_53 ?_
      exact PX.iret g hF rfl d_md_digitOf_54 hL h
  · have h := h.2 c1
    refine PW.iload_n g rfl rfl d_md_digitOf_4 ?_
    refine PW.if_ne g 11 (by decide) d_md_digitOf_5 (fun c4 => ?_) (fun c4 => ?_)
    · have h := h.1 c4
      refine PW.iload_n g rfl rfl d_md_digitOf_11 ?_
      refine PW.istore_n g rfl (L' := [some (.int a1), some (.int a2), some (.int a1), none]) (by decide) rfl rfl d_md_digitOf_12 ?_
      refine PW.iload_n g rfl rfl d_md_digitOf_13 ?_
      refine PX.cSi [.int a1] [] g (c_md_width d  hL h) cl_md_456 (by omega) (by decide) rfl rfl (Nat.le_of_ble_eq_true rfl) d_md_digitOf_14 (fun v2 I3 R3 hL h => ?_)
      refine PW.iconst g (1) (by decide) d_md_digitOf_17 ?_
      refine PW.isub g d_md_digitOf_18 ?_
      refine PW.istore_n g rfl (L' := [some (.int a1), some (.int a2), some (.int a1), some (.int (v2 - (1 : Int32)))]) (by decide) rfl rfl d_md_digitOf_19 ?_
      refine PX.sub [none, some (.int a2), some (.int a1), some (.int (v2 - (1 : Int32)))] ⟨rfl, ⟨rfl, ⟨rfl, trivial⟩⟩⟩ ?_
      obtain ⟨n2, h⟩ := h
      refine L_md_digitOf_20 d g hF (fun y2 I4 R4 hL h => ?_) n2 a1 (v2 - (1 : Int32)) I3 R3 hL h
      refine PW.iload_n g rfl rfl d_md_digitOf_36 ?_
      refine PW.bipush g (10) (by decide) d_md_digitOf_37 ?_
      refine PW.irem g (by decide) d_md_digitOf_39 ?_
      refine PW.istore_n g rfl (L' := [none, none, some (.int y2), some (.int (y2 - y2 / (10 : Int32) * (10 : Int32)))]) (by decide) rfl rfl d_md_digitOf_40 ?_
      refine PW.bipush g (48) (by decide) d_md_digitOf_41 ?_
      refine PW.iload_n g rfl rfl d_md_digitOf_43 ?_
      refine PW.if_ge g 52 (by decide) d_md_digitOf_44 (fun c5 => ?_) (fun c5 => ?_)
      · have h := h.1 c5
        refine PW.iload_n g rfl rfl d_md_digitOf_52 ?_
        refine PW.iadd g d_md_digitOf_53 ?_
        exact PX.iret g hF rfl d_md_digitOf_54 hL h
      · have h := h.2 c5
        refine PW.iload_n g rfl rfl d_md_digitOf_47 ?_
        refine PW.ineg g d_md_digitOf_48 ?_
        refine PW.goto g 53 (by decide) d_md_digitOf_49 ?_
        refine PW.iadd g d_md_digitOf_53 ?_
        exact PX.iret g hF rfl d_md_digitOf_54 hL h
    · have h := h.2 c4
      refine PW.bipush g (45) (by decide) d_md_digitOf_8 ?_
      exact PX.iret g hF rfl d_md_digitOf_10 hL h
def l_md_layout_20 (f1 : Int32) (f2 : Int32) (f3 : Int32) (K : pI → pR → Prop) (Q : Int32 → pI → pR → Prop) : Nat → Int32 → pI → pR → Prop
  | 0, _, _, _ => False
  | n + 1, x4, I, R => (((130 : Int32) ≤ x4 → K I R) ∧ (¬ (130 : Int32) ≤ x4 → (vp_in x4 130 ∧ ∀ I1, I1 = pw_wI I 174 x4.toNatClampNeg (100000 : Int32) → l_md_layout_20 f1 f2 f3 K Q n (x4 + 1) I1 R)))
set_option maxHeartbeats 4000000 in
set_option maxRecDepth 100000 in
theorem L_md_layout_20 (d : Nat) {f1 : Int32} {f2 : Int32} {f3 : Int32} {K : pI → pR → Prop} {Q : Int32 → pI → pR → Prop} {E : pE} {B : pB} (g : pw_G m_md_layout (d + 2) 0 0 E B) (hF : pX (qi Q) E B) (hK : ∀ (I : pI) (R : pR), pw_Lay R → K  I R → PX E B m_md_layout.2.2.1 44 [some (.ref 121), some (.int f1), some (.int f2), some (.int f3), none, none, none, none] [] I R) : ∀ (n : Nat) (x4 : Int32) (I : pI) (R : pR), pw_Lay R → l_md_layout_20 f1 f2 f3 K Q n x4 I R → PX E B m_md_layout.2.2.1 20 [some (.ref 121), some (.int f1), some (.int f2), some (.int f3), some (.int x4), none, none, none] [] I R := by
  intro n
  induction n with
  | zero => intro x4 I R hL h; exact False.elim h
  | succ n ih =>
    intro x4 I R hL h
    refine PW.iload g rfl d_md_layout_20 ?_
    refine PW.sipush g (130) (by decide) d_md_layout_22 ?_
    refine PW.icmp_ge g 44 (by decide) d_md_layout_25 (fun c2 => ?_) (fun c2 => ?_)
    · have h := h.1 c2
      refine PX.sub [some (.ref 121), some (.int f1), some (.int f2), some (.int f3), none, none, none, none] ⟨rfl, ⟨rfl, ⟨rfl, ⟨rfl, trivial⟩⟩⟩⟩ ?_
      exact hK _ _ hL h
    · have h := h.2 c2
      refine PW.aload_n g rfl rfl d_md_layout_28 ?_
      refine PW.getR (q := 174) g fi_md_171 rfl (hL 121 12 82 rfl (by decide)) d_md_layout_29 ?_
      refine PW.iload g rfl d_md_layout_32 ?_
      refine PX.ldcw g (100000) (pw_gw 1665 (by decide +kernel) (by decide +kernel)) d_md_layout_34 ?_
      refine PW.iast g rfl h.1 d_md_layout_37 ?_
      refine PX.gI (fun I1 eI1 => ?_)
      have h := h.2 _ eI1
      refine PW.iinc g rfl (show x4 + Int32.ofInt (1) = (x4 + 1) from congrArg (HAdd.hAdd x4) (by decide)) (by decide) rfl (L' := [some (.ref 121), some (.int f1), some (.int f2), some (.int f3), some (.int (x4 + 1)), none, none, none]) rfl d_md_layout_38 ?_
      refine PW.goto g 20 (by decide) d_md_layout_41 ?_
      refine PX.sub [some (.ref 121), some (.int f1), some (.int f2), some (.int f3), some (.int (x4 + 1)), none, none, none] ⟨rfl, ⟨rfl, ⟨rfl, ⟨rfl, ⟨rfl, trivial⟩⟩⟩⟩⟩ ?_
      exact ih _ _ _ hL h
def l_md_layout_91 (f1 : Int32) (f3 : Int32) (f4 : Int32) (f5 : Int32) (f6 : Int32) (K : Int32 → pI → pR → Prop) (Q : Int32 → pI → pR → Prop) : Nat → Int32 → pI → pR → Prop
  | 0, _, _, _ => False
  | n + 1, x7, I, R => (vp_in x7 130 ∧ ((f6 < (I 174 x7.toNatClampNeg) → K x7 I R) ∧ (¬ f6 < (I 174 x7.toNatClampNeg) → (vp_in x7 130 ∧ ∀ I4, I4 = pw_wI I 174 x7.toNatClampNeg f5 → l_md_layout_91 f1 f3 f4 f5 f6 K Q n (x7 + 1) I4 R))))
set_option maxHeartbeats 4000000 in
set_option maxRecDepth 100000 in
theorem L_md_layout_91 (d : Nat) {f1 : Int32} {f3 : Int32} {f4 : Int32} {f5 : Int32} {f6 : Int32} {K : Int32 → pI → pR → Prop} {Q : Int32 → pI → pR → Prop} {E : pE} {B : pB} (g : pw_G m_md_layout (d + 2) 0 0 E B) (hF : pX (qi Q) E B) (hK : ∀ (y7 : Int32) (I : pI) (R : pR), pw_Lay R → K y7 I R → PX E B m_md_layout.2.2.1 118 [some (.ref 121), some (.int f1), none, some (.int f3), some (.int f4), some (.int f5), none, some (.int y7)] [] I R) : ∀ (n : Nat) (x7 : Int32) (I : pI) (R : pR), pw_Lay R → l_md_layout_91 f1 f3 f4 f5 f6 K Q n x7 I R → PX E B m_md_layout.2.2.1 91 [some (.ref 121), some (.int f1), none, some (.int f3), some (.int f4), some (.int f5), some (.int f6), some (.int x7)] [] I R := by
  intro n
  induction n with
  | zero => intro x7 I R hL h; exact False.elim h
  | succ n ih =>
    intro x7 I R hL h
    refine PW.aload_n g rfl rfl d_md_layout_91 ?_
    refine PW.getR (q := 174) g fi_md_171 rfl (hL 121 12 82 rfl (by decide)) d_md_layout_92 ?_
    refine PW.iload g rfl d_md_layout_95 ?_
    refine PW.iald g rfl h.1 d_md_layout_97 ?_
    have h := h.2
    refine PW.iload g rfl d_md_layout_98 ?_
    refine PW.icmp_gt g 118 (by decide) d_md_layout_100 (fun c4 => ?_) (fun c4 => ?_)
    · have h := h.1 c4
      refine PX.sub [some (.ref 121), some (.int f1), none, some (.int f3), some (.int f4), some (.int f5), none, some (.int x7)] ⟨rfl, ⟨rfl, ⟨rfl, ⟨rfl, ⟨rfl, ⟨rfl, trivial⟩⟩⟩⟩⟩⟩ ?_
      exact hK _ _ _ hL h
    · have h := h.2 c4
      refine PW.aload_n g rfl rfl d_md_layout_103 ?_
      refine PW.getR (q := 174) g fi_md_171 rfl (hL 121 12 82 rfl (by decide)) d_md_layout_104 ?_
      refine PW.iload g rfl d_md_layout_107 ?_
      refine PW.iload g rfl d_md_layout_109 ?_
      refine PW.iast g rfl h.1 d_md_layout_111 ?_
      refine PX.gI (fun I4 eI4 => ?_)
      have h := h.2 _ eI4
      refine PW.iinc g rfl (show x7 + Int32.ofInt (1) = (x7 + 1) from congrArg (HAdd.hAdd x7) (by decide)) (by decide) rfl (L' := [some (.ref 121), some (.int f1), none, some (.int f3), some (.int f4), some (.int f5), some (.int f6), some (.int (x7 + 1))]) rfl d_md_layout_112 ?_
      refine PW.goto g 91 (by decide) d_md_layout_115 ?_
      refine PX.sub [some (.ref 121), some (.int f1), none, some (.int f3), some (.int f4), some (.int f5), some (.int f6), some (.int (x7 + 1))] ⟨rfl, ⟨rfl, ⟨rfl, ⟨rfl, ⟨rfl, ⟨rfl, ⟨rfl, trivial⟩⟩⟩⟩⟩⟩⟩ ?_
      exact ih _ _ _ hL h
def l_md_layout_49 (f1 : Int32) (K : Int32 → pI → pR → Prop) (Q : Int32 → pI → pR → Prop) : Nat → Int32 → Int32 → pI → pR → Prop
  | 0, _, _, _, _ => False
  | n + 1, x3, x4, I, R => ((x4 < 0 → K x3 I R) ∧ (¬ x4 < 0 → (vp_in (((120 : Int32) * f1) + x4) 720 ∧ (vp_in (((120 : Int32) * f1) + x4) 720 ∧ (w_md_width (I 170 (((120 : Int32) * f1) + x4).toNatClampNeg) I R (fun v1 I3 R2 => (∃ n1, l_md_layout_91 f1 x3 x4 (I 169 (((120 : Int32) * f1) + x4).toNatClampNeg) ((I 169 (((120 : Int32) * f1) + x4).toNatClampNeg) + v1) (fun y1 I5 R3 => (vp_in y1 130 ∧ ∀ I6, I6 = pw_wI I5 174 y1.toNatClampNeg (I 169 (((120 : Int32) * f1) + x4).toNatClampNeg) → (vp_in x4 120 ∧ ∀ I7, I7 = pw_wI I6 173 x4.toNatClampNeg y1 → ((y1 < x3 → l_md_layout_49 f1 K Q n x3 (x4 + (-1)) I7 R3) ∧ (¬ y1 < x3 → l_md_layout_49 f1 K Q n (y1 + (1 : Int32)) (x4 + (-1)) I7 R3))))) Q n1 (2 : Int32) I3 R2)))))))
set_option maxHeartbeats 4000000 in
set_option maxRecDepth 100000 in
theorem L_md_layout_49 (d : Nat) {f1 : Int32} {K : Int32 → pI → pR → Prop} {Q : Int32 → pI → pR → Prop} {E : pE} {B : pB} (g : pw_G m_md_layout (d + 2) 0 0 E B) (hF : pX (qi Q) E B) (hK : ∀ (y3 : Int32) (I : pI) (R : pR), pw_Lay R → K y3 I R → PX E B m_md_layout.2.2.1 157 [none, none, none, some (.int y3), none, none, none, none] [] I R) : ∀ (n : Nat) (x3 : Int32) (x4 : Int32) (I : pI) (R : pR), pw_Lay R → l_md_layout_49 f1 K Q n x3 x4 I R → PX E B m_md_layout.2.2.1 49 [some (.ref 121), some (.int f1), none, some (.int x3), some (.int x4), none, none, none] [] I R := by
  intro n
  induction n with
  | zero => intro x3 x4 I R hL h; exact False.elim h
  | succ n ih =>
    intro x3 x4 I R hL h
    refine PW.iload g rfl d_md_layout_49 ?_
    refine PW.if_lt g 157 (by decide) d_md_layout_51 (fun c3 => ?_) (fun c3 => ?_)
    · have h := h.1 c3
      refine PX.sub [none, none, none, some (.int x3), none, none, none, none] ⟨rfl, trivial⟩ ?_
      exact hK _ _ _ hL h
    · have h := h.2 c3
      refine PW.aload_n g rfl rfl d_md_layout_54 ?_
      refine PW.getR (q := 169) g fi_md_156 rfl (hL 121 12 77 rfl (by decide)) d_md_layout_55 ?_
      refine PW.bipush g (120) (by decide) d_md_layout_58 ?_
      refine PW.iload_n g rfl rfl d_md_layout_60 ?_
      refine PW.imul g d_md_layout_61 ?_
      refine PW.iload g rfl d_md_layout_62 ?_
      refine PW.iadd g d_md_layout_64 ?_
      refine PW.iald g rfl h.1 d_md_layout_65 ?_
      have h := h.2
      refine PW.istore g (L' := [some (.ref 121), some (.int f1), none, some (.int x3), some (.int x4), some (.int (I 169 (((120 : Int32) * f1) + x4).toNatClampNeg)), none, none]) (by decide) rfl rfl d_md_layout_66 ?_
      refine PW.iload g rfl d_md_layout_68 ?_
      refine PW.aload_n g rfl rfl d_md_layout_70 ?_
      refine PW.getR (q := 170) g fi_md_159 rfl (hL 121 12 78 rfl (by decide)) d_md_layout_71 ?_
      refine PW.bipush g (120) (by decide) d_md_layout_74 ?_
      refine PW.iload_n g rfl rfl d_md_layout_76 ?_
      refine PW.imul g d_md_layout_77 ?_
      refine PW.iload g rfl d_md_layout_78 ?_
      refine PW.iadd g d_md_layout_80 ?_
      refine PW.iald g rfl h.1 d_md_layout_81 ?_
      have h := h.2
      refine PX.cSi [.int (I 170 (((120 : Int32) * f1) + x4).toNatClampNeg)] [.int (I 169 (((120 : Int32) * f1) + x4).toNatClampNeg)] g (c_md_width d  hL h) cl_md_456 (by omega) (by decide) rfl rfl (Nat.le_of_ble_eq_true rfl) d_md_layout_82 (fun v1 I3 R2 hL h => ?_)
      refine PW.iadd g d_md_layout_85 ?_
      refine PW.istore g (L' := [some (.ref 121), some (.int f1), none, some (.int x3), some (.int x4), some (.int (I 169 (((120 : Int32) * f1) + x4).toNatClampNeg)), some (.int ((I 169 (((120 : Int32) * f1) + x4).toNatClampNeg) + v1)), none]) (by decide) rfl rfl d_md_layout_86 ?_
      refine PW.iconst g (2) (by decide) d_md_layout_88 ?_
      refine PW.istore g (L' := [some (.ref 121), some (.int f1), none, some (.int x3), some (.int x4), some (.int (I 169 (((120 : Int32) * f1) + x4).toNatClampNeg)), some (.int ((I 169 (((120 : Int32) * f1) + x4).toNatClampNeg) + v1)), some (.int (2 : Int32))]) (by decide) rfl rfl d_md_layout_89 ?_
      refine PX.sub [some (.ref 121), some (.int f1), none, some (.int x3), some (.int x4), some (.int (I 169 (((120 : Int32) * f1) + x4).toNatClampNeg)), some (.int ((I 169 (((120 : Int32) * f1) + x4).toNatClampNeg) + v1)), some (.int (2 : Int32))] ⟨rfl, ⟨rfl, ⟨rfl, ⟨rfl, ⟨rfl, ⟨rfl, ⟨rfl, trivial⟩⟩⟩⟩⟩⟩⟩ ?_
      obtain ⟨n1, h⟩ := h
      refine L_md_layout_91 d g hF (fun y1 I5 R3 hL h => ?_) n1 (2 : Int32) I3 R2 hL h
      refine PW.aload_n g rfl rfl d_md_layout_118 ?_
      refine PW.getR (q := 174) g fi_md_171 rfl (hL 121 12 82 rfl (by decide)) d_md_layout_119 ?_
      refine PW.iload g rfl d_md_layout_122 ?_
      refine PW.iload g rfl d_md_layout_124 ?_
      refine PW.iast g rfl h.1 d_md_layout_126 ?_
      refine PX.gI (fun I6 eI6 => ?_)
      have h := h.2 _ eI6
      refine PW.aload_n g rfl rfl d_md_layout_127 ?_
      refine PW.getR (q := 173) g fi_md_168 rfl (hL 121 12 81 rfl (by decide)) d_md_layout_128 ?_
      refine PW.iload g rfl d_md_layout_131 ?_
      refine PW.iload g rfl d_md_layout_133 ?_
      refine PW.iast g rfl h.1 d_md_layout_135 ?_
      refine PX.gI (fun I7 eI7 => ?_)
      have h := h.2 _ eI7
      refine PW.iload g rfl d_md_layout_136 ?_
      refine PW.iload_n g rfl rfl d_md_layout_138 ?_
      refine PW.icmp_lt g 149 (by decide) d_md_layout_139 (fun c5 => ?_) (fun c5 => ?_)
      · have h := h.1 c5
        refine PW.iload_n g rfl rfl d_md_layout_149 ?_
        refine PW.istore_n g rfl (L' := [some (.ref 121), some (.int f1), none, some (.int x3), some (.int x4), some (.int (I 169 (((120 : Int32) * f1) + x4).toNatClampNeg)), none, some (.int y1)]) (by decide) rfl rfl d_md_layout_150 ?_
        refine PW.iinc g rfl (show x4 + Int32.ofInt (-1) = (x4 + (-1)) from congrArg (HAdd.hAdd x4) (by decide)) (by decide) rfl (L' := [some (.ref 121), some (.int f1), none, some (.int x3), some (.int (x4 + (-1))), some (.int (I 169 (((120 : Int32) * f1) + x4).toNatClampNeg)), none, some (.int y1)]) rfl d_md_layout_151 ?_
        refine PW.goto g 49 (by decide) d_md_layout_154 ?_
        refine PX.sub [some (.ref 121), some (.int f1), none, some (.int x3), some (.int (x4 + (-1))), none, none, none] ⟨rfl, ⟨rfl, ⟨rfl, ⟨rfl, trivial⟩⟩⟩⟩ ?_
        exact ih _ _ _ _ hL h
      · have h := h.2 c5
        refine PW.iload g rfl d_md_layout_142 ?_
        refine PW.iconst g (1) (by decide) d_md_layout_144 ?_
        refine PW.iadd g d_md_layout_145 ?_
        refine PW.goto g 150 (by decide) d_md_layout_146 ?_
        refine PW.istore_n g rfl (L' := [some (.ref 121), some (.int f1), none, some (.int (y1 + (1 : Int32))), some (.int x4), some (.int (I 169 (((120 : Int32) * f1) + x4).toNatClampNeg)), none, some (.int y1)]) (by decide) rfl rfl d_md_layout_150 ?_
        refine PW.iinc g rfl (show x4 + Int32.ofInt (-1) = (x4 + (-1)) from congrArg (HAdd.hAdd x4) (by decide)) (by decide) rfl (L' := [some (.ref 121), some (.int f1), none, some (.int (y1 + (1 : Int32))), some (.int (x4 + (-1))), some (.int (I 169 (((120 : Int32) * f1) + x4).toNatClampNeg)), none, some (.int y1)]) rfl d_md_layout_151 ?_
        refine PW.goto g 49 (by decide) d_md_layout_154 ?_
        refine PX.sub [some (.ref 121), some (.int f1), none, some (.int (y1 + (1 : Int32))), some (.int (x4 + (-1))), none, none, none] ⟨rfl, ⟨rfl, ⟨rfl, ⟨rfl, trivial⟩⟩⟩⟩ ?_
        exact ih _ _ _ _ hL h
def w_md_layout (a1 : Int32) (I : pI) (R : pR) (Q : Int32 → pI → pR → Prop) : Prop := (vp_in a1 6 ∧ (((I 168 a1.toNatClampNeg) ≤ 0 → (∃ n3, l_md_layout_20 a1 (I 168 a1.toNatClampNeg) (1 : Int32) (fun I2 R1 => (∃ n2, l_md_layout_49 a1 (fun y2 I8 R4 => Q y2 I8 R4) Q n2 (1 : Int32) ((I 168 a1.toNatClampNeg) - (1 : Int32)) I2 R1)) Q n3 (0 : Int32) I R)) ∧ (¬ (I 168 a1.toNatClampNeg) ≤ 0 → (∃ n5, l_md_layout_20 a1 (I 168 a1.toNatClampNeg) (2 : Int32) (fun I9 R5 => (∃ n4, l_md_layout_49 a1 (fun y3 I10 R6 => Q y3 I10 R6) Q n4 (2 : Int32) ((I 168 a1.toNatClampNeg) - (1 : Int32)) I9 R5)) Q n5 (0 : Int32) I R))))
set_option maxHeartbeats 4000000 in
set_option maxRecDepth 100000 in
theorem c_md_layout (d : Nat) {a1 : Int32} {I : pI} {R : pR} {Q : Int32 → pI → pR → Prop} (hL : pw_Lay R) (h : w_md_layout a1 I R Q) : Cm (d + 2) m_md_layout [.ref 121, .int a1] I R (qi Q) := by
  refine Cm.of [some (.ref 121), some (.int a1), none, none, none, none, none, none] (by decide) rfl (Nat.le_of_ble_eq_true rfl) (by simp) (fun E B g hF => ?_)
  unfold w_md_layout at h
  refine PW.aload_n g rfl rfl d_md_layout_0 ?_
  refine PW.getR (q := 168) g fi_md_153 rfl (hL 121 12 76 rfl (by decide)) d_md_layout_1 ?_
  refine PW.iload_n g rfl rfl d_md_layout_4 ?_
  refine PW.iald g rfl h.1 d_md_layout_5 ?_
  have h := h.2
  refine PW.istore_n g rfl (L' := [some (.ref 121), some (.int a1), some (.int (I 168 a1.toNatClampNeg)), none, none, none, none, none]) (by decide) rfl rfl d_md_layout_6 ?_
  refine PW.iload_n g rfl rfl d_md_layout_7 ?_
  refine PW.if_le g 15 (by decide) d_md_layout_8 (fun c1 => ?_) (fun c1 => ?_)
  · have h := h.1 c1
    refine PW.iconst g (1) (by decide) d_md_layout_15 ?_
    refine PW.istore_n g rfl (L' := [some (.ref 121), some (.int a1), some (.int (I 168 a1.toNatClampNeg)), some (.int (1 : Int32)), none, none, none, none]) (by decide) rfl rfl d_md_layout_16 ?_
    refine PW.iconst g (0) (by decide) d_md_layout_17 ?_
    refine PW.istore g (L' := [some (.ref 121), some (.int a1), some (.int (I 168 a1.toNatClampNeg)), some (.int (1 : Int32)), some (.int (0 : Int32)), none, none, none]) (by decide) rfl rfl d_md_layout_18 ?_
    refine PX.sub [some (.ref 121), some (.int a1), some (.int (I 168 a1.toNatClampNeg)), some (.int (1 : Int32)), some (.int (0 : Int32)), none, none, none] ⟨rfl, ⟨rfl, ⟨rfl, ⟨rfl, ⟨rfl, trivial⟩⟩⟩⟩⟩ ?_
    obtain ⟨n3, h⟩ := h
    refine L_md_layout_20 d g hF (fun I2 R1 hL h => ?_) n3 (0 : Int32) I R hL h
    refine PW.iload_n g rfl rfl d_md_layout_44 ?_
    refine PW.iconst g (1) (by decide) d_md_layout_45 ?_
    refine PW.isub g d_md_layout_46 ?_
    refine PW.istore g (L' := [some (.ref 121), some (.int a1), some (.int (I 168 a1.toNatClampNeg)), some (.int (1 : Int32)), some (.int ((I 168 a1.toNatClampNeg) - (1 : Int32))), none, none, none]) (by decide) rfl rfl d_md_layout_47 ?_
    refine PX.sub [some (.ref 121), some (.int a1), none, some (.int (1 : Int32)), some (.int ((I 168 a1.toNatClampNeg) - (1 : Int32))), none, none, none] ⟨rfl, ⟨rfl, ⟨rfl, ⟨rfl, trivial⟩⟩⟩⟩ ?_
    obtain ⟨n2, h⟩ := h
    refine L_md_layout_49 d g hF (fun y2 I8 R4 hL h => ?_) n2 (1 : Int32) ((I 168 a1.toNatClampNeg) - (1 : Int32)) I2 R1 hL h
    refine PW.iload_n g rfl rfl d_md_layout_157 ?_
    exact PX.iret g hF rfl d_md_layout_158 hL h
  · have h := h.2 c1
    refine PW.iconst g (2) (by decide) d_md_layout_11 ?_
    refine PW.goto g 16 (by decide) d_md_layout_12 ?_
    refine PW.istore_n g rfl (L' := [some (.ref 121), some (.int a1), some (.int (I 168 a1.toNatClampNeg)), some (.int (2 : Int32)), none, none, none, none]) (by decide) rfl rfl d_md_layout_16 ?_
    refine PW.iconst g (0) (by decide) d_md_layout_17 ?_
    refine PW.istore g (L' := [some (.ref 121), some (.int a1), some (.int (I 168 a1.toNatClampNeg)), some (.int (2 : Int32)), some (.int (0 : Int32)), none, none, none]) (by decide) rfl rfl d_md_layout_18 ?_
    refine PX.sub [some (.ref 121), some (.int a1), some (.int (I 168 a1.toNatClampNeg)), some (.int (2 : Int32)), some (.int (0 : Int32)), none, none, none] ⟨rfl, ⟨rfl, ⟨rfl, ⟨rfl, ⟨rfl, trivial⟩⟩⟩⟩⟩ ?_
    obtain ⟨n5, h⟩ := h
    refine L_md_layout_20 d g hF (fun I9 R5 hL h => ?_) n5 (0 : Int32) I R hL h
    refine PW.iload_n g rfl rfl d_md_layout_44 ?_
    refine PW.iconst g (1) (by decide) d_md_layout_45 ?_
    refine PW.isub g d_md_layout_46 ?_
    refine PW.istore g (L' := [some (.ref 121), some (.int a1), some (.int (I 168 a1.toNatClampNeg)), some (.int (2 : Int32)), some (.int ((I 168 a1.toNatClampNeg) - (1 : Int32))), none, none, none]) (by decide) rfl rfl d_md_layout_47 ?_
    refine PX.sub [some (.ref 121), some (.int a1), none, some (.int (2 : Int32)), some (.int ((I 168 a1.toNatClampNeg) - (1 : Int32))), none, none, none] ⟨rfl, ⟨rfl, ⟨rfl, ⟨rfl, trivial⟩⟩⟩⟩ ?_
    obtain ⟨n4, h⟩ := h
    refine L_md_layout_49 d g hF (fun y3 I10 R6 hL h => ?_) n4 (2 : Int32) ((I 168 a1.toNatClampNeg) - (1 : Int32)) I9 R5 hL h
    refine PW.iload_n g rfl rfl d_md_layout_157 ?_
    exact PX.iret g hF rfl d_md_layout_158 hL h
def w_md_lines (a1 : Int32) (I : pI) (R : pR) (Q : Int32 → pI → pR → Prop) : Prop := (w_md_there a1 I R (fun v1 I1 R1 => ((v1 = 0 → Q (0 : Int32) I1 R1) ∧ (¬ v1 = 0 → (vp_in a1 6 ∧ (((I1 168 a1.toNatClampNeg) < 0 → Q (0 : Int32) I1 R1) ∧ (¬ (I1 168 a1.toNatClampNeg) < 0 → (w_md_layout a1 I1 R1 (fun v2 I2 R2 => Q v2 I2 R2)))))))))
set_option maxHeartbeats 4000000 in
set_option maxRecDepth 100000 in
theorem c_md_lines (d : Nat) {a1 : Int32} {I : pI} {R : pR} {Q : Int32 → pI → pR → Prop} (hL : pw_Lay R) (h : w_md_lines a1 I R Q) : Cm (d + 3) m_md_lines [.ref 121, .int a1] I R (qi Q) := by
  refine Cm.of [some (.ref 121), some (.int a1)] (by decide) rfl (Nat.le_of_ble_eq_true rfl) (by simp) (fun E B g hF => ?_)
  unfold w_md_lines at h
  refine PW.aload_n g rfl rfl d_md_lines_0 ?_
  refine PW.iload_n g rfl rfl d_md_lines_1 ?_
  refine PX.cVz [.int a1] [] g rfl ck_md (c_md_there d  hL h) cl_md_451 (by omega) (by decide) rfl rfl (Nat.le_of_ble_eq_true rfl) d_md_lines_2 (fun v1 I1 R1 hL hzv1 h => ?_)
  refine PW.if_eq g 25 (by decide) d_md_lines_5 (fun c1 => ?_) (fun c1 => ?_)
  · have h := h.1 c1
    refine PW.iconst g (0) (by decide) d_md_lines_25 ?_
    exact PX.iret g hF rfl d_md_lines_26 hL h
  · have h := h.2 c1
    refine PW.aload_n g rfl rfl d_md_lines_8 ?_
    refine PW.getR (q := 168) g fi_md_153 rfl (hL 121 12 76 rfl (by decide)) d_md_lines_9 ?_
    refine PW.iload_n g rfl rfl d_md_lines_12 ?_
    refine PW.iald g rfl h.1 d_md_lines_13 ?_
    have h := h.2
    refine PW.if_lt g 25 (by decide) d_md_lines_14 (fun c2 => ?_) (fun c2 => ?_)
    · have h := h.1 c2
      refine PW.iconst g (0) (by decide) d_md_lines_25 ?_
      exact PX.iret g hF rfl d_md_lines_26 hL h
    · have h := h.2 c2
      refine PW.aload_n g rfl rfl d_md_lines_17 ?_
      refine PW.iload_n g rfl rfl d_md_lines_18 ?_
      refine PX.cVi [.int a1] [] g rfl ck_md (c_md_layout d  hL h) cl_md_460 (by omega) (by decide) rfl rfl (Nat.le_of_ble_eq_true rfl) d_md_lines_19 (fun v2 I2 R2 hL h => ?_)
      refine PW.goto g 26 (by decide) d_md_lines_22 ?_
      exact PX.iret g hF rfl d_md_lines_26 hL h
def j_md_drawn_121 (K62 : Int32 → pI → pR → Prop) (Q : Int32 → pI → pR → Prop) (f1 : Int32) (f2 : Int32) (f3 : Int32) (x4 : Int32) (x5 : Int32) (x6 : Int32) (I : pI) (R : pR) : Prop := (vp_in x4 120 ∧ ((¬ f2 = (I 173 x4.toNatClampNeg) → K62 (x4 + 1) I R) ∧ (f2 = (I 173 x4.toNatClampNeg) → ((f3 < x5 → K62 (x4 + 1) I R) ∧ (¬ f3 < x5 → (w_md_width x6 I R (fun v2 I2 R2 => (((x5 + v2) ≤ f3 → K62 (x4 + 1) I2 R2) ∧ (¬ (x5 + v2) ≤ f3 → (w_md_digitOf x6 (f3 - x5) I2 R2 (fun v3 I3 R3 => Q v3 I3 R3)))))))))))
set_option maxHeartbeats 4000000 in
set_option maxRecDepth 100000 in
theorem J_md_drawn_121 (d : Nat) {K62 : Int32 → pI → pR → Prop} {Q : Int32 → pI → pR → Prop} {f1 : Int32} {f2 : Int32} {f3 : Int32} {x4 : Int32} {x5 : Int32} {x6 : Int32} {E : pE} {B : pB} (g : pw_G m_md_drawn (d + 4) 0 0 E B) (hF : pX (qi Q) E B) (hK62 : ∀ (y4 : Int32) (I : pI) (R : pR), pw_Lay R → K62 y4 I R → PX E B m_md_drawn.2.2.1 62 [some (.ref 121), some (.int f1), some (.int f2), some (.int f3), some (.int y4), none, none] [] I R) {I : pI} {R : pR} (hL : pw_Lay R) (h : j_md_drawn_121  K62 Q f1 f2 f3 x4 x5 x6 I R) : PX E B m_md_drawn.2.2.1 121 [some (.ref 121), some (.int f1), some (.int f2), some (.int f3), some (.int x4), some (.int x5), some (.int x6)] [] I R := by
  unfold j_md_drawn_121 at h
  refine PW.iload_n g rfl rfl d_md_drawn_121 ?_
  refine PW.aload_n g rfl rfl d_md_drawn_122 ?_
  refine PW.getR (q := 173) g fi_md_168 rfl (hL 121 12 81 rfl (by decide)) d_md_drawn_123 ?_
  refine PW.iload g rfl d_md_drawn_126 ?_
  refine PW.iald g rfl h.1 d_md_drawn_128 ?_
  have h := h.2
  refine PW.icmp_ne g 160 (by decide) d_md_drawn_129 (fun c7 => ?_) (fun c7 => ?_)
  · have h := h.1 c7
    refine PW.iinc g rfl (show x4 + Int32.ofInt (1) = (x4 + 1) from congrArg (HAdd.hAdd x4) (by decide)) (by decide) rfl (L' := [some (.ref 121), some (.int f1), some (.int f2), some (.int f3), some (.int (x4 + 1)), some (.int x5), some (.int x6)]) rfl d_md_drawn_160 ?_
    refine PW.goto g 62 (by decide) d_md_drawn_163 ?_
    refine PX.sub [some (.ref 121), some (.int f1), some (.int f2), some (.int f3), some (.int (x4 + 1)), none, none] ⟨rfl, ⟨rfl, ⟨rfl, ⟨rfl, ⟨rfl, trivial⟩⟩⟩⟩⟩ ?_
    exact hK62 _ _ _ hL h
  · have h := h.2 c7
    refine PW.iload_n g rfl rfl d_md_drawn_132 ?_
    refine PW.iload g rfl d_md_drawn_133 ?_
    refine PW.icmp_lt g 160 (by decide) d_md_drawn_135 (fun c8 => ?_) (fun c8 => ?_)
    · have h := h.1 c8
      refine PW.iinc g rfl (show x4 + Int32.ofInt (1) = (x4 + 1) from congrArg (HAdd.hAdd x4) (by decide)) (by decide) rfl (L' := [some (.ref 121), some (.int f1), some (.int f2), some (.int f3), some (.int (x4 + 1)), some (.int x5), some (.int x6)]) rfl d_md_drawn_160 ?_
      refine PW.goto g 62 (by decide) d_md_drawn_163 ?_
      refine PX.sub [some (.ref 121), some (.int f1), some (.int f2), some (.int f3), some (.int (x4 + 1)), none, none] ⟨rfl, ⟨rfl, ⟨rfl, ⟨rfl, ⟨rfl, trivial⟩⟩⟩⟩⟩ ?_
      exact hK62 _ _ _ hL h
    · have h := h.2 c8
      refine PW.iload_n g rfl rfl d_md_drawn_138 ?_
      refine PW.iload g rfl d_md_drawn_139 ?_
      refine PW.iload g rfl d_md_drawn_141 ?_
      refine PX.cSi [.int x6] [.int x5, .int f3] g (c_md_width d  hL h) cl_md_456 (by omega) (by decide) rfl rfl (Nat.le_of_ble_eq_true rfl) d_md_drawn_143 (fun v2 I2 R2 hL h => ?_)
      refine PW.iadd g d_md_drawn_146 ?_
      refine PW.icmp_ge g 160 (by decide) d_md_drawn_147 (fun c9 => ?_) (fun c9 => ?_)
      · have h := h.1 c9
        refine PW.iinc g rfl (show x4 + Int32.ofInt (1) = (x4 + 1) from congrArg (HAdd.hAdd x4) (by decide)) (by decide) rfl (L' := [some (.ref 121), some (.int f1), some (.int f2), some (.int f3), some (.int (x4 + 1)), some (.int x5), some (.int x6)]) rfl d_md_drawn_160 ?_
        refine PW.goto g 62 (by decide) d_md_drawn_163 ?_
        refine PX.sub [some (.ref 121), some (.int f1), some (.int f2), some (.int f3), some (.int (x4 + 1)), none, none] ⟨rfl, ⟨rfl, ⟨rfl, ⟨rfl, ⟨rfl, trivial⟩⟩⟩⟩⟩ ?_
        exact hK62 _ _ _ hL h
      · have h := h.2 c9
        refine PW.iload g rfl d_md_drawn_150 ?_
        refine PW.iload_n g rfl rfl d_md_drawn_152 ?_
        refine PW.iload g rfl d_md_drawn_153 ?_
        refine PW.isub g d_md_drawn_155 ?_
        refine PX.cSi [.int x6, .int (f3 - x5)] [] g (c_md_digitOf d  hL h) cl_md_466 (by omega) (by decide) rfl rfl (Nat.le_of_ble_eq_true rfl) d_md_drawn_156 (fun v3 I3 R3 hL h => ?_)
        exact PX.iret g hF rfl d_md_drawn_159 hL h
def l_md_drawn_62 (f1 : Int32) (f2 : Int32) (f3 : Int32) (K : pI → pR → Prop) (Q : Int32 → pI → pR → Prop) : Nat → Int32 → pI → pR → Prop
  | 0, _, _, _ => False
  | n + 1, x4, I, R => (vp_in f1 6 ∧ (((I 168 f1.toNatClampNeg) ≤ x4 → K I R) ∧ (¬ (I 168 f1.toNatClampNeg) ≤ x4 → (vp_in (((120 : Int32) * f1) + x4) 720 ∧ (vp_in (((120 : Int32) * f1) + x4) 720 ∧ (vp_in x4 120 ∧ (((I 173 x4.toNatClampNeg) ≤ f2 → (j_md_drawn_121 (fun y1 I4 R4 => l_md_drawn_62 f1 f2 f3 K Q n y1 I4 R4) Q f1 f2 f3 x4 (I 169 (((120 : Int32) * f1) + x4).toNatClampNeg) (I 170 (((120 : Int32) * f1) + x4).toNatClampNeg) I R)) ∧ (¬ (I 173 x4.toNatClampNeg) ≤ f2 → ((¬ f3 = (I 169 (((120 : Int32) * f1) + x4).toNatClampNeg) → (j_md_drawn_121 (fun y2 I5 R5 => l_md_drawn_62 f1 f2 f3 K Q n y2 I5 R5) Q f1 f2 f3 x4 (I 169 (((120 : Int32) * f1) + x4).toNatClampNeg) (I 170 (((120 : Int32) * f1) + x4).toNatClampNeg) I R)) ∧ (f3 = (I 169 (((120 : Int32) * f1) + x4).toNatClampNeg) → Q (124 : Int32) I R))))))))))
set_option maxHeartbeats 4000000 in
set_option maxRecDepth 100000 in
theorem L_md_drawn_62 (d : Nat) {f1 : Int32} {f2 : Int32} {f3 : Int32} {K : pI → pR → Prop} {Q : Int32 → pI → pR → Prop} {E : pE} {B : pB} (g : pw_G m_md_drawn (d + 4) 0 0 E B) (hF : pX (qi Q) E B) (hK : ∀ (I : pI) (R : pR), pw_Lay R → K  I R → PX E B m_md_drawn.2.2.1 166 [none, none, none, none, none, none, none] [] I R) : ∀ (n : Nat) (x4 : Int32) (I : pI) (R : pR), pw_Lay R → l_md_drawn_62 f1 f2 f3 K Q n x4 I R → PX E B m_md_drawn.2.2.1 62 [some (.ref 121), some (.int f1), some (.int f2), some (.int f3), some (.int x4), none, none] [] I R := by
  intro n
  induction n with
  | zero => intro x4 I R hL h; exact False.elim h
  | succ n ih =>
    intro x4 I R hL h
    refine PW.iload g rfl d_md_drawn_62 ?_
    refine PW.aload_n g rfl rfl d_md_drawn_64 ?_
    refine PW.getR (q := 168) g fi_md_153 rfl (hL 121 12 76 rfl (by decide)) d_md_drawn_65 ?_
    refine PW.iload_n g rfl rfl d_md_drawn_68 ?_
    refine PW.iald g rfl h.1 d_md_drawn_69 ?_
    have h := h.2
    refine PW.icmp_ge g 166 (by decide) d_md_drawn_70 (fun c5 => ?_) (fun c5 => ?_)
    · have h := h.1 c5
      refine PX.sub [none, none, none, none, none, none, none] trivial ?_
      exact hK _ _ hL h
    · have h := h.2 c5
      refine PW.aload_n g rfl rfl d_md_drawn_73 ?_
      refine PW.getR (q := 169) g fi_md_156 rfl (hL 121 12 77 rfl (by decide)) d_md_drawn_74 ?_
      refine PW.bipush g (120) (by decide) d_md_drawn_77 ?_
      refine PW.iload_n g rfl rfl d_md_drawn_79 ?_
      refine PW.imul g d_md_drawn_80 ?_
      refine PW.iload g rfl d_md_drawn_81 ?_
      refine PW.iadd g d_md_drawn_83 ?_
      refine PW.iald g rfl h.1 d_md_drawn_84 ?_
      have h := h.2
      refine PW.istore g (L' := [some (.ref 121), some (.int f1), some (.int f2), some (.int f3), some (.int x4), some (.int (I 169 (((120 : Int32) * f1) + x4).toNatClampNeg)), none]) (by decide) rfl rfl d_md_drawn_85 ?_
      refine PW.aload_n g rfl rfl d_md_drawn_87 ?_
      refine PW.getR (q := 170) g fi_md_159 rfl (hL 121 12 78 rfl (by decide)) d_md_drawn_88 ?_
      refine PW.bipush g (120) (by decide) d_md_drawn_91 ?_
      refine PW.iload_n g rfl rfl d_md_drawn_93 ?_
      refine PW.imul g d_md_drawn_94 ?_
      refine PW.iload g rfl d_md_drawn_95 ?_
      refine PW.iadd g d_md_drawn_97 ?_
      refine PW.iald g rfl h.1 d_md_drawn_98 ?_
      have h := h.2
      refine PW.istore g (L' := [some (.ref 121), some (.int f1), some (.int f2), some (.int f3), some (.int x4), some (.int (I 169 (((120 : Int32) * f1) + x4).toNatClampNeg)), some (.int (I 170 (((120 : Int32) * f1) + x4).toNatClampNeg))]) (by decide) rfl rfl d_md_drawn_99 ?_
      refine PW.iload_n g rfl rfl d_md_drawn_101 ?_
      refine PW.aload_n g rfl rfl d_md_drawn_102 ?_
      refine PW.getR (q := 173) g fi_md_168 rfl (hL 121 12 81 rfl (by decide)) d_md_drawn_103 ?_
      refine PW.iload g rfl d_md_drawn_106 ?_
      refine PW.iald g rfl h.1 d_md_drawn_108 ?_
      have h := h.2
      refine PW.icmp_ge g 121 (by decide) d_md_drawn_109 (fun c6 => ?_) (fun c6 => ?_)
      · have h := h.1 c6
        refine PX.sub [some (.ref 121), some (.int f1), some (.int f2), some (.int f3), some (.int x4), some (.int (I 169 (((120 : Int32) * f1) + x4).toNatClampNeg)), some (.int (I 170 (((120 : Int32) * f1) + x4).toNatClampNeg))] ⟨rfl, ⟨rfl, ⟨rfl, ⟨rfl, ⟨rfl, ⟨rfl, ⟨rfl, trivial⟩⟩⟩⟩⟩⟩⟩ ?_
        refine J_md_drawn_121 d g hF (fun y1 I4 R4 hL h => ?_) hL h
        refine PX.sub [some (.ref 121), some (.int f1), some (.int f2), some (.int f3), some (.int y1), none, none] ⟨rfl, ⟨rfl, ⟨rfl, ⟨rfl, ⟨rfl, trivial⟩⟩⟩⟩⟩ ?_
        exact ih _ _ _ hL h
      · have h := h.2 c6
        refine PW.iload_n g rfl rfl d_md_drawn_112 ?_
        refine PW.iload g rfl d_md_drawn_113 ?_
        refine PW.icmp_ne g 121 (by decide) d_md_drawn_115 (fun c10 => ?_) (fun c10 => ?_)
        · have h := h.1 c10
          refine PX.sub [some (.ref 121), some (.int f1), some (.int f2), some (.int f3), some (.int x4), some (.int (I 169 (((120 : Int32) * f1) + x4).toNatClampNeg)), some (.int (I 170 (((120 : Int32) * f1) + x4).toNatClampNeg))] ⟨rfl, ⟨rfl, ⟨rfl, ⟨rfl, ⟨rfl, ⟨rfl, ⟨rfl, trivial⟩⟩⟩⟩⟩⟩⟩ ?_
          refine J_md_drawn_121 d g hF (fun y2 I5 R5 hL h => ?_) hL h
          refine PX.sub [some (.ref 121), some (.int f1), some (.int f2), some (.int f3), some (.int y2), none, none] ⟨rfl, ⟨rfl, ⟨rfl, ⟨rfl, ⟨rfl, trivial⟩⟩⟩⟩⟩ ?_
          exact ih _ _ _ hL h
        · have h := h.2 c10
          refine PW.bipush g (124) (by decide) d_md_drawn_118 ?_
          exact PX.iret g hF rfl d_md_drawn_120 hL h
def w_md_drawn (a1 : Int32) (a2 : Int32) (a3 : Int32) (I : pI) (R : pR) (Q : Int32 → pI → pR → Prop) : Prop := ((a2 < 0 → Q (0 : Int32) I R) ∧ (¬ a2 < 0 → (w_md_lines a1 I R (fun v1 I1 R1 => ((v1 ≤ a2 → Q (0 : Int32) I1 R1) ∧ (¬ v1 ≤ a2 → ((0 ≤ a3 → ((¬ a2 = 0 → (∃ n1, l_md_drawn_62 a1 a2 a3 (fun I6 R6 => Q (32 : Int32) I6 R6) Q n1 (0 : Int32) I1 R1)) ∧ (a2 = 0 → (vp_in a1 6 ∧ (vp_in a1 6 ∧ ((((I1 172 a1.toNatClampNeg) - (I1 171 a1.toNatClampNeg)) ≤ a3 → Q (32 : Int32) I1 R1) ∧ (¬ ((I1 172 a1.toNatClampNeg) - (I1 171 a1.toNatClampNeg)) ≤ a3 → (vp_in a1 6 ∧ (vp_in ((I1 171 a1.toNatClampNeg) + a3) 120 ∧ Q (I1 162 ((I1 171 a1.toNatClampNeg) + a3).toNatClampNeg) I1 R1))))))))) ∧ (¬ 0 ≤ a3 → Q (0 : Int32) I1 R1))))))))
set_option maxHeartbeats 4000000 in
set_option maxRecDepth 100000 in
theorem c_md_drawn (d : Nat) {a1 : Int32} {a2 : Int32} {a3 : Int32} {I : pI} {R : pR} {Q : Int32 → pI → pR → Prop} (hL : pw_Lay R) (h : w_md_drawn a1 a2 a3 I R Q) : Cm (d + 4) m_md_drawn [.ref 121, .int a1, .int a2, .int a3] I R (qi Q) := by
  refine Cm.of [some (.ref 121), some (.int a1), some (.int a2), some (.int a3), none, none, none] (by decide) rfl (Nat.le_of_ble_eq_true rfl) (by simp) (fun E B g hF => ?_)
  unfold w_md_drawn at h
  refine PW.iload_n g rfl rfl d_md_drawn_0 ?_
  refine PW.if_lt g 17 (by decide) d_md_drawn_1 (fun c1 => ?_) (fun c1 => ?_)
  · have h := h.1 c1
    refine PW.iconst g (0) (by decide) d_md_drawn_17 ?_
    exact PX.iret g hF rfl d_md_drawn_18 hL h
  · have h := h.2 c1
    refine PW.iload_n g rfl rfl d_md_drawn_4 ?_
    refine PW.aload_n g rfl rfl d_md_drawn_5 ?_
    refine PW.iload_n g rfl rfl d_md_drawn_6 ?_
    refine PX.cVi [.int a1] [.int a2] g rfl ck_md (c_md_lines d  hL h) cl_md_463 (by omega) (by decide) rfl rfl (Nat.le_of_ble_eq_true rfl) d_md_drawn_7 (fun v1 I1 R1 hL h => ?_)
    refine PW.icmp_ge g 17 (by decide) d_md_drawn_10 (fun c2 => ?_) (fun c2 => ?_)
    · have h := h.1 c2
      refine PW.iconst g (0) (by decide) d_md_drawn_17 ?_
      exact PX.iret g hF rfl d_md_drawn_18 hL h
    · have h := h.2 c2
      refine PW.iload_n g rfl rfl d_md_drawn_13 ?_
      refine PW.if_ge g 19 (by decide) d_md_drawn_14 (fun c3 => ?_) (fun c3 => ?_)
      · have h := h.1 c3
        refine PW.iload_n g rfl rfl d_md_drawn_19 ?_
        refine PW.if_ne g 59 (by decide) d_md_drawn_20 (fun c4 => ?_) (fun c4 => ?_)
        · have h := h.1 c4
          refine PW.iconst g (0) (by decide) d_md_drawn_59 ?_
          refine PW.istore g (L' := [some (.ref 121), some (.int a1), some (.int a2), some (.int a3), some (.int (0 : Int32)), none, none]) (by decide) rfl rfl d_md_drawn_60 ?_
          refine PX.sub [some (.ref 121), some (.int a1), some (.int a2), some (.int a3), some (.int (0 : Int32)), none, none] ⟨rfl, ⟨rfl, ⟨rfl, ⟨rfl, ⟨rfl, trivial⟩⟩⟩⟩⟩ ?_
          obtain ⟨n1, h⟩ := h
          refine L_md_drawn_62 d g hF (fun I6 R6 hL h => ?_) n1 (0 : Int32) I1 R1 hL h
          refine PW.bipush g (32) (by decide) d_md_drawn_166 ?_
          exact PX.iret g hF rfl d_md_drawn_168 hL h
        · have h := h.2 c4
          refine PW.iload_n g rfl rfl d_md_drawn_23 ?_
          refine PW.aload_n g rfl rfl d_md_drawn_24 ?_
          refine PW.getR (q := 172) g fi_md_165 rfl (hL 121 12 80 rfl (by decide)) d_md_drawn_25 ?_
          refine PW.iload_n g rfl rfl d_md_drawn_28 ?_
          refine PW.iald g rfl h.1 d_md_drawn_29 ?_
          have h := h.2
          refine PW.aload_n g rfl rfl d_md_drawn_30 ?_
          refine PW.getR (q := 171) g fi_md_162 rfl (hL 121 12 79 rfl (by decide)) d_md_drawn_31 ?_
          refine PW.iload_n g rfl rfl d_md_drawn_34 ?_
          refine PW.iald g rfl h.1 d_md_drawn_35 ?_
          have h := h.2
          refine PW.isub g d_md_drawn_36 ?_
          refine PW.icmp_ge g 56 (by decide) d_md_drawn_37 (fun c11 => ?_) (fun c11 => ?_)
          · have h := h.1 c11
            refine PW.bipush g (32) (by decide) d_md_drawn_56 ?_
            exact PX.iret g hF rfl d_md_drawn_58 hL h
          · have h := h.2 c11
            refine PW.aload_n g rfl rfl d_md_drawn_40 ?_
            refine PW.getR (q := 162) g fi_md_134 rfl (hL 121 12 70 rfl (by decide)) d_md_drawn_41 ?_
            refine PW.aload_n g rfl rfl d_md_drawn_44 ?_
            refine PW.getR (q := 171) g fi_md_162 rfl (hL 121 12 79 rfl (by decide)) d_md_drawn_45 ?_
            refine PW.iload_n g rfl rfl d_md_drawn_48 ?_
            refine PW.iald g rfl h.1 d_md_drawn_49 ?_
            have h := h.2
            refine PW.iload_n g rfl rfl d_md_drawn_50 ?_
            refine PW.iadd g d_md_drawn_51 ?_
            refine PW.iald g rfl h.1 d_md_drawn_52 ?_
            have h := h.2
            refine PW.goto g 58 (by decide) d_md_drawn_53 ?_
            exact PX.iret g hF rfl d_md_drawn_58 hL h
      · have h := h.2 c3
        refine PW.iconst g (0) (by decide) d_md_drawn_17 ?_
        exact PX.iret g hF rfl d_md_drawn_18 hL h
