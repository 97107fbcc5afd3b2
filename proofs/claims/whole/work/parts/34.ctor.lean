theorem pw_apl {sh l : pS} {p : Nat} {x : Nat × Nat} (h : sh[p]? = some x) : (sh ++ l)[p]? = some x := by
  rw [List.getElem?_append_left (List.getElem?_eq_some_iff.mp h).1]; exact h
theorem pw_dl {d a b : Nat} (h : a + 1 ≤ b) : d + a + 1 ≤ d + b := by omega
theorem pw_d1 {d b : Nat} (h : 1 ≤ b) : 1 ≤ d + b := by omega
theorem PW.gen {E : pE} {B : pB} {nL mc ms nc ns pc : Nat} {L : List (Option Value)} {S : List Value} {I : pI} {R : pR} {sh : pS} (k : ∀ I1 R1 sh1, I1 = I → R1 = R → sh1 = sh → PW E B nL mc ms nc ns pc L S I1 R1 sh1) : PW E B nL mc ms nc ns pc L S I R sh := k I R sh rfl rfl rfl
theorem pw_len1 {sh : pS} {q : Nat} {x : Nat × Nat} (h : sh.length = q) : (sh ++ [x]).length = q + 1 := by rw [List.length_append, h]; rfl
theorem pw_lenk {sh l : pS} {q n : Nat} (h : sh.length = q) (hn : q + l.length = n) : (sh ++ l).length = n := by rw [List.length_append, h]; exact hn
theorem pw_apn {sh : pS} {q : Nat} {x : Nat × Nat} (h : sh.length = q) : (sh ++ [x])[q]? = some x := by
  subst h; simp
theorem dv_sr : ∀ k, k < 11 → defaultValue (ty_sr k) = if pw_isR 0 k = true then .null else .int 0 := by decide +kernel
theorem dv_ck : ∀ k, k < 4 → defaultValue (ty_ck k) = if pw_isR 1 k = true then .null else .int 0 := by decide +kernel
theorem dv_cd : ∀ k, k < 5 → defaultValue (ty_cd k) = if pw_isR 2 k = true then .null else .int 0 := by decide +kernel
theorem dv_dr : ∀ k, k < 7 → defaultValue (ty_dr k) = if pw_isR 3 k = true then .null else .int 0 := by decide +kernel
theorem dv_ev : ∀ k, k < 13 → defaultValue (ty_ev k) = if pw_isR 4 k = true then .null else .int 0 := by decide +kernel
theorem dv_ft : ∀ k, k < 11 → defaultValue (ty_ft k) = if pw_isR 5 k = true then .null else .int 0 := by decide +kernel
theorem dv_oc : ∀ k, k < 6 → defaultValue (ty_oc k) = if pw_isR 6 k = true then .null else .int 0 := by decide +kernel
theorem dv_ps : ∀ k, k < 5 → defaultValue (ty_ps k) = if pw_isR 7 k = true then .null else .int 0 := by decide +kernel
theorem dv_rl : ∀ k, k < 10 → defaultValue (ty_rl k) = if pw_isR 8 k = true then .null else .int 0 := by decide +kernel
theorem dv_rn : ∀ k, k < 3 → defaultValue (ty_rn k) = if pw_isR 9 k = true then .null else .int 0 := by decide +kernel
theorem dv_st : ∀ k, k < 7 → defaultValue (ty_st k) = if pw_isR 10 k = true then .null else .int 0 := by decide +kernel
theorem dv_tk : ∀ k, k < 6 → defaultValue (ty_tk k) = if pw_isR 11 k = true then .null else .int 0 := by decide +kernel
theorem dv_md : ∀ k, k < 83 → defaultValue (ty_md k) = if pw_isR 12 k = true then .null else .int 0 := by decide +kernel
def kI_ck (p : Nat) (I : pI) : pI := (pw_zI (pw_zI I (p + 1)) (p + 2))
def kR_ck (p : Nat) (R : pR) : pR := (pw_wR (pw_wR R p 0 (some (p + 1))) p 1 (some (p + 2)))
theorem kr_ck {p x : Nat} {R : pR} (h : x < p) : kR_ck p R x = R x := by
  have h0 : x ≠ p := by omega
  have h1 : ∀ k, x ≠ p + k := fun k => by omega
  simp [kR_ck, pw_wR, pw_zR, h0, h1]
def ks_ck : pS := [(1, 26), (1, 26)]
set_option maxHeartbeats 4000000 in
set_option maxRecDepth 100000 in
theorem k_ck_init (d : Nat) {p : Nat} {I : pI} {R : pR} {sh : pS} (hp : sh[p]? = some (0, 1)) (hl : sh.length = p + 1) : Ctr (d + 2) 2 52 m_ck_init [.ref p] I R sh (fun r I1 R1 sh1 => r = none ∧ I1 = kI_ck p I ∧ R1 = kR_ck p R ∧ sh1 = sh ++ ks_ck) := by
  refine Ctr.of [some (.ref p)] (by decide) rfl (Nat.le_of_ble_eq_true rfl) (by simp) (fun E B g hF => ?_)
  refine PW.aload_n g rfl rfl d_ck_init_0 ?_
  refine PW.objInit g (pw_gw 133 (by decide +kernel) (by decide +kernel)) (pw_d1 (by decide)) rfl (Nat.le_of_ble_eq_true rfl) d_ck_init_1 ?_
  refine PW.aload_n g rfl rfl d_ck_init_4 ?_
  refine PW.bipush g (26) (by decide) d_ck_init_5 ?_
  refine PW.newaI (nc := 1) (ns := 26) g 26 (p + 1) hl (by decide) (by decide) (by decide) d_ck_init_7 ?_
  have on_ := pw_apn (x := (1, 26)) hl
  have hp := pw_apl (l := [(1, 26)]) hp
  have o__p_1_ := on_
  have hl := pw_len1 (x := (1, 26)) hl
  refine PW.putFR g fi_ck_9 rfl (fun C_ T_ N_ ty_ h_ => by cases Option.some.inj (ck_ck.1.symm.trans h_.1); exact (pw_gw 134 (by decide +kernel) (by decide +kernel))) (fun C_ T_ N_ ty_ h_ => by cases Option.some.inj (ck_ck.1.symm.trans h_.1); rfl) hp rfl rfl d_ck_init_9 ?_
  refine PW.aload_n g rfl rfl d_ck_init_12 ?_
  refine PW.bipush g (26) (by decide) d_ck_init_13 ?_
  refine PW.newaI (nc := 0) (ns := 0) g 26 (p + 2) hl (by decide) (by decide) (by decide) d_ck_init_15 ?_
  have on_ := pw_apn (x := (1, 26)) hl
  have hp := pw_apl (l := [(1, 26)]) hp
  have o__p_1_ := pw_apl (l := [(1, 26)]) o__p_1_
  have o__p_2_ := on_
  have hl := pw_len1 (x := (1, 26)) hl
  refine PW.putFR g fi_ck_15 rfl (fun C_ T_ N_ ty_ h_ => by cases Option.some.inj (ck_ck.1.symm.trans h_.1); exact (pw_gw 135 (by decide +kernel) (by decide +kernel))) (fun C_ T_ N_ ty_ h_ => by cases Option.some.inj (ck_ck.1.symm.trans h_.1); rfl) hp rfl rfl d_ck_init_17 ?_
  exact PW.vret g hF rfl d_ck_init_20 ⟨rfl, rfl, rfl, by simp [ks_ck]⟩
def kI_cd (p : Nat) (I : pI) : pI := (pw_zI (pw_zI (pw_zI (pw_zI I (p + 1)) (p + 2)) (p + 3)) (p + 4))
def kR_cd (p : Nat) (R : pR) : pR := (pw_wR (pw_wR (pw_wR (pw_wR R p 0 (some (p + 1))) p 1 (some (p + 2))) p 2 (some (p + 3))) p 3 (some (p + 4)))
theorem kr_cd {p x : Nat} {R : pR} (h : x < p) : kR_cd p R x = R x := by
  have h0 : x ≠ p := by omega
  have h1 : ∀ k, x ≠ p + k := fun k => by omega
  simp [kR_cd, pw_wR, pw_zR, h0, h1]
def ks_cd : pS := [(1, 120), (1, 120), (1, 120), (1, 120)]
set_option maxHeartbeats 4000000 in
set_option maxRecDepth 100000 in
theorem k_cd_init (d : Nat) {p : Nat} {I : pI} {R : pR} {sh : pS} (hp : sh[p]? = some (0, 2)) (hl : sh.length = p + 1) : Ctr (d + 2) 4 480 m_cd_init [.ref p] I R sh (fun r I1 R1 sh1 => r = none ∧ I1 = kI_cd p I ∧ R1 = kR_cd p R ∧ sh1 = sh ++ ks_cd) := by
  refine Ctr.of [some (.ref p)] (by decide) rfl (Nat.le_of_ble_eq_true rfl) (by simp) (fun E B g hF => ?_)
  refine PW.aload_n g rfl rfl d_cd_init_0 ?_
  refine PW.objInit g (pw_gw 228 (by decide +kernel) (by decide +kernel)) (pw_d1 (by decide)) rfl (Nat.le_of_ble_eq_true rfl) d_cd_init_1 ?_
  refine PW.aload_n g rfl rfl d_cd_init_4 ?_
  refine PW.bipush g (120) (by decide) d_cd_init_5 ?_
  refine PW.newaI (nc := 3) (ns := 360) g 120 (p + 1) hl (by decide) (by decide) (by decide) d_cd_init_7 ?_
  have on_ := pw_apn (x := (1, 120)) hl
  have hp := pw_apl (l := [(1, 120)]) hp
  have o__p_1_ := on_
  have hl := pw_len1 (x := (1, 120)) hl
  refine PW.putFR g fi_cd_9 rfl (fun C_ T_ N_ ty_ h_ => by cases Option.some.inj (ck_cd.1.symm.trans h_.1); exact (pw_gw 229 (by decide +kernel) (by decide +kernel))) (fun C_ T_ N_ ty_ h_ => by cases Option.some.inj (ck_cd.1.symm.trans h_.1); rfl) hp rfl rfl d_cd_init_9 ?_
  refine PW.aload_n g rfl rfl d_cd_init_12 ?_
  refine PW.bipush g (120) (by decide) d_cd_init_13 ?_
  refine PW.newaI (nc := 2) (ns := 240) g 120 (p + 2) hl (by decide) (by decide) (by decide) d_cd_init_15 ?_
  have on_ := pw_apn (x := (1, 120)) hl
  have hp := pw_apl (l := [(1, 120)]) hp
  have o__p_1_ := pw_apl (l := [(1, 120)]) o__p_1_
  have o__p_2_ := on_
  have hl := pw_len1 (x := (1, 120)) hl
  refine PW.putFR g fi_cd_15 rfl (fun C_ T_ N_ ty_ h_ => by cases Option.some.inj (ck_cd.1.symm.trans h_.1); exact (pw_gw 233 (by decide +kernel) (by decide +kernel))) (fun C_ T_ N_ ty_ h_ => by cases Option.some.inj (ck_cd.1.symm.trans h_.1); rfl) hp rfl rfl d_cd_init_17 ?_
  refine PW.aload_n g rfl rfl d_cd_init_20 ?_
  refine PW.bipush g (120) (by decide) d_cd_init_21 ?_
  refine PW.newaI (nc := 1) (ns := 120) g 120 (p + 3) hl (by decide) (by decide) (by decide) d_cd_init_23 ?_
  have on_ := pw_apn (x := (1, 120)) hl
  have hp := pw_apl (l := [(1, 120)]) hp
  have o__p_1_ := pw_apl (l := [(1, 120)]) o__p_1_
  have o__p_2_ := pw_apl (l := [(1, 120)]) o__p_2_
  have o__p_3_ := on_
  have hl := pw_len1 (x := (1, 120)) hl
  refine PW.putFR g fi_cd_18 rfl (fun C_ T_ N_ ty_ h_ => by cases Option.some.inj (ck_cd.1.symm.trans h_.1); exact (pw_gw 236 (by decide +kernel) (by decide +kernel))) (fun C_ T_ N_ ty_ h_ => by cases Option.some.inj (ck_cd.1.symm.trans h_.1); rfl) hp rfl rfl d_cd_init_25 ?_
  refine PW.aload_n g rfl rfl d_cd_init_28 ?_
  refine PW.bipush g (120) (by decide) d_cd_init_29 ?_
  refine PW.newaI (nc := 0) (ns := 0) g 120 (p + 4) hl (by decide) (by decide) (by decide) d_cd_init_31 ?_
  have on_ := pw_apn (x := (1, 120)) hl
  have hp := pw_apl (l := [(1, 120)]) hp
  have o__p_1_ := pw_apl (l := [(1, 120)]) o__p_1_
  have o__p_2_ := pw_apl (l := [(1, 120)]) o__p_2_
  have o__p_3_ := pw_apl (l := [(1, 120)]) o__p_3_
  have o__p_4_ := on_
  have hl := pw_len1 (x := (1, 120)) hl
  refine PW.putFR g fi_cd_21 rfl (fun C_ T_ N_ ty_ h_ => by cases Option.some.inj (ck_cd.1.symm.trans h_.1); exact (pw_gw 239 (by decide +kernel) (by decide +kernel))) (fun C_ T_ N_ ty_ h_ => by cases Option.some.inj (ck_cd.1.symm.trans h_.1); rfl) hp rfl rfl d_cd_init_33 ?_
  exact PW.vret g hF rfl d_cd_init_36 ⟨rfl, rfl, rfl, by simp [ks_cd, ks_ck]⟩
def kI_dr (p : Nat) (I : pI) : pI := (pw_zI (pw_zI (pw_zI (pw_zI I (p + 1)) (p + 2)) (p + 3)) (p + 4))
def kR_dr (p : Nat) (R : pR) : pR := (pw_wR (pw_wR (pw_wR (pw_wR R p 0 (some (p + 1))) p 1 (some (p + 2))) p 2 (some (p + 3))) p 3 (some (p + 4)))
theorem kr_dr {p x : Nat} {R : pR} (h : x < p) : kR_dr p R x = R x := by
  have h0 : x ≠ p := by omega
  have h1 : ∀ k, x ≠ p + k := fun k => by omega
  simp [kR_dr, pw_wR, pw_zR, h0, h1]
def ks_dr : pS := [(2, 120), (1, 120), (1, 120), (1, 120)]
set_option maxHeartbeats 4000000 in
set_option maxRecDepth 100000 in
theorem k_dr_init (d : Nat) {p : Nat} {I : pI} {R : pR} {sh : pS} (hp : sh[p]? = some (0, 3)) (hl : sh.length = p + 1) : Ctr (d + 2) 4 480 m_dr_init [.ref p] I R sh (fun r I1 R1 sh1 => r = none ∧ I1 = kI_dr p I ∧ R1 = kR_dr p R ∧ sh1 = sh ++ ks_dr) := by
  refine Ctr.of [some (.ref p)] (by decide) rfl (Nat.le_of_ble_eq_true rfl) (by simp) (fun E B g hF => ?_)
  refine PW.aload_n g rfl rfl d_dr_init_0 ?_
  refine PW.objInit g (pw_gw 163 (by decide +kernel) (by decide +kernel)) (pw_d1 (by decide)) rfl (Nat.le_of_ble_eq_true rfl) d_dr_init_1 ?_
  refine PW.aload_n g rfl rfl d_dr_init_4 ?_
  refine PW.bipush g (120) (by decide) d_dr_init_5 ?_
  refine PW.newaC (nc := 3) (ns := 360) g 120 (p + 1) hl (by decide) (by decide) (by decide) d_dr_init_7 ?_
  have on_ := pw_apn (x := (2, 120)) hl
  have hp := pw_apl (l := [(2, 120)]) hp
  have o__p_1_ := on_
  have hl := pw_len1 (x := (2, 120)) hl
  refine PW.putFR g fi_dr_9 rfl (fun C_ T_ N_ ty_ h_ => by cases Option.some.inj (ck_dr.1.symm.trans h_.1); exact (pw_gw 164 (by decide +kernel) (by decide +kernel))) (fun C_ T_ N_ ty_ h_ => by cases Option.some.inj (ck_dr.1.symm.trans h_.1); rfl) hp rfl rfl d_dr_init_9 ?_
  refine PW.aload_n g rfl rfl d_dr_init_12 ?_
  refine PW.bipush g (120) (by decide) d_dr_init_13 ?_
  refine PW.newaI (nc := 2) (ns := 240) g 120 (p + 2) hl (by decide) (by decide) (by decide) d_dr_init_15 ?_
  have on_ := pw_apn (x := (1, 120)) hl
  have hp := pw_apl (l := [(1, 120)]) hp
  have o__p_1_ := pw_apl (l := [(1, 120)]) o__p_1_
  have o__p_2_ := on_
  have hl := pw_len1 (x := (1, 120)) hl
  refine PW.putFR g fi_dr_15 rfl (fun C_ T_ N_ ty_ h_ => by cases Option.some.inj (ck_dr.1.symm.trans h_.1); exact (pw_gw 165 (by decide +kernel) (by decide +kernel))) (fun C_ T_ N_ ty_ h_ => by cases Option.some.inj (ck_dr.1.symm.trans h_.1); rfl) hp rfl rfl d_dr_init_17 ?_
  refine PW.aload_n g rfl rfl d_dr_init_20 ?_
  refine PW.bipush g (120) (by decide) d_dr_init_21 ?_
  refine PW.newaI (nc := 1) (ns := 120) g 120 (p + 3) hl (by decide) (by decide) (by decide) d_dr_init_23 ?_
  have on_ := pw_apn (x := (1, 120)) hl
  have hp := pw_apl (l := [(1, 120)]) hp
  have o__p_1_ := pw_apl (l := [(1, 120)]) o__p_1_
  have o__p_2_ := pw_apl (l := [(1, 120)]) o__p_2_
  have o__p_3_ := on_
  have hl := pw_len1 (x := (1, 120)) hl
  refine PW.putFR g fi_dr_19 rfl (fun C_ T_ N_ ty_ h_ => by cases Option.some.inj (ck_dr.1.symm.trans h_.1); exact (pw_gw 166 (by decide +kernel) (by decide +kernel))) (fun C_ T_ N_ ty_ h_ => by cases Option.some.inj (ck_dr.1.symm.trans h_.1); rfl) hp rfl rfl d_dr_init_25 ?_
  refine PW.aload_n g rfl rfl d_dr_init_28 ?_
  refine PW.bipush g (120) (by decide) d_dr_init_29 ?_
  refine PW.newaI (nc := 0) (ns := 0) g 120 (p + 4) hl (by decide) (by decide) (by decide) d_dr_init_31 ?_
  have on_ := pw_apn (x := (1, 120)) hl
  have hp := pw_apl (l := [(1, 120)]) hp
  have o__p_1_ := pw_apl (l := [(1, 120)]) o__p_1_
  have o__p_2_ := pw_apl (l := [(1, 120)]) o__p_2_
  have o__p_3_ := pw_apl (l := [(1, 120)]) o__p_3_
  have o__p_4_ := on_
  have hl := pw_len1 (x := (1, 120)) hl
  refine PW.putFR g fi_dr_22 rfl (fun C_ T_ N_ ty_ h_ => by cases Option.some.inj (ck_dr.1.symm.trans h_.1); exact (pw_gw 167 (by decide +kernel) (by decide +kernel))) (fun C_ T_ N_ ty_ h_ => by cases Option.some.inj (ck_dr.1.symm.trans h_.1); rfl) hp rfl rfl d_dr_init_33 ?_
  exact PW.vret g hF rfl d_dr_init_36 ⟨rfl, rfl, rfl, by simp [ks_dr, ks_ck, ks_cd]⟩
def kI_st (p : Nat) (I : pI) : pI := (pw_zI (pw_zI (pw_zI (pw_zI (pw_zI (pw_zI I (p + 1)) (p + 2)) (p + 3)) (p + 4)) (p + 5)) (p + 6))
def kR_st (p : Nat) (R : pR) : pR := (pw_wR (pw_wR (pw_wR (pw_wR (pw_wR (pw_wR R p 0 (some (p + 1))) p 1 (some (p + 2))) p 2 (some (p + 3))) p 3 (some (p + 4))) p 4 (some (p + 5))) p 5 (some (p + 6)))
theorem kr_st {p x : Nat} {R : pR} (h : x < p) : kR_st p R x = R x := by
  have h0 : x ≠ p := by omega
  have h1 : ∀ k, x ≠ p + k := fun k => by omega
  simp [kR_st, pw_wR, pw_zR, h0, h1]
def ks_st : pS := [(1, 61), (1, 61), (1, 61), (1, 61), (1, 61), (1, 61)]
set_option maxHeartbeats 4000000 in
set_option maxRecDepth 100000 in
theorem k_st_init (d : Nat) {p : Nat} {I : pI} {R : pR} {sh : pS} (hp : sh[p]? = some (0, 10)) (hl : sh.length = p + 1) : Ctr (d + 2) 6 366 m_st_init [.ref p] I R sh (fun r I1 R1 sh1 => r = none ∧ I1 = kI_st p I ∧ R1 = kR_st p R ∧ sh1 = sh ++ ks_st) := by
  refine Ctr.of [some (.ref p)] (by decide) rfl (Nat.le_of_ble_eq_true rfl) (by simp) (fun E B g hF => ?_)
  refine PW.aload_n g rfl rfl d_st_init_0 ?_
  refine PW.objInit g (pw_gw 261 (by decide +kernel) (by decide +kernel)) (pw_d1 (by decide)) rfl (Nat.le_of_ble_eq_true rfl) d_st_init_1 ?_
  refine PW.aload_n g rfl rfl d_st_init_4 ?_
  refine PW.bipush g (61) (by decide) d_st_init_5 ?_
  refine PW.newaI (nc := 5) (ns := 305) g 61 (p + 1) hl (by decide) (by decide) (by decide) d_st_init_7 ?_
  have on_ := pw_apn (x := (1, 61)) hl
  have hp := pw_apl (l := [(1, 61)]) hp
  have o__p_1_ := on_
  have hl := pw_len1 (x := (1, 61)) hl
  refine PW.putFR g fi_st_9 rfl (fun C_ T_ N_ ty_ h_ => by cases Option.some.inj (ck_st.1.symm.trans h_.1); exact (pw_gw 262 (by decide +kernel) (by decide +kernel))) (fun C_ T_ N_ ty_ h_ => by cases Option.some.inj (ck_st.1.symm.trans h_.1); rfl) hp rfl rfl d_st_init_9 ?_
  refine PW.aload_n g rfl rfl d_st_init_12 ?_
  refine PW.bipush g (61) (by decide) d_st_init_13 ?_
  refine PW.newaI (nc := 4) (ns := 244) g 61 (p + 2) hl (by decide) (by decide) (by decide) d_st_init_15 ?_
  have on_ := pw_apn (x := (1, 61)) hl
  have hp := pw_apl (l := [(1, 61)]) hp
  have o__p_1_ := pw_apl (l := [(1, 61)]) o__p_1_
  have o__p_2_ := on_
  have hl := pw_len1 (x := (1, 61)) hl
  refine PW.putFR g fi_st_15 rfl (fun C_ T_ N_ ty_ h_ => by cases Option.some.inj (ck_st.1.symm.trans h_.1); exact (pw_gw 264 (by decide +kernel) (by decide +kernel))) (fun C_ T_ N_ ty_ h_ => by cases Option.some.inj (ck_st.1.symm.trans h_.1); rfl) hp rfl rfl d_st_init_17 ?_
  refine PW.aload_n g rfl rfl d_st_init_20 ?_
  refine PW.bipush g (61) (by decide) d_st_init_21 ?_
  refine PW.newaI (nc := 3) (ns := 183) g 61 (p + 3) hl (by decide) (by decide) (by decide) d_st_init_23 ?_
  have on_ := pw_apn (x := (1, 61)) hl
  have hp := pw_apl (l := [(1, 61)]) hp
  have o__p_1_ := pw_apl (l := [(1, 61)]) o__p_1_
  have o__p_2_ := pw_apl (l := [(1, 61)]) o__p_2_
  have o__p_3_ := on_
  have hl := pw_len1 (x := (1, 61)) hl
  refine PW.putFR g fi_st_18 rfl (fun C_ T_ N_ ty_ h_ => by cases Option.some.inj (ck_st.1.symm.trans h_.1); exact (pw_gw 265 (by decide +kernel) (by decide +kernel))) (fun C_ T_ N_ ty_ h_ => by cases Option.some.inj (ck_st.1.symm.trans h_.1); rfl) hp rfl rfl d_st_init_25 ?_
  refine PW.aload_n g rfl rfl d_st_init_28 ?_
  refine PW.bipush g (61) (by decide) d_st_init_29 ?_
  refine PW.newaI (nc := 2) (ns := 122) g 61 (p + 4) hl (by decide) (by decide) (by decide) d_st_init_31 ?_
  have on_ := pw_apn (x := (1, 61)) hl
  have hp := pw_apl (l := [(1, 61)]) hp
  have o__p_1_ := pw_apl (l := [(1, 61)]) o__p_1_
  have o__p_2_ := pw_apl (l := [(1, 61)]) o__p_2_
  have o__p_3_ := pw_apl (l := [(1, 61)]) o__p_3_
  have o__p_4_ := on_
  have hl := pw_len1 (x := (1, 61)) hl
  refine PW.putFR g fi_st_21 rfl (fun C_ T_ N_ ty_ h_ => by cases Option.some.inj (ck_st.1.symm.trans h_.1); exact (pw_gw 267 (by decide +kernel) (by decide +kernel))) (fun C_ T_ N_ ty_ h_ => by cases Option.some.inj (ck_st.1.symm.trans h_.1); rfl) hp rfl rfl d_st_init_33 ?_
  refine PW.aload_n g rfl rfl d_st_init_36 ?_
  refine PW.bipush g (61) (by decide) d_st_init_37 ?_
  refine PW.newaI (nc := 1) (ns := 61) g 61 (p + 5) hl (by decide) (by decide) (by decide) d_st_init_39 ?_
  have on_ := pw_apn (x := (1, 61)) hl
  have hp := pw_apl (l := [(1, 61)]) hp
  have o__p_1_ := pw_apl (l := [(1, 61)]) o__p_1_
  have o__p_2_ := pw_apl (l := [(1, 61)]) o__p_2_
  have o__p_3_ := pw_apl (l := [(1, 61)]) o__p_3_
  have o__p_4_ := pw_apl (l := [(1, 61)]) o__p_4_
  have o__p_5_ := on_
  have hl := pw_len1 (x := (1, 61)) hl
  refine PW.putFR g fi_st_24 rfl (fun C_ T_ N_ ty_ h_ => by cases Option.some.inj (ck_st.1.symm.trans h_.1); exact (pw_gw 270 (by decide +kernel) (by decide +kernel))) (fun C_ T_ N_ ty_ h_ => by cases Option.some.inj (ck_st.1.symm.trans h_.1); rfl) hp rfl rfl d_st_init_41 ?_
  refine PW.aload_n g rfl rfl d_st_init_44 ?_
  refine PW.bipush g (61) (by decide) d_st_init_45 ?_
  refine PW.newaI (nc := 0) (ns := 0) g 61 (p + 6) hl (by decide) (by decide) (by decide) d_st_init_47 ?_
  have on_ := pw_apn (x := (1, 61)) hl
  have hp := pw_apl (l := [(1, 61)]) hp
  have o__p_1_ := pw_apl (l := [(1, 61)]) o__p_1_
  have o__p_2_ := pw_apl (l := [(1, 61)]) o__p_2_
  have o__p_3_ := pw_apl (l := [(1, 61)]) o__p_3_
  have o__p_4_ := pw_apl (l := [(1, 61)]) o__p_4_
  have o__p_5_ := pw_apl (l := [(1, 61)]) o__p_5_
  have o__p_6_ := on_
  have hl := pw_len1 (x := (1, 61)) hl
  refine PW.putFR g fi_st_27 rfl (fun C_ T_ N_ ty_ h_ => by cases Option.some.inj (ck_st.1.symm.trans h_.1); exact (pw_gw 273 (by decide +kernel) (by decide +kernel))) (fun C_ T_ N_ ty_ h_ => by cases Option.some.inj (ck_st.1.symm.trans h_.1); rfl) hp rfl rfl d_st_init_49 ?_
  exact PW.vret g hF rfl d_st_init_52 ⟨rfl, rfl, rfl, by simp [ks_st, ks_ck, ks_cd, ks_dr]⟩
def kI_rl (p : Nat) (I : pI) : pI := (pw_zI (pw_zI (pw_zI (pw_zI (pw_zI (pw_zI (pw_zI (pw_zI I (p + 1)) (p + 2)) (p + 3)) (p + 4)) (p + 5)) (p + 6)) (p + 7)) (p + 8))
def kR_rl (p : Nat) (R : pR) : pR := (pw_wR (pw_wR (pw_wR (pw_wR (pw_wR (pw_wR (pw_wR (pw_wR R p 0 (some (p + 1))) p 1 (some (p + 2))) p 2 (some (p + 3))) p 3 (some (p + 4))) p 4 (some (p + 5))) p 5 (some (p + 6))) p 6 (some (p + 7))) p 7 (some (p + 8)))
theorem kr_rl {p x : Nat} {R : pR} (h : x < p) : kR_rl p R x = R x := by
  have h0 : x ≠ p := by omega
  have h1 : ∀ k, x ≠ p + k := fun k => by omega
  simp [kR_rl, pw_wR, pw_zR, h0, h1]
def ks_rl : pS := [(1, 22), (1, 22), (1, 22), (1, 22), (1, 22), (1, 22), (1, 22), (1, 61)]
set_option maxHeartbeats 4000000 in
set_option maxRecDepth 100000 in
theorem k_rl_init (d : Nat) {p : Nat} {I : pI} {R : pR} {sh : pS} (hp : sh[p]? = some (0, 8)) (hl : sh.length = p + 1) : Ctr (d + 2) 8 215 m_rl_init [.ref p] I R sh (fun r I1 R1 sh1 => r = none ∧ I1 = kI_rl p I ∧ R1 = kR_rl p R ∧ sh1 = sh ++ ks_rl) := by
  refine Ctr.of [some (.ref p)] (by decide) rfl (Nat.le_of_ble_eq_true rfl) (by simp) (fun E B g hF => ?_)
  refine PW.aload_n g rfl rfl d_rl_init_0 ?_
  refine PW.objInit g (pw_gw 302 (by decide +kernel) (by decide +kernel)) (pw_d1 (by decide)) rfl (Nat.le_of_ble_eq_true rfl) d_rl_init_1 ?_
  refine PW.aload_n g rfl rfl d_rl_init_4 ?_
  refine PW.bipush g (22) (by decide) d_rl_init_5 ?_
  refine PW.newaI (nc := 7) (ns := 193) g 22 (p + 1) hl (by decide) (by decide) (by decide) d_rl_init_7 ?_
  have on_ := pw_apn (x := (1, 22)) hl
  have hp := pw_apl (l := [(1, 22)]) hp
  have o__p_1_ := on_
  have hl := pw_len1 (x := (1, 22)) hl
  refine PW.putFR g fi_rl_9 rfl (fun C_ T_ N_ ty_ h_ => by cases Option.some.inj (ck_rl.1.symm.trans h_.1); exact (pw_gw 303 (by decide +kernel) (by decide +kernel))) (fun C_ T_ N_ ty_ h_ => by cases Option.some.inj (ck_rl.1.symm.trans h_.1); rfl) hp rfl rfl d_rl_init_9 ?_
  refine PW.aload_n g rfl rfl d_rl_init_12 ?_
  refine PW.bipush g (22) (by decide) d_rl_init_13 ?_
  refine PW.newaI (nc := 6) (ns := 171) g 22 (p + 2) hl (by decide) (by decide) (by decide) d_rl_init_15 ?_
  have on_ := pw_apn (x := (1, 22)) hl
  have hp := pw_apl (l := [(1, 22)]) hp
  have o__p_1_ := pw_apl (l := [(1, 22)]) o__p_1_
  have o__p_2_ := on_
  have hl := pw_len1 (x := (1, 22)) hl
  refine PW.putFR g fi_rl_15 rfl (fun C_ T_ N_ ty_ h_ => by cases Option.some.inj (ck_rl.1.symm.trans h_.1); exact (pw_gw 306 (by decide +kernel) (by decide +kernel))) (fun C_ T_ N_ ty_ h_ => by cases Option.some.inj (ck_rl.1.symm.trans h_.1); rfl) hp rfl rfl d_rl_init_17 ?_
  refine PW.aload_n g rfl rfl d_rl_init_20 ?_
  refine PW.bipush g (22) (by decide) d_rl_init_21 ?_
  refine PW.newaI (nc := 5) (ns := 149) g 22 (p + 3) hl (by decide) (by decide) (by decide) d_rl_init_23 ?_
  have on_ := pw_apn (x := (1, 22)) hl
  have hp := pw_apl (l := [(1, 22)]) hp
  have o__p_1_ := pw_apl (l := [(1, 22)]) o__p_1_
  have o__p_2_ := pw_apl (l := [(1, 22)]) o__p_2_
  have o__p_3_ := on_
  have hl := pw_len1 (x := (1, 22)) hl
  refine PW.putFR g fi_rl_18 rfl (fun C_ T_ N_ ty_ h_ => by cases Option.some.inj (ck_rl.1.symm.trans h_.1); exact (pw_gw 309 (by decide +kernel) (by decide +kernel))) (fun C_ T_ N_ ty_ h_ => by cases Option.some.inj (ck_rl.1.symm.trans h_.1); rfl) hp rfl rfl d_rl_init_25 ?_
  refine PW.aload_n g rfl rfl d_rl_init_28 ?_
  refine PW.bipush g (22) (by decide) d_rl_init_29 ?_
  refine PW.newaI (nc := 4) (ns := 127) g 22 (p + 4) hl (by decide) (by decide) (by decide) d_rl_init_31 ?_
  have on_ := pw_apn (x := (1, 22)) hl
  have hp := pw_apl (l := [(1, 22)]) hp
  have o__p_1_ := pw_apl (l := [(1, 22)]) o__p_1_
  have o__p_2_ := pw_apl (l := [(1, 22)]) o__p_2_
  have o__p_3_ := pw_apl (l := [(1, 22)]) o__p_3_
  have o__p_4_ := on_
  have hl := pw_len1 (x := (1, 22)) hl
  refine PW.putFR g fi_rl_21 rfl (fun C_ T_ N_ ty_ h_ => by cases Option.some.inj (ck_rl.1.symm.trans h_.1); exact (pw_gw 310 (by decide +kernel) (by decide +kernel))) (fun C_ T_ N_ ty_ h_ => by cases Option.some.inj (ck_rl.1.symm.trans h_.1); rfl) hp rfl rfl d_rl_init_33 ?_
  refine PW.aload_n g rfl rfl d_rl_init_36 ?_
  refine PW.bipush g (22) (by decide) d_rl_init_37 ?_
  refine PW.newaI (nc := 3) (ns := 105) g 22 (p + 5) hl (by decide) (by decide) (by decide) d_rl_init_39 ?_
  have on_ := pw_apn (x := (1, 22)) hl
  have hp := pw_apl (l := [(1, 22)]) hp
  have o__p_1_ := pw_apl (l := [(1, 22)]) o__p_1_
  have o__p_2_ := pw_apl (l := [(1, 22)]) o__p_2_
  have o__p_3_ := pw_apl (l := [(1, 22)]) o__p_3_
  have o__p_4_ := pw_apl (l := [(1, 22)]) o__p_4_
  have o__p_5_ := on_
  have hl := pw_len1 (x := (1, 22)) hl
  refine PW.putFR g fi_rl_24 rfl (fun C_ T_ N_ ty_ h_ => by cases Option.some.inj (ck_rl.1.symm.trans h_.1); exact (pw_gw 311 (by decide +kernel) (by decide +kernel))) (fun C_ T_ N_ ty_ h_ => by cases Option.some.inj (ck_rl.1.symm.trans h_.1); rfl) hp rfl rfl d_rl_init_41 ?_
  refine PW.aload_n g rfl rfl d_rl_init_44 ?_
  refine PW.bipush g (22) (by decide) d_rl_init_45 ?_
  refine PW.newaI (nc := 2) (ns := 83) g 22 (p + 6) hl (by decide) (by decide) (by decide) d_rl_init_47 ?_
  have on_ := pw_apn (x := (1, 22)) hl
  have hp := pw_apl (l := [(1, 22)]) hp
  have o__p_1_ := pw_apl (l := [(1, 22)]) o__p_1_
  have o__p_2_ := pw_apl (l := [(1, 22)]) o__p_2_
  have o__p_3_ := pw_apl (l := [(1, 22)]) o__p_3_
  have o__p_4_ := pw_apl (l := [(1, 22)]) o__p_4_
  have o__p_5_ := pw_apl (l := [(1, 22)]) o__p_5_
  have o__p_6_ := on_
  have hl := pw_len1 (x := (1, 22)) hl
  refine PW.putFR g fi_rl_27 rfl (fun C_ T_ N_ ty_ h_ => by cases Option.some.inj (ck_rl.1.symm.trans h_.1); exact (pw_gw 312 (by decide +kernel) (by decide +kernel))) (fun C_ T_ N_ ty_ h_ => by cases Option.some.inj (ck_rl.1.symm.trans h_.1); rfl) hp rfl rfl d_rl_init_49 ?_
  refine PW.aload_n g rfl rfl d_rl_init_52 ?_
  refine PW.bipush g (22) (by decide) d_rl_init_53 ?_
  refine PW.newaI (nc := 1) (ns := 61) g 22 (p + 7) hl (by decide) (by decide) (by decide) d_rl_init_55 ?_
  have on_ := pw_apn (x := (1, 22)) hl
  have hp := pw_apl (l := [(1, 22)]) hp
  have o__p_1_ := pw_apl (l := [(1, 22)]) o__p_1_
  have o__p_2_ := pw_apl (l := [(1, 22)]) o__p_2_
  have o__p_3_ := pw_apl (l := [(1, 22)]) o__p_3_
  have o__p_4_ := pw_apl (l := [(1, 22)]) o__p_4_
  have o__p_5_ := pw_apl (l := [(1, 22)]) o__p_5_
  have o__p_6_ := pw_apl (l := [(1, 22)]) o__p_6_
  have o__p_7_ := on_
  have hl := pw_len1 (x := (1, 22)) hl
  refine PW.putFR g fi_rl_30 rfl (fun C_ T_ N_ ty_ h_ => by cases Option.some.inj (ck_rl.1.symm.trans h_.1); exact (pw_gw 313 (by decide +kernel) (by decide +kernel))) (fun C_ T_ N_ ty_ h_ => by cases Option.some.inj (ck_rl.1.symm.trans h_.1); rfl) hp rfl rfl d_rl_init_57 ?_
  refine PW.aload_n g rfl rfl d_rl_init_60 ?_
  refine PW.bipush g (61) (by decide) d_rl_init_61 ?_
  refine PW.newaI (nc := 0) (ns := 0) g 61 (p + 8) hl (by decide) (by decide) (by decide) d_rl_init_63 ?_
  have on_ := pw_apn (x := (1, 61)) hl
  have hp := pw_apl (l := [(1, 61)]) hp
  have o__p_1_ := pw_apl (l := [(1, 61)]) o__p_1_
  have o__p_2_ := pw_apl (l := [(1, 61)]) o__p_2_
  have o__p_3_ := pw_apl (l := [(1, 61)]) o__p_3_
  have o__p_4_ := pw_apl (l := [(1, 61)]) o__p_4_
  have o__p_5_ := pw_apl (l := [(1, 61)]) o__p_5_
  have o__p_6_ := pw_apl (l := [(1, 61)]) o__p_6_
  have o__p_7_ := pw_apl (l := [(1, 61)]) o__p_7_
  have o__p_8_ := on_
  have hl := pw_len1 (x := (1, 61)) hl
  refine PW.putFR g fi_rl_33 rfl (fun C_ T_ N_ ty_ h_ => by cases Option.some.inj (ck_rl.1.symm.trans h_.1); exact (pw_gw 314 (by decide +kernel) (by decide +kernel))) (fun C_ T_ N_ ty_ h_ => by cases Option.some.inj (ck_rl.1.symm.trans h_.1); rfl) hp rfl rfl d_rl_init_65 ?_
  exact PW.vret g hF rfl d_rl_init_68 ⟨rfl, rfl, rfl, by simp [ks_rl, ks_ck, ks_cd, ks_dr, ks_st]⟩
def kI_tk (p : Nat) (I : pI) : pI := (pw_zI (pw_zI (pw_zI (pw_zI I (p + 1)) (p + 2)) (p + 3)) (p + 4))
def kR_tk (p : Nat) (R : pR) : pR := (pw_wR (pw_wR (pw_wR (pw_wR R p 0 (some (p + 1))) p 1 (some (p + 2))) p 2 (some (p + 3))) p 3 (some (p + 4)))
theorem kr_tk {p x : Nat} {R : pR} (h : x < p) : kR_tk p R x = R x := by
  have h0 : x ≠ p := by omega
  have h1 : ∀ k, x ≠ p + k := fun k => by omega
  simp [kR_tk, pw_wR, pw_zR, h0, h1]
def ks_tk : pS := [(1, 120), (1, 120), (1, 120), (1, 120)]
set_option maxHeartbeats 4000000 in
set_option maxRecDepth 100000 in
theorem k_tk_init (d : Nat) {p : Nat} {I : pI} {R : pR} {sh : pS} (hp : sh[p]? = some (0, 11)) (hl : sh.length = p + 1) : Ctr (d + 2) 4 480 m_tk_init [.ref p] I R sh (fun r I1 R1 sh1 => r = none ∧ I1 = kI_tk p I ∧ R1 = kR_tk p R ∧ sh1 = sh ++ ks_tk) := by
  refine Ctr.of [some (.ref p)] (by decide) rfl (Nat.le_of_ble_eq_true rfl) (by simp) (fun E B g hF => ?_)
  refine PW.aload_n g rfl rfl d_tk_init_0 ?_
  refine PW.objInit g (pw_gw 410 (by decide +kernel) (by decide +kernel)) (pw_d1 (by decide)) rfl (Nat.le_of_ble_eq_true rfl) d_tk_init_1 ?_
  refine PW.aload_n g rfl rfl d_tk_init_4 ?_
  refine PW.bipush g (120) (by decide) d_tk_init_5 ?_
  refine PW.newaI (nc := 3) (ns := 360) g 120 (p + 1) hl (by decide) (by decide) (by decide) d_tk_init_7 ?_
  have on_ := pw_apn (x := (1, 120)) hl
  have hp := pw_apl (l := [(1, 120)]) hp
  have o__p_1_ := on_
  have hl := pw_len1 (x := (1, 120)) hl
  refine PW.putFR g fi_tk_9 rfl (fun C_ T_ N_ ty_ h_ => by cases Option.some.inj (ck_tk.1.symm.trans h_.1); exact (pw_gw 411 (by decide +kernel) (by decide +kernel))) (fun C_ T_ N_ ty_ h_ => by cases Option.some.inj (ck_tk.1.symm.trans h_.1); rfl) hp rfl rfl d_tk_init_9 ?_
  refine PW.aload_n g rfl rfl d_tk_init_12 ?_
  refine PW.bipush g (120) (by decide) d_tk_init_13 ?_
  refine PW.newaI (nc := 2) (ns := 240) g 120 (p + 2) hl (by decide) (by decide) (by decide) d_tk_init_15 ?_
  have on_ := pw_apn (x := (1, 120)) hl
  have hp := pw_apl (l := [(1, 120)]) hp
  have o__p_1_ := pw_apl (l := [(1, 120)]) o__p_1_
  have o__p_2_ := on_
  have hl := pw_len1 (x := (1, 120)) hl
  refine PW.putFR g fi_tk_15 rfl (fun C_ T_ N_ ty_ h_ => by cases Option.some.inj (ck_tk.1.symm.trans h_.1); exact (pw_gw 412 (by decide +kernel) (by decide +kernel))) (fun C_ T_ N_ ty_ h_ => by cases Option.some.inj (ck_tk.1.symm.trans h_.1); rfl) hp rfl rfl d_tk_init_17 ?_
  refine PW.aload_n g rfl rfl d_tk_init_20 ?_
  refine PW.bipush g (120) (by decide) d_tk_init_21 ?_
  refine PW.newaI (nc := 1) (ns := 120) g 120 (p + 3) hl (by decide) (by decide) (by decide) d_tk_init_23 ?_
  have on_ := pw_apn (x := (1, 120)) hl
  have hp := pw_apl (l := [(1, 120)]) hp
  have o__p_1_ := pw_apl (l := [(1, 120)]) o__p_1_
  have o__p_2_ := pw_apl (l := [(1, 120)]) o__p_2_
  have o__p_3_ := on_
  have hl := pw_len1 (x := (1, 120)) hl
  refine PW.putFR g fi_tk_18 rfl (fun C_ T_ N_ ty_ h_ => by cases Option.some.inj (ck_tk.1.symm.trans h_.1); exact (pw_gw 414 (by decide +kernel) (by decide +kernel))) (fun C_ T_ N_ ty_ h_ => by cases Option.some.inj (ck_tk.1.symm.trans h_.1); rfl) hp rfl rfl d_tk_init_25 ?_
  refine PW.aload_n g rfl rfl d_tk_init_28 ?_
  refine PW.bipush g (120) (by decide) d_tk_init_29 ?_
  refine PW.newaI (nc := 0) (ns := 0) g 120 (p + 4) hl (by decide) (by decide) (by decide) d_tk_init_31 ?_
  have on_ := pw_apn (x := (1, 120)) hl
  have hp := pw_apl (l := [(1, 120)]) hp
  have o__p_1_ := pw_apl (l := [(1, 120)]) o__p_1_
  have o__p_2_ := pw_apl (l := [(1, 120)]) o__p_2_
  have o__p_3_ := pw_apl (l := [(1, 120)]) o__p_3_
  have o__p_4_ := on_
  have hl := pw_len1 (x := (1, 120)) hl
  refine PW.putFR g fi_tk_21 rfl (fun C_ T_ N_ ty_ h_ => by cases Option.some.inj (ck_tk.1.symm.trans h_.1); exact (pw_gw 415 (by decide +kernel) (by decide +kernel))) (fun C_ T_ N_ ty_ h_ => by cases Option.some.inj (ck_tk.1.symm.trans h_.1); rfl) hp rfl rfl d_tk_init_33 ?_
  exact PW.vret g hF rfl d_tk_init_36 ⟨rfl, rfl, rfl, by simp [ks_tk, ks_ck, ks_cd, ks_dr, ks_st, ks_rl]⟩
def kI_oc (p : Nat) (I : pI) : pI := (pw_wI (kI_dr (p + 3) (pw_zI (pw_zI (pw_zI I (p + 1)) (p + 2)) (p + 3))) p 4 (-1 : Int32))
def kR_oc (p : Nat) (R : pR) : pR := (pw_wR (kR_dr (p + 3) (pw_zR (pw_wR (pw_wR R p 0 (some (p + 1))) p 1 (some (p + 2))) (p + 3))) p 2 (some (p + 3)))
theorem kr_oc {p x : Nat} {R : pR} (h : x < p) : kR_oc p R x = R x := by
  have h0 : x ≠ p := by omega
  have h1 : ∀ k, x ≠ p + k := fun k => by omega
  have edr_3 : ∀ R : pR, kR_dr (p + 3) R x = R x := fun R => kr_dr (by omega)
  simp [kR_oc, pw_wR, pw_zR, h0, h1, edr_3]
def ks_oc : pS := [(1, 26), (1, 2), (0, 3), (2, 120), (1, 120), (1, 120), (1, 120)]
set_option maxHeartbeats 4000000 in
set_option maxRecDepth 100000 in
theorem k_oc_init (d : Nat) {p : Nat} {I : pI} {R : pR} {sh : pS} (hp : sh[p]? = some (0, 6)) (hl : sh.length = p + 1) : Ctr (d + 3) 7 515 m_oc_init [.ref p] I R sh (fun r I1 R1 sh1 => r = none ∧ I1 = kI_oc p I ∧ R1 = kR_oc p R ∧ sh1 = sh ++ ks_oc) := by
  refine Ctr.of [some (.ref p)] (by decide) rfl (Nat.le_of_ble_eq_true rfl) (by simp) (fun E B g hF => ?_)
  refine PW.aload_n g rfl rfl d_oc_init_0 ?_
  refine PW.objInit g (pw_gw 157 (by decide +kernel) (by decide +kernel)) (pw_d1 (by decide)) rfl (Nat.le_of_ble_eq_true rfl) d_oc_init_1 ?_
  refine PW.aload_n g rfl rfl d_oc_init_4 ?_
  refine PW.bipush g (26) (by decide) d_oc_init_5 ?_
  refine PW.newaI (nc := 6) (ns := 489) g 26 (p + 1) hl (by decide) (by decide) (by decide) d_oc_init_7 ?_
  have on_ := pw_apn (x := (1, 26)) hl
  have hp := pw_apl (l := [(1, 26)]) hp
  have o__p_1_ := on_
  have hl := pw_len1 (x := (1, 26)) hl
  refine PW.putFR g fi_oc_9 rfl (fun C_ T_ N_ ty_ h_ => by cases Option.some.inj (ck_oc.1.symm.trans h_.1); exact (pw_gw 188 (by decide +kernel) (by decide +kernel))) (fun C_ T_ N_ ty_ h_ => by cases Option.some.inj (ck_oc.1.symm.trans h_.1); rfl) hp rfl rfl d_oc_init_9 ?_
  refine PW.aload_n g rfl rfl d_oc_init_12 ?_
  refine PW.iconst g (2) (by decide) d_oc_init_13 ?_
  refine PW.newaI (nc := 5) (ns := 487) g 2 (p + 2) hl (by decide) (by decide) (by decide) d_oc_init_14 ?_
  have on_ := pw_apn (x := (1, 2)) hl
  have hp := pw_apl (l := [(1, 2)]) hp
  have o__p_1_ := pw_apl (l := [(1, 2)]) o__p_1_
  have o__p_2_ := on_
  have hl := pw_len1 (x := (1, 2)) hl
  refine PW.putFR g fi_oc_15 rfl (fun C_ T_ N_ ty_ h_ => by cases Option.some.inj (ck_oc.1.symm.trans h_.1); exact (pw_gw 192 (by decide +kernel) (by decide +kernel))) (fun C_ T_ N_ ty_ h_ => by cases Option.some.inj (ck_oc.1.symm.trans h_.1); rfl) hp rfl rfl d_oc_init_16 ?_
  refine PW.aload_n g rfl rfl d_oc_init_19 ?_
  refine PW.newo (nc := 4) (ns := 480) g (p + 3) ck_dr dv_dr (pw_gw 158 (by decide +kernel) (by decide +kernel)) (pw_gw 159 (by decide +kernel) (by decide +kernel)) (pw_gw 103 (by decide +kernel) (by decide +kernel)) hl d_oc_init_20 ?_
  have on_ := pw_apn (x := (0, 3)) hl
  have hp := pw_apl (l := [(0, 3)]) hp
  have o__p_1_ := pw_apl (l := [(0, 3)]) o__p_1_
  have o__p_2_ := pw_apl (l := [(0, 3)]) o__p_2_
  have o__p_3_ := on_
  have hl := pw_len1 (x := (0, 3)) hl
  refine PW.dup g rfl d_oc_init_23 ?_
  refine PW.callI (mc2 := 4) (ms2 := 480) (nc := 0) (ns := 0) [] [.ref (p + 3), .ref p] g (k_dr_init d o__p_3_ hl) cl_oc_20 (pw_dl (by decide)) (by decide) rfl rfl (Nat.le_of_ble_eq_true rfl) d_oc_init_24 (fun r_ I_ R_ sh_ hh => ?_)
  obtain ⟨rfl, rfl, rfl, rfl⟩ := hh
  have hp := pw_apl (l := ks_dr) hp
  have o__p_1_ := pw_apl (l := ks_dr) o__p_1_
  have o__p_2_ := pw_apl (l := ks_dr) o__p_2_
  have o__p_3_ := pw_apl (l := ks_dr) o__p_3_
  have hl := pw_lenk (l := ks_dr) (n := (p + 8)) hl (by simp [ks_dr])
  refine PW.putFR g fi_oc_21 rfl (fun C_ T_ N_ ty_ h_ => by cases Option.some.inj (ck_oc.1.symm.trans h_.1); exact (pw_gw 195 (by decide +kernel) (by decide +kernel))) (fun C_ T_ N_ ty_ h_ => by cases Option.some.inj (ck_oc.1.symm.trans h_.1); rfl) hp rfl rfl d_oc_init_27 ?_
  refine PW.aload_n g rfl rfl d_oc_init_30 ?_
  refine PW.iconst g (-1) (by decide) d_oc_init_31 ?_
  refine PW.putI g fi_oc_25 hp rfl rfl d_oc_init_32 ?_
  exact PW.vret g hF rfl d_oc_init_35 ⟨rfl, rfl, rfl, by simp [ks_oc, ks_ck, ks_cd, ks_dr, ks_st, ks_rl, ks_tk]⟩
def kI_ft (p : Nat) (I : pI) : pI := (pw_zI (pw_zI (pw_zI (pw_zI (kI_rl (p + 14) (pw_zI (kI_st (p + 7) (pw_zI (kI_cd (p + 2) (pw_zI (pw_zI I (p + 1)) (p + 2))) (p + 7))) (p + 14))) (p + 23)) (p + 24)) (p + 25)) (p + 26))
def kR_ft (p : Nat) (R : pR) : pR := (pw_wR (pw_wR (pw_wR (pw_wR (pw_wR (kR_rl (p + 14) (pw_zR (pw_wR (kR_st (p + 7) (pw_zR (pw_wR (kR_cd (p + 2) (pw_zR (pw_wR R p 0 (some (p + 1))) (p + 2))) p 1 (some (p + 2))) (p + 7))) p 2 (some (p + 7))) (p + 14))) p 3 (some (p + 14))) p 4 (some (p + 23))) p 5 (some (p + 24))) p 6 (some (p + 25))) p 7 (some (p + 26)))
theorem kr_ft {p x : Nat} {R : pR} (h : x < p) : kR_ft p R x = R x := by
  have h0 : x ≠ p := by omega
  have h1 : ∀ k, x ≠ p + k := fun k => by omega
  have erl_14 : ∀ R : pR, kR_rl (p + 14) R x = R x := fun R => kr_rl (by omega)
  have est_7 : ∀ R : pR, kR_st (p + 7) R x = R x := fun R => kr_st (by omega)
  have ecd_2 : ∀ R : pR, kR_cd (p + 2) R x = R x := fun R => kr_cd (by omega)
  simp [kR_ft, pw_wR, pw_zR, h0, h1, erl_14, est_7, ecd_2]
def ks_ft : pS := [(2, 120), (0, 2), (1, 120), (1, 120), (1, 120), (1, 120), (0, 10), (1, 61), (1, 61), (1, 61), (1, 61), (1, 61), (1, 61), (0, 8), (1, 22), (1, 22), (1, 22), (1, 22), (1, 22), (1, 22), (1, 22), (1, 61), (1, 42), (1, 61), (1, 61), (1, 61)]
set_option maxHeartbeats 4000000 in
set_option maxRecDepth 100000 in
theorem k_ft_init (d : Nat) {p : Nat} {I : pI} {R : pR} {sh : pS} (hp : sh[p]? = some (0, 5)) (hl : sh.length = p + 1) : Ctr (d + 3) 26 1428 m_ft_init [.ref p] I R sh (fun r I1 R1 sh1 => r = none ∧ I1 = kI_ft p I ∧ R1 = kR_ft p R ∧ sh1 = sh ++ ks_ft) := by
  refine Ctr.of [some (.ref p)] (by decide) rfl (Nat.le_of_ble_eq_true rfl) (by simp) (fun E B g hF => ?_)
  refine PW.aload_n g rfl rfl d_ft_init_0 ?_
  refine PW.objInit g (pw_gw 222 (by decide +kernel) (by decide +kernel)) (pw_d1 (by decide)) rfl (Nat.le_of_ble_eq_true rfl) d_ft_init_1 ?_
  refine PW.aload_n g rfl rfl d_ft_init_4 ?_
  refine PW.bipush g (120) (by decide) d_ft_init_5 ?_
  refine PW.newaC (nc := 25) (ns := 1308) g 120 (p + 1) hl (by decide) (by decide) (by decide) d_ft_init_7 ?_
  have on_ := pw_apn (x := (2, 120)) hl
  have hp := pw_apl (l := [(2, 120)]) hp
  have o__p_1_ := on_
  have hl := pw_len1 (x := (2, 120)) hl
  refine PW.putFR g fi_ft_9 rfl (fun C_ T_ N_ ty_ h_ => by cases Option.some.inj (ck_ft.1.symm.trans h_.1); exact (pw_gw 340 (by decide +kernel) (by decide +kernel))) (fun C_ T_ N_ ty_ h_ => by cases Option.some.inj (ck_ft.1.symm.trans h_.1); rfl) hp rfl rfl d_ft_init_9 ?_
  refine PW.aload_n g rfl rfl d_ft_init_12 ?_
  refine PW.newo (nc := 24) (ns := 1303) g (p + 2) ck_cd dv_cd (pw_gw 223 (by decide +kernel) (by decide +kernel)) (pw_gw 224 (by decide +kernel) (by decide +kernel)) (pw_gw 105 (by decide +kernel) (by decide +kernel)) hl d_ft_init_13 ?_
  have on_ := pw_apn (x := (0, 2)) hl
  have hp := pw_apl (l := [(0, 2)]) hp
  have o__p_1_ := pw_apl (l := [(0, 2)]) o__p_1_
  have o__p_2_ := on_
  have hl := pw_len1 (x := (0, 2)) hl
  refine PW.dup g rfl d_ft_init_16 ?_
  refine PW.callI (mc2 := 4) (ms2 := 480) (nc := 20) (ns := 823) [] [.ref (p + 2), .ref p] g (k_cd_init d o__p_2_ hl) cl_ft_17 (pw_dl (by decide)) (by decide) rfl rfl (Nat.le_of_ble_eq_true rfl) d_ft_init_17 (fun r_ I_ R_ sh_ hh => ?_)
  obtain ⟨rfl, rfl, rfl, rfl⟩ := hh
  have hp := pw_apl (l := ks_cd) hp
  have o__p_1_ := pw_apl (l := ks_cd) o__p_1_
  have o__p_2_ := pw_apl (l := ks_cd) o__p_2_
  have hl := pw_lenk (l := ks_cd) (n := (p + 7)) hl (by simp [ks_cd])
  refine PW.putFR g fi_ft_18 rfl (fun C_ T_ N_ ty_ h_ => by cases Option.some.inj (ck_ft.1.symm.trans h_.1); exact (pw_gw 342 (by decide +kernel) (by decide +kernel))) (fun C_ T_ N_ ty_ h_ => by cases Option.some.inj (ck_ft.1.symm.trans h_.1); rfl) hp rfl rfl d_ft_init_20 ?_
  refine PW.aload_n g rfl rfl d_ft_init_23 ?_
  refine PW.newo (nc := 19) (ns := 816) g (p + 7) ck_st dv_st (pw_gw 256 (by decide +kernel) (by decide +kernel)) (pw_gw 257 (by decide +kernel) (by decide +kernel)) (pw_gw 106 (by decide +kernel) (by decide +kernel)) hl d_ft_init_24 ?_
  have on_ := pw_apn (x := (0, 10)) hl
  have hp := pw_apl (l := [(0, 10)]) hp
  have o__p_1_ := pw_apl (l := [(0, 10)]) o__p_1_
  have o__p_2_ := pw_apl (l := [(0, 10)]) o__p_2_
  have o__p_7_ := on_
  have hl := pw_len1 (x := (0, 10)) hl
  refine PW.dup g rfl d_ft_init_27 ?_
  refine PW.callI (mc2 := 6) (ms2 := 366) (nc := 13) (ns := 450) [] [.ref (p + 7), .ref p] g (k_st_init d o__p_7_ hl) cl_ft_24 (pw_dl (by decide)) (by decide) rfl rfl (Nat.le_of_ble_eq_true rfl) d_ft_init_28 (fun r_ I_ R_ sh_ hh => ?_)
  obtain ⟨rfl, rfl, rfl, rfl⟩ := hh
  have hp := pw_apl (l := ks_st) hp
  have o__p_1_ := pw_apl (l := ks_st) o__p_1_
  have o__p_2_ := pw_apl (l := ks_st) o__p_2_
  have o__p_7_ := pw_apl (l := ks_st) o__p_7_
  have hl := pw_lenk (l := ks_st) (n := (p + 14)) hl (by simp [ks_st])
  refine PW.putFR g fi_ft_25 rfl (fun C_ T_ N_ ty_ h_ => by cases Option.some.inj (ck_ft.1.symm.trans h_.1); exact (pw_gw 347 (by decide +kernel) (by decide +kernel))) (fun C_ T_ N_ ty_ h_ => by cases Option.some.inj (ck_ft.1.symm.trans h_.1); rfl) hp rfl rfl d_ft_init_31 ?_
  refine PW.aload_n g rfl rfl d_ft_init_34 ?_
  refine PW.newo (nc := 12) (ns := 440) g (p + 14) ck_rl dv_rl (pw_gw 297 (by decide +kernel) (by decide +kernel)) (pw_gw 298 (by decide +kernel) (by decide +kernel)) (pw_gw 107 (by decide +kernel) (by decide +kernel)) hl d_ft_init_35 ?_
  have on_ := pw_apn (x := (0, 8)) hl
  have hp := pw_apl (l := [(0, 8)]) hp
  have o__p_1_ := pw_apl (l := [(0, 8)]) o__p_1_
  have o__p_2_ := pw_apl (l := [(0, 8)]) o__p_2_
  have o__p_7_ := pw_apl (l := [(0, 8)]) o__p_7_
  have o__p_14_ := on_
  have hl := pw_len1 (x := (0, 8)) hl
  refine PW.dup g rfl d_ft_init_38 ?_
  refine PW.callI (mc2 := 8) (ms2 := 215) (nc := 4) (ns := 225) [] [.ref (p + 14), .ref p] g (k_rl_init d o__p_14_ hl) cl_ft_31 (pw_dl (by decide)) (by decide) rfl rfl (Nat.le_of_ble_eq_true rfl) d_ft_init_39 (fun r_ I_ R_ sh_ hh => ?_)
  obtain ⟨rfl, rfl, rfl, rfl⟩ := hh
  have hp := pw_apl (l := ks_rl) hp
  have o__p_1_ := pw_apl (l := ks_rl) o__p_1_
  have o__p_2_ := pw_apl (l := ks_rl) o__p_2_
  have o__p_7_ := pw_apl (l := ks_rl) o__p_7_
  have o__p_14_ := pw_apl (l := ks_rl) o__p_14_
  have hl := pw_lenk (l := ks_rl) (n := (p + 23)) hl (by simp [ks_rl])
  refine PW.putFR g fi_ft_32 rfl (fun C_ T_ N_ ty_ h_ => by cases Option.some.inj (ck_ft.1.symm.trans h_.1); exact (pw_gw 352 (by decide +kernel) (by decide +kernel))) (fun C_ T_ N_ ty_ h_ => by cases Option.some.inj (ck_ft.1.symm.trans h_.1); rfl) hp rfl rfl d_ft_init_42 ?_
  refine PW.aload_n g rfl rfl d_ft_init_45 ?_
  refine PW.bipush g (42) (by decide) d_ft_init_46 ?_
  refine PW.newaI (nc := 3) (ns := 183) g 42 (p + 23) hl (by decide) (by decide) (by decide) d_ft_init_48 ?_
  have on_ := pw_apn (x := (1, 42)) hl
  have hp := pw_apl (l := [(1, 42)]) hp
  have o__p_1_ := pw_apl (l := [(1, 42)]) o__p_1_
  have o__p_2_ := pw_apl (l := [(1, 42)]) o__p_2_
  have o__p_7_ := pw_apl (l := [(1, 42)]) o__p_7_
  have o__p_14_ := pw_apl (l := [(1, 42)]) o__p_14_
  have o__p_23_ := on_
  have hl := pw_len1 (x := (1, 42)) hl
  refine PW.putFR g fi_ft_36 rfl (fun C_ T_ N_ ty_ h_ => by cases Option.some.inj (ck_ft.1.symm.trans h_.1); exact (pw_gw 357 (by decide +kernel) (by decide +kernel))) (fun C_ T_ N_ ty_ h_ => by cases Option.some.inj (ck_ft.1.symm.trans h_.1); rfl) hp rfl rfl d_ft_init_50 ?_
  refine PW.aload_n g rfl rfl d_ft_init_53 ?_
  refine PW.bipush g (61) (by decide) d_ft_init_54 ?_
  refine PW.newaI (nc := 2) (ns := 122) g 61 (p + 24) hl (by decide) (by decide) (by decide) d_ft_init_56 ?_
  have on_ := pw_apn (x := (1, 61)) hl
  have hp := pw_apl (l := [(1, 61)]) hp
  have o__p_1_ := pw_apl (l := [(1, 61)]) o__p_1_
  have o__p_2_ := pw_apl (l := [(1, 61)]) o__p_2_
  have o__p_7_ := pw_apl (l := [(1, 61)]) o__p_7_
  have o__p_14_ := pw_apl (l := [(1, 61)]) o__p_14_
  have o__p_23_ := pw_apl (l := [(1, 61)]) o__p_23_
  have o__p_24_ := on_
  have hl := pw_len1 (x := (1, 61)) hl
  refine PW.putFR g fi_ft_40 rfl (fun C_ T_ N_ ty_ h_ => by cases Option.some.inj (ck_ft.1.symm.trans h_.1); exact (pw_gw 359 (by decide +kernel) (by decide +kernel))) (fun C_ T_ N_ ty_ h_ => by cases Option.some.inj (ck_ft.1.symm.trans h_.1); rfl) hp rfl rfl d_ft_init_58 ?_
  refine PW.aload_n g rfl rfl d_ft_init_61 ?_
  refine PW.bipush g (61) (by decide) d_ft_init_62 ?_
  refine PW.newaI (nc := 1) (ns := 61) g 61 (p + 25) hl (by decide) (by decide) (by decide) d_ft_init_64 ?_
  have on_ := pw_apn (x := (1, 61)) hl
  have hp := pw_apl (l := [(1, 61)]) hp
  have o__p_1_ := pw_apl (l := [(1, 61)]) o__p_1_
  have o__p_2_ := pw_apl (l := [(1, 61)]) o__p_2_
  have o__p_7_ := pw_apl (l := [(1, 61)]) o__p_7_
  have o__p_14_ := pw_apl (l := [(1, 61)]) o__p_14_
  have o__p_23_ := pw_apl (l := [(1, 61)]) o__p_23_
  have o__p_24_ := pw_apl (l := [(1, 61)]) o__p_24_
  have o__p_25_ := on_
  have hl := pw_len1 (x := (1, 61)) hl
  refine PW.putFR g fi_ft_43 rfl (fun C_ T_ N_ ty_ h_ => by cases Option.some.inj (ck_ft.1.symm.trans h_.1); exact (pw_gw 362 (by decide +kernel) (by decide +kernel))) (fun C_ T_ N_ ty_ h_ => by cases Option.some.inj (ck_ft.1.symm.trans h_.1); rfl) hp rfl rfl d_ft_init_66 ?_
  refine PW.aload_n g rfl rfl d_ft_init_69 ?_
  refine PW.bipush g (61) (by decide) d_ft_init_70 ?_
  refine PW.newaI (nc := 0) (ns := 0) g 61 (p + 26) hl (by decide) (by decide) (by decide) d_ft_init_72 ?_
  have on_ := pw_apn (x := (1, 61)) hl
  have hp := pw_apl (l := [(1, 61)]) hp
  have o__p_1_ := pw_apl (l := [(1, 61)]) o__p_1_
  have o__p_2_ := pw_apl (l := [(1, 61)]) o__p_2_
  have o__p_7_ := pw_apl (l := [(1, 61)]) o__p_7_
  have o__p_14_ := pw_apl (l := [(1, 61)]) o__p_14_
  have o__p_23_ := pw_apl (l := [(1, 61)]) o__p_23_
  have o__p_24_ := pw_apl (l := [(1, 61)]) o__p_24_
  have o__p_25_ := pw_apl (l := [(1, 61)]) o__p_25_
  have o__p_26_ := on_
  have hl := pw_len1 (x := (1, 61)) hl
  refine PW.putFR g fi_ft_46 rfl (fun C_ T_ N_ ty_ h_ => by cases Option.some.inj (ck_ft.1.symm.trans h_.1); exact (pw_gw 365 (by decide +kernel) (by decide +kernel))) (fun C_ T_ N_ ty_ h_ => by cases Option.some.inj (ck_ft.1.symm.trans h_.1); rfl) hp rfl rfl d_ft_init_74 ?_
  exact PW.vret g hF rfl d_ft_init_77 ⟨rfl, rfl, rfl, by simp [ks_ft, ks_ck, ks_cd, ks_dr, ks_st, ks_rl, ks_tk, ks_oc]⟩
def kI_ev (p : Nat) (I : pI) : pI := (pw_zI (pw_zI (pw_zI (pw_zI (pw_zI I (p + 1)) (p + 2)) (p + 3)) (p + 4)) (p + 5))
def kR_ev (p : Nat) (f : Nat) (o : Nat) (R : pR) : pR := (pw_wR (pw_wR (pw_wR (pw_wR (pw_wR (pw_wR (pw_wR R p 0 (some (p + 1))) p 1 (some (p + 2))) p 2 (some (p + 3))) p 3 (some (p + 4))) p 4 (some (p + 5))) p 5 (some f)) p 6 (some o))
theorem kr_ev {p x : Nat} {f : Nat} {o : Nat} {R : pR} (h : x < p) : kR_ev p f o R x = R x := by
  have h0 : x ≠ p := by omega
  have h1 : ∀ k, x ≠ p + k := fun k => by omega
  simp [kR_ev, pw_wR, pw_zR, h0, h1]
def ks_ev : pS := [(1, 120), (1, 120), (1, 120), (1, 120), (1, 22)]
set_option maxHeartbeats 4000000 in
set_option maxRecDepth 100000 in
theorem k_ev_init (d : Nat) {p : Nat} {f : Nat} {o : Nat} {I : pI} {R : pR} {sh : pS} (hp : sh[p]? = some (0, 4)) (hf : sh[f]? = some (0, 5)) (ho : sh[o]? = some (0, 6)) (hl : sh.length = p + 1) : Ctr (d + 2) 5 502 m_ev_init [.ref p, .ref f, .ref o] I R sh (fun r I1 R1 sh1 => r = none ∧ I1 = kI_ev p I ∧ R1 = kR_ev p f o R ∧ sh1 = sh ++ ks_ev) := by
  refine Ctr.of [some (.ref p), some (.ref f), some (.ref o)] (by decide) rfl (Nat.le_of_ble_eq_true rfl) (by simp) (fun E B g hF => ?_)
  refine PW.aload_n g rfl rfl d_ev_init_0 ?_
  refine PW.objInit g (pw_gw 460 (by decide +kernel) (by decide +kernel)) (pw_d1 (by decide)) rfl (Nat.le_of_ble_eq_true rfl) d_ev_init_1 ?_
  refine PW.aload_n g rfl rfl d_ev_init_4 ?_
  refine PW.bipush g (120) (by decide) d_ev_init_5 ?_
  refine PW.newaI (nc := 4) (ns := 382) g 120 (p + 1) hl (by decide) (by decide) (by decide) d_ev_init_7 ?_
  have on_ := pw_apn (x := (1, 120)) hl
  have hp := pw_apl (l := [(1, 120)]) hp
  have hf := pw_apl (l := [(1, 120)]) hf
  have ho := pw_apl (l := [(1, 120)]) ho
  have o__p_1_ := on_
  have hl := pw_len1 (x := (1, 120)) hl
  refine PW.putFR g fi_ev_9 rfl (fun C_ T_ N_ ty_ h_ => by cases Option.some.inj (ck_ev.1.symm.trans h_.1); exact (pw_gw 461 (by decide +kernel) (by decide +kernel))) (fun C_ T_ N_ ty_ h_ => by cases Option.some.inj (ck_ev.1.symm.trans h_.1); rfl) hp rfl rfl d_ev_init_9 ?_
  refine PW.aload_n g rfl rfl d_ev_init_12 ?_
  refine PW.bipush g (120) (by decide) d_ev_init_13 ?_
  refine PW.newaI (nc := 3) (ns := 262) g 120 (p + 2) hl (by decide) (by decide) (by decide) d_ev_init_15 ?_
  have on_ := pw_apn (x := (1, 120)) hl
  have hp := pw_apl (l := [(1, 120)]) hp
  have hf := pw_apl (l := [(1, 120)]) hf
  have ho := pw_apl (l := [(1, 120)]) ho
  have o__p_1_ := pw_apl (l := [(1, 120)]) o__p_1_
  have o__p_2_ := on_
  have hl := pw_len1 (x := (1, 120)) hl
  refine PW.putFR g fi_ev_15 rfl (fun C_ T_ N_ ty_ h_ => by cases Option.some.inj (ck_ev.1.symm.trans h_.1); exact (pw_gw 462 (by decide +kernel) (by decide +kernel))) (fun C_ T_ N_ ty_ h_ => by cases Option.some.inj (ck_ev.1.symm.trans h_.1); rfl) hp rfl rfl d_ev_init_17 ?_
  refine PW.aload_n g rfl rfl d_ev_init_20 ?_
  refine PW.bipush g (120) (by decide) d_ev_init_21 ?_
  refine PW.newaI (nc := 2) (ns := 142) g 120 (p + 3) hl (by decide) (by decide) (by decide) d_ev_init_23 ?_
  have on_ := pw_apn (x := (1, 120)) hl
  have hp := pw_apl (l := [(1, 120)]) hp
  have hf := pw_apl (l := [(1, 120)]) hf
  have ho := pw_apl (l := [(1, 120)]) ho
  have o__p_1_ := pw_apl (l := [(1, 120)]) o__p_1_
  have o__p_2_ := pw_apl (l := [(1, 120)]) o__p_2_
  have o__p_3_ := on_
  have hl := pw_len1 (x := (1, 120)) hl
  refine PW.putFR g fi_ev_18 rfl (fun C_ T_ N_ ty_ h_ => by cases Option.some.inj (ck_ev.1.symm.trans h_.1); exact (pw_gw 464 (by decide +kernel) (by decide +kernel))) (fun C_ T_ N_ ty_ h_ => by cases Option.some.inj (ck_ev.1.symm.trans h_.1); rfl) hp rfl rfl d_ev_init_25 ?_
  refine PW.aload_n g rfl rfl d_ev_init_28 ?_
  refine PW.bipush g (120) (by decide) d_ev_init_29 ?_
  refine PW.newaI (nc := 1) (ns := 22) g 120 (p + 4) hl (by decide) (by decide) (by decide) d_ev_init_31 ?_
  have on_ := pw_apn (x := (1, 120)) hl
  have hp := pw_apl (l := [(1, 120)]) hp
  have hf := pw_apl (l := [(1, 120)]) hf
  have ho := pw_apl (l := [(1, 120)]) ho
  have o__p_1_ := pw_apl (l := [(1, 120)]) o__p_1_
  have o__p_2_ := pw_apl (l := [(1, 120)]) o__p_2_
  have o__p_3_ := pw_apl (l := [(1, 120)]) o__p_3_
  have o__p_4_ := on_
  have hl := pw_len1 (x := (1, 120)) hl
  refine PW.putFR g fi_ev_21 rfl (fun C_ T_ N_ ty_ h_ => by cases Option.some.inj (ck_ev.1.symm.trans h_.1); exact (pw_gw 466 (by decide +kernel) (by decide +kernel))) (fun C_ T_ N_ ty_ h_ => by cases Option.some.inj (ck_ev.1.symm.trans h_.1); rfl) hp rfl rfl d_ev_init_33 ?_
  refine PW.aload_n g rfl rfl d_ev_init_36 ?_
  refine PW.bipush g (22) (by decide) d_ev_init_37 ?_
  refine PW.newaI (nc := 0) (ns := 0) g 22 (p + 5) hl (by decide) (by decide) (by decide) d_ev_init_39 ?_
  have on_ := pw_apn (x := (1, 22)) hl
  have hp := pw_apl (l := [(1, 22)]) hp
  have hf := pw_apl (l := [(1, 22)]) hf
  have ho := pw_apl (l := [(1, 22)]) ho
  have o__p_1_ := pw_apl (l := [(1, 22)]) o__p_1_
  have o__p_2_ := pw_apl (l := [(1, 22)]) o__p_2_
  have o__p_3_ := pw_apl (l := [(1, 22)]) o__p_3_
  have o__p_4_ := pw_apl (l := [(1, 22)]) o__p_4_
  have o__p_5_ := on_
  have hl := pw_len1 (x := (1, 22)) hl
  refine PW.putFR g fi_ev_24 rfl (fun C_ T_ N_ ty_ h_ => by cases Option.some.inj (ck_ev.1.symm.trans h_.1); exact (pw_gw 468 (by decide +kernel) (by decide +kernel))) (fun C_ T_ N_ ty_ h_ => by cases Option.some.inj (ck_ev.1.symm.trans h_.1); rfl) hp rfl rfl d_ev_init_41 ?_
  refine PW.aload_n g rfl rfl d_ev_init_44 ?_
  refine PW.aload_n g rfl rfl d_ev_init_45 ?_
  refine PW.putR g fi_ev_27 hp rfl rfl d_ev_init_46 ?_
  refine PW.aload_n g rfl rfl d_ev_init_49 ?_
  refine PW.aload_n g rfl rfl d_ev_init_50 ?_
  refine PW.putR g fi_ev_31 hp rfl rfl d_ev_init_51 ?_
  exact PW.vret g hF rfl d_ev_init_54 ⟨rfl, rfl, rfl, by simp [ks_ev, ks_ck, ks_cd, ks_dr, ks_st, ks_rl, ks_tk, ks_oc, ks_ft]⟩
def kI_ps (p : Nat) (I : pI) : pI := (kI_tk (p + 1) (pw_zI I (p + 1)))
def kR_ps (p : Nat) (f : Nat) (R : pR) : pR := (pw_wR (pw_wR (kR_tk (p + 1) (pw_zR R (p + 1))) p 0 (some (p + 1))) p 1 (some f))
theorem kr_ps {p x : Nat} {f : Nat} {R : pR} (h : x < p) : kR_ps p f R x = R x := by
  have h0 : x ≠ p := by omega
  have h1 : ∀ k, x ≠ p + k := fun k => by omega
  have etk_1 : ∀ R : pR, kR_tk (p + 1) R x = R x := fun R => kr_tk (by omega)
  simp [kR_ps, pw_wR, pw_zR, h0, h1, etk_1]
def ks_ps : pS := [(0, 11), (1, 120), (1, 120), (1, 120), (1, 120)]
set_option maxHeartbeats 4000000 in
set_option maxRecDepth 100000 in
theorem k_ps_init (d : Nat) {p : Nat} {f : Nat} {I : pI} {R : pR} {sh : pS} (hp : sh[p]? = some (0, 7)) (hf : sh[f]? = some (0, 5)) (hl : sh.length = p + 1) : Ctr (d + 3) 5 486 m_ps_init [.ref p, .ref f] I R sh (fun r I1 R1 sh1 => r = none ∧ I1 = kI_ps p I ∧ R1 = kR_ps p f R ∧ sh1 = sh ++ ks_ps) := by
  refine Ctr.of [some (.ref p), some (.ref f)] (by decide) rfl (Nat.le_of_ble_eq_true rfl) (by simp) (fun E B g hF => ?_)
  refine PW.aload_n g rfl rfl d_ps_init_0 ?_
  refine PW.objInit g (pw_gw 404 (by decide +kernel) (by decide +kernel)) (pw_d1 (by decide)) rfl (Nat.le_of_ble_eq_true rfl) d_ps_init_1 ?_
  refine PW.aload_n g rfl rfl d_ps_init_4 ?_
  refine PW.newo (nc := 4) (ns := 480) g (p + 1) ck_tk dv_tk (pw_gw 405 (by decide +kernel) (by decide +kernel)) (pw_gw 406 (by decide +kernel) (by decide +kernel)) (pw_gw 109 (by decide +kernel) (by decide +kernel)) hl d_ps_init_5 ?_
  have on_ := pw_apn (x := (0, 11)) hl
  have hp := pw_apl (l := [(0, 11)]) hp
  have hf := pw_apl (l := [(0, 11)]) hf
  have o__p_1_ := on_
  have hl := pw_len1 (x := (0, 11)) hl
  refine PW.dup g rfl d_ps_init_8 ?_
  refine PW.callI (mc2 := 4) (ms2 := 480) (nc := 0) (ns := 0) [] [.ref (p + 1), .ref p] g (k_tk_init d o__p_1_ hl) cl_ps_11 (pw_dl (by decide)) (by decide) rfl rfl (Nat.le_of_ble_eq_true rfl) d_ps_init_9 (fun r_ I_ R_ sh_ hh => ?_)
  obtain ⟨rfl, rfl, rfl, rfl⟩ := hh
  have hp := pw_apl (l := ks_tk) hp
  have hf := pw_apl (l := ks_tk) hf
  have o__p_1_ := pw_apl (l := ks_tk) o__p_1_
  have hl := pw_lenk (l := ks_tk) (n := (p + 6)) hl (by simp [ks_tk])
  refine PW.putFR g fi_ps_12 rfl (fun C_ T_ N_ ty_ h_ => by cases Option.some.inj (ck_ps.1.symm.trans h_.1); exact (pw_gw 433 (by decide +kernel) (by decide +kernel))) (fun C_ T_ N_ ty_ h_ => by cases Option.some.inj (ck_ps.1.symm.trans h_.1); rfl) hp rfl rfl d_ps_init_12 ?_
  refine PW.aload_n g rfl rfl d_ps_init_15 ?_
  refine PW.aload_n g rfl rfl d_ps_init_16 ?_
  refine PW.putR g fi_ps_18 hp rfl rfl d_ps_init_17 ?_
  exact PW.vret g hF rfl d_ps_init_20 ⟨rfl, rfl, rfl, by simp [ks_ps, ks_ck, ks_cd, ks_dr, ks_st, ks_rl, ks_tk, ks_oc, ks_ft, ks_ev]⟩
def kI_rn (p : Nat) (I : pI) : pI := (kI_ev (p + 1) (pw_zI I (p + 1)))
def kR_rn (p : Nat) (f : Nat) (o : Nat) (R : pR) : pR := (pw_wR (kR_ev (p + 1) f o (pw_zR (pw_wR (pw_wR R p 1 (some f)) p 2 (some o)) (p + 1))) p 0 (some (p + 1)))
theorem kr_rn {p x : Nat} {f : Nat} {o : Nat} {R : pR} (h : x < p) : kR_rn p f o R x = R x := by
  have h0 : x ≠ p := by omega
  have h1 : ∀ k, x ≠ p + k := fun k => by omega
  have eev_1 : ∀ R : pR, kR_ev (p + 1) f o R x = R x := fun R => kr_ev (by omega)
  simp [kR_rn, pw_wR, pw_zR, h0, h1, eev_1]
def ks_rn : pS := [(0, 4), (1, 120), (1, 120), (1, 120), (1, 120), (1, 22)]
set_option maxHeartbeats 4000000 in
set_option maxRecDepth 100000 in
theorem k_rn_init (d : Nat) {p : Nat} {f : Nat} {o : Nat} {I : pI} {R : pR} {sh : pS} (hp : sh[p]? = some (0, 9)) (hf : sh[f]? = some (0, 5)) (ho : sh[o]? = some (0, 6)) (hl : sh.length = p + 1) : Ctr (d + 3) 6 515 m_rn_init [.ref p, .ref f, .ref o] I R sh (fun r I1 R1 sh1 => r = none ∧ I1 = kI_rn p I ∧ R1 = kR_rn p f o R ∧ sh1 = sh ++ ks_rn) := by
  refine Ctr.of [some (.ref p), some (.ref f), some (.ref o)] (by decide) rfl (Nat.le_of_ble_eq_true rfl) (by simp) (fun E B g hF => ?_)
  refine PW.aload_n g rfl rfl d_rn_init_0 ?_
  refine PW.objInit g (pw_gw 454 (by decide +kernel) (by decide +kernel)) (pw_d1 (by decide)) rfl (Nat.le_of_ble_eq_true rfl) d_rn_init_1 ?_
  refine PW.aload_n g rfl rfl d_rn_init_4 ?_
  refine PW.aload_n g rfl rfl d_rn_init_5 ?_
  refine PW.putR g fi_rn_9 hp rfl rfl d_rn_init_6 ?_
  refine PW.aload_n g rfl rfl d_rn_init_9 ?_
  refine PW.aload_n g rfl rfl d_rn_init_10 ?_
  refine PW.putR g fi_rn_15 hp rfl rfl d_rn_init_11 ?_
  refine PW.aload_n g rfl rfl d_rn_init_14 ?_
  refine PW.newo (nc := 5) (ns := 502) g (p + 1) ck_ev dv_ev (pw_gw 455 (by decide +kernel) (by decide +kernel)) (pw_gw 456 (by decide +kernel) (by decide +kernel)) (pw_gw 111 (by decide +kernel) (by decide +kernel)) hl d_rn_init_15 ?_
  have on_ := pw_apn (x := (0, 4)) hl
  have hp := pw_apl (l := [(0, 4)]) hp
  have hf := pw_apl (l := [(0, 4)]) hf
  have ho := pw_apl (l := [(0, 4)]) ho
  have o__p_1_ := on_
  have hl := pw_len1 (x := (0, 4)) hl
  refine PW.dup g rfl d_rn_init_18 ?_
  refine PW.aload_n g rfl rfl d_rn_init_19 ?_
  refine PW.aload_n g rfl rfl d_rn_init_20 ?_
  refine PW.callI (mc2 := 5) (ms2 := 502) (nc := 0) (ns := 0) [.ref f, .ref o] [.ref (p + 1), .ref p] g (k_ev_init d o__p_1_ hf ho hl) cl_rn_21 (pw_dl (by decide)) (by decide) rfl rfl (Nat.le_of_ble_eq_true rfl) d_rn_init_21 (fun r_ I_ R_ sh_ hh => ?_)
  obtain ⟨rfl, rfl, rfl, rfl⟩ := hh
  have hp := pw_apl (l := ks_ev) hp
  have hf := pw_apl (l := ks_ev) hf
  have ho := pw_apl (l := ks_ev) ho
  have o__p_1_ := pw_apl (l := ks_ev) o__p_1_
  have hl := pw_lenk (l := ks_ev) (n := (p + 7)) hl (by simp [ks_ev])
  refine PW.putFR g fi_rn_24 rfl (fun C_ T_ N_ ty_ h_ => by cases Option.some.inj (ck_rn.1.symm.trans h_.1); exact (pw_gw 508 (by decide +kernel) (by decide +kernel))) (fun C_ T_ N_ ty_ h_ => by cases Option.some.inj (ck_rn.1.symm.trans h_.1); rfl) hp rfl rfl d_rn_init_24 ?_
  exact PW.vret g hF rfl d_rn_init_27 ⟨rfl, rfl, rfl, by simp [ks_rn, ks_ck, ks_cd, ks_dr, ks_st, ks_rl, ks_tk, ks_oc, ks_ft, ks_ev, ks_ps]⟩
def kI_md (I : pI) : pI := (pw_zI (pw_zI (pw_zI (pw_zI (pw_zI (pw_zI (pw_zI (pw_zI (pw_zI (pw_zI (pw_zI (pw_zI (pw_zI (pw_zI (pw_zI (pw_zI (pw_zI (pw_wI (pw_zI (pw_zI (pw_zI (pw_zI (pw_zI (pw_zI (pw_zI (pw_zI (pw_zI (pw_zI (pw_zI (pw_zI (pw_zI (pw_zI (pw_zI (pw_zI (pw_zI (pw_zI (pw_zI (pw_zI (pw_zI (pw_zI (pw_zI (pw_zI (pw_zI (pw_zI (pw_zI (pw_zI (pw_zI (pw_zI (pw_zI (pw_zI (pw_zI (pw_zI (pw_zI (pw_zI I 122) 123) 124) 125) 126) 127) 128) 129) 130) 131) 132) 133) 134) 135) 136) 137) 138) 139) 140) 141) 142) 143) 144) 145) 146) 147) 148) 149) 150) 151) 152) 153) 154) 155) 156) 157) 121 56 (-1 : Int32)) 158) 159) 160) 161) 162) 163) 164) 165) 166) 167) 168) 169) 170) 171) 172) 173) 174)
def kR_md (R : pR) : pR := (pw_wR (pw_wR (pw_wR (pw_wR (pw_wR (pw_wR (pw_wR (pw_wR (pw_wR (pw_wR (pw_wR (pw_wR (pw_wR (pw_wR (pw_wR (pw_wR (pw_wR (pw_wR (pw_wR (pw_wR (pw_wR (pw_wR (pw_wR (pw_wR (pw_wR (pw_wR (pw_wR (pw_wR (pw_wR (pw_wR (pw_wR (pw_wR (pw_wR (pw_wR (pw_wR (pw_wR (pw_wR (pw_wR (pw_wR (pw_wR (pw_wR (pw_wR (pw_wR (pw_wR (pw_wR (pw_wR (pw_wR (pw_wR (pw_wR (pw_wR (pw_wR (pw_wR (pw_wR R 121 1 (some 122)) 121 3 (some 123)) 121 4 (some 124)) 121 5 (some 125)) 121 6 (some 126)) 121 11 (some 127)) 121 12 (some 128)) 121 13 (some 129)) 121 14 (some 130)) 121 16 (some 131)) 121 17 (some 132)) 121 18 (some 133)) 121 19 (some 134)) 121 20 (some 135)) 121 21 (some 136)) 121 22 (some 137)) 121 23 (some 138)) 121 24 (some 139)) 121 25 (some 140)) 121 26 (some 141)) 121 27 (some 142)) 121 28 (some 143)) 121 29 (some 144)) 121 30 (some 145)) 121 31 (some 146)) 121 36 (some 147)) 121 37 (some 148)) 121 38 (some 149)) 121 40 (some 150)) 121 41 (some 151)) 121 42 (some 152)) 121 48 (some 153)) 121 49 (some 154)) 121 50 (some 155)) 121 51 (some 156)) 121 53 (some 157)) 121 57 (some 158)) 121 64 (some 159)) 121 66 (some 160)) 121 67 (some 161)) 121 70 (some 162)) 121 71 (some 163)) 121 72 (some 164)) 121 73 (some 165)) 121 74 (some 166)) 121 75 (some 167)) 121 76 (some 168)) 121 77 (some 169)) 121 78 (some 170)) 121 79 (some 171)) 121 80 (some 172)) 121 81 (some 173)) 121 82 (some 174))
def ks_md : pS := [(1, 120), (1, 128), (1, 128), (1, 128), (1, 128), (1, 240), (1, 800), (1, 800), (1, 800), (1, 200), (1, 200), (1, 200), (1, 200), (1, 200), (1, 200), (1, 200), (1, 200), (1, 200), (1, 200), (1, 200), (1, 200), (1, 200), (1, 200), (1, 200), (1, 240), (1, 2), (1, 2), (1, 2), (1, 64), (1, 64), (1, 64), (1, 170), (1, 170), (1, 170), (1, 170), (1, 80), (1, 64), (1, 800), (1, 200), (1, 200), (1, 120), (1, 6), (1, 6), (3, 6), (1, 156), (1, 12), (1, 6), (1, 720), (1, 720), (1, 6), (1, 6), (1, 120), (1, 130)]
set_option maxHeartbeats 4000000 in
set_option maxRecDepth 100000 in
theorem k_md_init (d : Nat) {I : pI} {R : pR} {sh : pS} (hp : sh[121]? = some (0, 12)) (hl : sh.length = 121 + 1) : Ctr (d + 2) 53 10748 m_md_init [.ref 121] I R sh (fun r I1 R1 sh1 => r = none ∧ I1 = kI_md I ∧ R1 = kR_md R ∧ sh1 = sh ++ ks_md) := by
  refine Ctr.of [some (.ref 121)] (by decide) rfl (Nat.le_of_ble_eq_true rfl) (by simp) (fun E B g hF => ?_)
  refine PW.aload_n g rfl rfl d_md_init_0 ?_
  refine PW.objInit g (pw_gw 1119 (by decide +kernel) (by decide +kernel)) (pw_d1 (by decide)) rfl (Nat.le_of_ble_eq_true rfl) d_md_init_1 ?_
  refine PW.aload_n g rfl rfl d_md_init_4 ?_
  refine PW.bipush g (120) (by decide) d_md_init_5 ?_
  refine PW.newaI (nc := 52) (ns := 10628) g 120 122 hl (by decide) (by decide) (by decide) d_md_init_7 ?_
  have on_ := pw_apn (x := (1, 120)) hl
  have hp := pw_apl (l := [(1, 120)]) hp
  have o_122 := on_
  have hl := pw_len1 (x := (1, 120)) hl
  refine PW.putFR g fi_md_7 rfl (fun C_ T_ N_ ty_ h_ => by cases Option.some.inj (ck_md.1.symm.trans h_.1); exact (pw_gw 1121 (by decide +kernel) (by decide +kernel))) (fun C_ T_ N_ ty_ h_ => by cases Option.some.inj (ck_md.1.symm.trans h_.1); rfl) hp rfl rfl d_md_init_9 ?_
  refine PW.aload_n g rfl rfl d_md_init_12 ?_
  refine PW.sipush g (128) (by decide) d_md_init_13 ?_
  refine PW.newaI (nc := 51) (ns := 10500) g 128 123 hl (by decide) (by decide) (by decide) d_md_init_16 ?_
  have on_ := pw_apn (x := (1, 128)) hl
  have hp := pw_apl (l := [(1, 128)]) hp
  have o_122 := pw_apl (l := [(1, 128)]) o_122
  have o_123 := on_
  have hl := pw_len1 (x := (1, 128)) hl
  refine PW.putFR g fi_md_13 rfl (fun C_ T_ N_ ty_ h_ => by cases Option.some.inj (ck_md.1.symm.trans h_.1); exact (pw_gw 1123 (by decide +kernel) (by decide +kernel))) (fun C_ T_ N_ ty_ h_ => by cases Option.some.inj (ck_md.1.symm.trans h_.1); rfl) hp rfl rfl d_md_init_18 ?_
  refine PW.aload_n g rfl rfl d_md_init_21 ?_
  refine PW.sipush g (128) (by decide) d_md_init_22 ?_
  refine PW.newaI (nc := 50) (ns := 10372) g 128 124 hl (by decide) (by decide) (by decide) d_md_init_25 ?_
  have on_ := pw_apn (x := (1, 128)) hl
  have hp := pw_apl (l := [(1, 128)]) hp
  have o_122 := pw_apl (l := [(1, 128)]) o_122
  have o_123 := pw_apl (l := [(1, 128)]) o_123
  have o_124 := on_
  have hl := pw_len1 (x := (1, 128)) hl
  refine PW.putFR g fi_md_16 rfl (fun C_ T_ N_ ty_ h_ => by cases Option.some.inj (ck_md.1.symm.trans h_.1); exact (pw_gw 1124 (by decide +kernel) (by decide +kernel))) (fun C_ T_ N_ ty_ h_ => by cases Option.some.inj (ck_md.1.symm.trans h_.1); rfl) hp rfl rfl d_md_init_27 ?_
  refine PW.aload_n g rfl rfl d_md_init_30 ?_
  refine PW.sipush g (128) (by decide) d_md_init_31 ?_
  refine PW.newaI (nc := 49) (ns := 10244) g 128 125 hl (by decide) (by decide) (by decide) d_md_init_34 ?_
  have on_ := pw_apn (x := (1, 128)) hl
  have hp := pw_apl (l := [(1, 128)]) hp
  have o_122 := pw_apl (l := [(1, 128)]) o_122
  have o_123 := pw_apl (l := [(1, 128)]) o_123
  have o_124 := pw_apl (l := [(1, 128)]) o_124
  have o_125 := on_
  have hl := pw_len1 (x := (1, 128)) hl
  refine PW.putFR g fi_md_19 rfl (fun C_ T_ N_ ty_ h_ => by cases Option.some.inj (ck_md.1.symm.trans h_.1); exact (pw_gw 1125 (by decide +kernel) (by decide +kernel))) (fun C_ T_ N_ ty_ h_ => by cases Option.some.inj (ck_md.1.symm.trans h_.1); rfl) hp rfl rfl d_md_init_36 ?_
  refine PW.aload_n g rfl rfl d_md_init_39 ?_
  refine PW.sipush g (128) (by decide) d_md_init_40 ?_
  refine PW.newaI (nc := 48) (ns := 10116) g 128 126 hl (by decide) (by decide) (by decide) d_md_init_43 ?_
  have on_ := pw_apn (x := (1, 128)) hl
  have hp := pw_apl (l := [(1, 128)]) hp
  have o_122 := pw_apl (l := [(1, 128)]) o_122
  have o_123 := pw_apl (l := [(1, 128)]) o_123
  have o_124 := pw_apl (l := [(1, 128)]) o_124
  have o_125 := pw_apl (l := [(1, 128)]) o_125
  have o_126 := on_
  have hl := pw_len1 (x := (1, 128)) hl
  refine PW.putFR g fi_md_22 rfl (fun C_ T_ N_ ty_ h_ => by cases Option.some.inj (ck_md.1.symm.trans h_.1); exact (pw_gw 1126 (by decide +kernel) (by decide +kernel))) (fun C_ T_ N_ ty_ h_ => by cases Option.some.inj (ck_md.1.symm.trans h_.1); rfl) hp rfl rfl d_md_init_45 ?_
  refine PW.aload_n g rfl rfl d_md_init_48 ?_
  refine PW.sipush g (240) (by decide) d_md_init_49 ?_
  refine PW.newaI (nc := 47) (ns := 9876) g 240 127 hl (by decide) (by decide) (by decide) d_md_init_52 ?_
  have on_ := pw_apn (x := (1, 240)) hl
  have hp := pw_apl (l := [(1, 240)]) hp
  have o_122 := pw_apl (l := [(1, 240)]) o_122
  have o_123 := pw_apl (l := [(1, 240)]) o_123
  have o_124 := pw_apl (l := [(1, 240)]) o_124
  have o_125 := pw_apl (l := [(1, 240)]) o_125
  have o_126 := pw_apl (l := [(1, 240)]) o_126
  have o_127 := on_
  have hl := pw_len1 (x := (1, 240)) hl
  refine PW.putFR g fi_md_25 rfl (fun C_ T_ N_ ty_ h_ => by cases Option.some.inj (ck_md.1.symm.trans h_.1); exact (pw_gw 1131 (by decide +kernel) (by decide +kernel))) (fun C_ T_ N_ ty_ h_ => by cases Option.some.inj (ck_md.1.symm.trans h_.1); rfl) hp rfl rfl d_md_init_54 ?_
  refine PW.aload_n g rfl rfl d_md_init_57 ?_
  refine PW.sipush g (800) (by decide) d_md_init_58 ?_
  refine PW.newaI (nc := 46) (ns := 9076) g 800 128 hl (by decide) (by decide) (by decide) d_md_init_61 ?_
  have on_ := pw_apn (x := (1, 800)) hl
  have hp := pw_apl (l := [(1, 800)]) hp
  have o_122 := pw_apl (l := [(1, 800)]) o_122
  have o_123 := pw_apl (l := [(1, 800)]) o_123
  have o_124 := pw_apl (l := [(1, 800)]) o_124
  have o_125 := pw_apl (l := [(1, 800)]) o_125
  have o_126 := pw_apl (l := [(1, 800)]) o_126
  have o_127 := pw_apl (l := [(1, 800)]) o_127
  have o_128 := on_
  have hl := pw_len1 (x := (1, 800)) hl
  refine PW.putFR g fi_md_28 rfl (fun C_ T_ N_ ty_ h_ => by cases Option.some.inj (ck_md.1.symm.trans h_.1); exact (pw_gw 1132 (by decide +kernel) (by decide +kernel))) (fun C_ T_ N_ ty_ h_ => by cases Option.some.inj (ck_md.1.symm.trans h_.1); rfl) hp rfl rfl d_md_init_63 ?_
  refine PW.aload_n g rfl rfl d_md_init_66 ?_
  refine PW.sipush g (800) (by decide) d_md_init_67 ?_
  refine PW.newaI (nc := 45) (ns := 8276) g 800 129 hl (by decide) (by decide) (by decide) d_md_init_70 ?_
  have on_ := pw_apn (x := (1, 800)) hl
  have hp := pw_apl (l := [(1, 800)]) hp
  have o_122 := pw_apl (l := [(1, 800)]) o_122
  have o_123 := pw_apl (l := [(1, 800)]) o_123
  have o_124 := pw_apl (l := [(1, 800)]) o_124
  have o_125 := pw_apl (l := [(1, 800)]) o_125
  have o_126 := pw_apl (l := [(1, 800)]) o_126
  have o_127 := pw_apl (l := [(1, 800)]) o_127
  have o_128 := pw_apl (l := [(1, 800)]) o_128
  have o_129 := on_
  have hl := pw_len1 (x := (1, 800)) hl
  refine PW.putFR g fi_md_31 rfl (fun C_ T_ N_ ty_ h_ => by cases Option.some.inj (ck_md.1.symm.trans h_.1); exact (pw_gw 1133 (by decide +kernel) (by decide +kernel))) (fun C_ T_ N_ ty_ h_ => by cases Option.some.inj (ck_md.1.symm.trans h_.1); rfl) hp rfl rfl d_md_init_72 ?_
  refine PW.aload_n g rfl rfl d_md_init_75 ?_
  refine PW.sipush g (800) (by decide) d_md_init_76 ?_
  refine PW.newaI (nc := 44) (ns := 7476) g 800 130 hl (by decide) (by decide) (by decide) d_md_init_79 ?_
  have on_ := pw_apn (x := (1, 800)) hl
  have hp := pw_apl (l := [(1, 800)]) hp
  have o_122 := pw_apl (l := [(1, 800)]) o_122
  have o_123 := pw_apl (l := [(1, 800)]) o_123
  have o_124 := pw_apl (l := [(1, 800)]) o_124
  have o_125 := pw_apl (l := [(1, 800)]) o_125
  have o_126 := pw_apl (l := [(1, 800)]) o_126
  have o_127 := pw_apl (l := [(1, 800)]) o_127
  have o_128 := pw_apl (l := [(1, 800)]) o_128
  have o_129 := pw_apl (l := [(1, 800)]) o_129
  have o_130 := on_
  have hl := pw_len1 (x := (1, 800)) hl
  refine PW.putFR g fi_md_34 rfl (fun C_ T_ N_ ty_ h_ => by cases Option.some.inj (ck_md.1.symm.trans h_.1); exact (pw_gw 1134 (by decide +kernel) (by decide +kernel))) (fun C_ T_ N_ ty_ h_ => by cases Option.some.inj (ck_md.1.symm.trans h_.1); rfl) hp rfl rfl d_md_init_81 ?_
  refine PW.aload_n g rfl rfl d_md_init_84 ?_
  refine PW.sipush g (200) (by decide) d_md_init_85 ?_
  refine PW.newaI (nc := 43) (ns := 7276) g 200 131 hl (by decide) (by decide) (by decide) d_md_init_88 ?_
  have on_ := pw_apn (x := (1, 200)) hl
  have hp := pw_apl (l := [(1, 200)]) hp
  have o_122 := pw_apl (l := [(1, 200)]) o_122
  have o_123 := pw_apl (l := [(1, 200)]) o_123
  have o_124 := pw_apl (l := [(1, 200)]) o_124
  have o_125 := pw_apl (l := [(1, 200)]) o_125
  have o_126 := pw_apl (l := [(1, 200)]) o_126
  have o_127 := pw_apl (l := [(1, 200)]) o_127
  have o_128 := pw_apl (l := [(1, 200)]) o_128
  have o_129 := pw_apl (l := [(1, 200)]) o_129
  have o_130 := pw_apl (l := [(1, 200)]) o_130
  have o_131 := on_
  have hl := pw_len1 (x := (1, 200)) hl
  refine PW.putFR g fi_md_37 rfl (fun C_ T_ N_ ty_ h_ => by cases Option.some.inj (ck_md.1.symm.trans h_.1); exact (pw_gw 1136 (by decide +kernel) (by decide +kernel))) (fun C_ T_ N_ ty_ h_ => by cases Option.some.inj (ck_md.1.symm.trans h_.1); rfl) hp rfl rfl d_md_init_90 ?_
  refine PW.aload_n g rfl rfl d_md_init_93 ?_
  refine PW.sipush g (200) (by decide) d_md_init_94 ?_
  refine PW.newaI (nc := 42) (ns := 7076) g 200 132 hl (by decide) (by decide) (by decide) d_md_init_97 ?_
  have on_ := pw_apn (x := (1, 200)) hl
  have hp := pw_apl (l := [(1, 200)]) hp
  have o_122 := pw_apl (l := [(1, 200)]) o_122
  have o_123 := pw_apl (l := [(1, 200)]) o_123
  have o_124 := pw_apl (l := [(1, 200)]) o_124
  have o_125 := pw_apl (l := [(1, 200)]) o_125
  have o_126 := pw_apl (l := [(1, 200)]) o_126
  have o_127 := pw_apl (l := [(1, 200)]) o_127
  have o_128 := pw_apl (l := [(1, 200)]) o_128
  have o_129 := pw_apl (l := [(1, 200)]) o_129
  have o_130 := pw_apl (l := [(1, 200)]) o_130
  have o_131 := pw_apl (l := [(1, 200)]) o_131
  have o_132 := on_
  have hl := pw_len1 (x := (1, 200)) hl
  refine PW.putFR g fi_md_40 rfl (fun C_ T_ N_ ty_ h_ => by cases Option.some.inj (ck_md.1.symm.trans h_.1); exact (pw_gw 1137 (by decide +kernel) (by decide +kernel))) (fun C_ T_ N_ ty_ h_ => by cases Option.some.inj (ck_md.1.symm.trans h_.1); rfl) hp rfl rfl d_md_init_99 ?_
  refine PW.aload_n g rfl rfl d_md_init_102 ?_
  refine PW.sipush g (200) (by decide) d_md_init_103 ?_
  refine PW.newaI (nc := 41) (ns := 6876) g 200 133 hl (by decide) (by decide) (by decide) d_md_init_106 ?_
  have on_ := pw_apn (x := (1, 200)) hl
  have hp := pw_apl (l := [(1, 200)]) hp
  have o_122 := pw_apl (l := [(1, 200)]) o_122
  have o_123 := pw_apl (l := [(1, 200)]) o_123
  have o_124 := pw_apl (l := [(1, 200)]) o_124
  have o_125 := pw_apl (l := [(1, 200)]) o_125
  have o_126 := pw_apl (l := [(1, 200)]) o_126
  have o_127 := pw_apl (l := [(1, 200)]) o_127
  have o_128 := pw_apl (l := [(1, 200)]) o_128
  have o_129 := pw_apl (l := [(1, 200)]) o_129
  have o_130 := pw_apl (l := [(1, 200)]) o_130
  have o_131 := pw_apl (l := [(1, 200)]) o_131
  have o_132 := pw_apl (l := [(1, 200)]) o_132
  have o_133 := on_
  have hl := pw_len1 (x := (1, 200)) hl
  refine PW.putFR g fi_md_43 rfl (fun C_ T_ N_ ty_ h_ => by cases Option.some.inj (ck_md.1.symm.trans h_.1); exact (pw_gw 1138 (by decide +kernel) (by decide +kernel))) (fun C_ T_ N_ ty_ h_ => by cases Option.some.inj (ck_md.1.symm.trans h_.1); rfl) hp rfl rfl d_md_init_108 ?_
  refine PW.aload_n g rfl rfl d_md_init_111 ?_
  refine PW.sipush g (200) (by decide) d_md_init_112 ?_
  refine PW.newaI (nc := 40) (ns := 6676) g 200 134 hl (by decide) (by decide) (by decide) d_md_init_115 ?_
  have on_ := pw_apn (x := (1, 200)) hl
  have hp := pw_apl (l := [(1, 200)]) hp
  have o_122 := pw_apl (l := [(1, 200)]) o_122
  have o_123 := pw_apl (l := [(1, 200)]) o_123
  have o_124 := pw_apl (l := [(1, 200)]) o_124
  have o_125 := pw_apl (l := [(1, 200)]) o_125
  have o_126 := pw_apl (l := [(1, 200)]) o_126
  have o_127 := pw_apl (l := [(1, 200)]) o_127
  have o_128 := pw_apl (l := [(1, 200)]) o_128
  have o_129 := pw_apl (l := [(1, 200)]) o_129
  have o_130 := pw_apl (l := [(1, 200)]) o_130
  have o_131 := pw_apl (l := [(1, 200)]) o_131
  have o_132 := pw_apl (l := [(1, 200)]) o_132
  have o_133 := pw_apl (l := [(1, 200)]) o_133
  have o_134 := on_
  have hl := pw_len1 (x := (1, 200)) hl
  refine PW.putFR g fi_md_46 rfl (fun C_ T_ N_ ty_ h_ => by cases Option.some.inj (ck_md.1.symm.trans h_.1); exact (pw_gw 1139 (by decide +kernel) (by decide +kernel))) (fun C_ T_ N_ ty_ h_ => by cases Option.some.inj (ck_md.1.symm.trans h_.1); rfl) hp rfl rfl d_md_init_117 ?_
  refine PW.aload_n g rfl rfl d_md_init_120 ?_
  refine PW.sipush g (200) (by decide) d_md_init_121 ?_
  refine PW.newaI (nc := 39) (ns := 6476) g 200 135 hl (by decide) (by decide) (by decide) d_md_init_124 ?_
  have on_ := pw_apn (x := (1, 200)) hl
  have hp := pw_apl (l := [(1, 200)]) hp
  have o_122 := pw_apl (l := [(1, 200)]) o_122
  have o_123 := pw_apl (l := [(1, 200)]) o_123
  have o_124 := pw_apl (l := [(1, 200)]) o_124
  have o_125 := pw_apl (l := [(1, 200)]) o_125
  have o_126 := pw_apl (l := [(1, 200)]) o_126
  have o_127 := pw_apl (l := [(1, 200)]) o_127
  have o_128 := pw_apl (l := [(1, 200)]) o_128
  have o_129 := pw_apl (l := [(1, 200)]) o_129
  have o_130 := pw_apl (l := [(1, 200)]) o_130
  have o_131 := pw_apl (l := [(1, 200)]) o_131
  have o_132 := pw_apl (l := [(1, 200)]) o_132
  have o_133 := pw_apl (l := [(1, 200)]) o_133
  have o_134 := pw_apl (l := [(1, 200)]) o_134
  have o_135 := on_
  have hl := pw_len1 (x := (1, 200)) hl
  refine PW.putFR g fi_md_49 rfl (fun C_ T_ N_ ty_ h_ => by cases Option.some.inj (ck_md.1.symm.trans h_.1); exact (pw_gw 1140 (by decide +kernel) (by decide +kernel))) (fun C_ T_ N_ ty_ h_ => by cases Option.some.inj (ck_md.1.symm.trans h_.1); rfl) hp rfl rfl d_md_init_126 ?_
  refine PW.aload_n g rfl rfl d_md_init_129 ?_
  refine PW.sipush g (200) (by decide) d_md_init_130 ?_
  refine PW.newaI (nc := 38) (ns := 6276) g 200 136 hl (by decide) (by decide) (by decide) d_md_init_133 ?_
  have on_ := pw_apn (x := (1, 200)) hl
  have hp := pw_apl (l := [(1, 200)]) hp
  have o_122 := pw_apl (l := [(1, 200)]) o_122
  have o_123 := pw_apl (l := [(1, 200)]) o_123
  have o_124 := pw_apl (l := [(1, 200)]) o_124
  have o_125 := pw_apl (l := [(1, 200)]) o_125
  have o_126 := pw_apl (l := [(1, 200)]) o_126
  have o_127 := pw_apl (l := [(1, 200)]) o_127
  have o_128 := pw_apl (l := [(1, 200)]) o_128
  have o_129 := pw_apl (l := [(1, 200)]) o_129
  have o_130 := pw_apl (l := [(1, 200)]) o_130
  have o_131 := pw_apl (l := [(1, 200)]) o_131
  have o_132 := pw_apl (l := [(1, 200)]) o_132
  have o_133 := pw_apl (l := [(1, 200)]) o_133
  have o_134 := pw_apl (l := [(1, 200)]) o_134
  have o_135 := pw_apl (l := [(1, 200)]) o_135
  have o_136 := on_
  have hl := pw_len1 (x := (1, 200)) hl
  refine PW.putFR g fi_md_52 rfl (fun C_ T_ N_ ty_ h_ => by cases Option.some.inj (ck_md.1.symm.trans h_.1); exact (pw_gw 1141 (by decide +kernel) (by decide +kernel))) (fun C_ T_ N_ ty_ h_ => by cases Option.some.inj (ck_md.1.symm.trans h_.1); rfl) hp rfl rfl d_md_init_135 ?_
  refine PW.aload_n g rfl rfl d_md_init_138 ?_
  refine PW.sipush g (200) (by decide) d_md_init_139 ?_
  refine PW.newaI (nc := 37) (ns := 6076) g 200 137 hl (by decide) (by decide) (by decide) d_md_init_142 ?_
  have on_ := pw_apn (x := (1, 200)) hl
  have hp := pw_apl (l := [(1, 200)]) hp
  have o_122 := pw_apl (l := [(1, 200)]) o_122
  have o_123 := pw_apl (l := [(1, 200)]) o_123
  have o_124 := pw_apl (l := [(1, 200)]) o_124
  have o_125 := pw_apl (l := [(1, 200)]) o_125
  have o_126 := pw_apl (l := [(1, 200)]) o_126
  have o_127 := pw_apl (l := [(1, 200)]) o_127
  have o_128 := pw_apl (l := [(1, 200)]) o_128
  have o_129 := pw_apl (l := [(1, 200)]) o_129
  have o_130 := pw_apl (l := [(1, 200)]) o_130
  have o_131 := pw_apl (l := [(1, 200)]) o_131
  have o_132 := pw_apl (l := [(1, 200)]) o_132
  have o_133 := pw_apl (l := [(1, 200)]) o_133
  have o_134 := pw_apl (l := [(1, 200)]) o_134
  have o_135 := pw_apl (l := [(1, 200)]) o_135
  have o_136 := pw_apl (l := [(1, 200)]) o_136
  have o_137 := on_
  have hl := pw_len1 (x := (1, 200)) hl
  refine PW.putFR g fi_md_55 rfl (fun C_ T_ N_ ty_ h_ => by cases Option.some.inj (ck_md.1.symm.trans h_.1); exact (pw_gw 1142 (by decide +kernel) (by decide +kernel))) (fun C_ T_ N_ ty_ h_ => by cases Option.some.inj (ck_md.1.symm.trans h_.1); rfl) hp rfl rfl d_md_init_144 ?_
  refine PW.aload_n g rfl rfl d_md_init_147 ?_
  refine PW.sipush g (200) (by decide) d_md_init_148 ?_
  refine PW.newaI (nc := 36) (ns := 5876) g 200 138 hl (by decide) (by decide) (by decide) d_md_init_151 ?_
  have on_ := pw_apn (x := (1, 200)) hl
  have hp := pw_apl (l := [(1, 200)]) hp
  have o_122 := pw_apl (l := [(1, 200)]) o_122
  have o_123 := pw_apl (l := [(1, 200)]) o_123
  have o_124 := pw_apl (l := [(1, 200)]) o_124
  have o_125 := pw_apl (l := [(1, 200)]) o_125
  have o_126 := pw_apl (l := [(1, 200)]) o_126
  have o_127 := pw_apl (l := [(1, 200)]) o_127
  have o_128 := pw_apl (l := [(1, 200)]) o_128
  have o_129 := pw_apl (l := [(1, 200)]) o_129
  have o_130 := pw_apl (l := [(1, 200)]) o_130
  have o_131 := pw_apl (l := [(1, 200)]) o_131
  have o_132 := pw_apl (l := [(1, 200)]) o_132
  have o_133 := pw_apl (l := [(1, 200)]) o_133
  have o_134 := pw_apl (l := [(1, 200)]) o_134
  have o_135 := pw_apl (l := [(1, 200)]) o_135
  have o_136 := pw_apl (l := [(1, 200)]) o_136
  have o_137 := pw_apl (l := [(1, 200)]) o_137
  have o_138 := on_
  have hl := pw_len1 (x := (1, 200)) hl
  refine PW.putFR g fi_md_58 rfl (fun C_ T_ N_ ty_ h_ => by cases Option.some.inj (ck_md.1.symm.trans h_.1); exact (pw_gw 1143 (by decide +kernel) (by decide +kernel))) (fun C_ T_ N_ ty_ h_ => by cases Option.some.inj (ck_md.1.symm.trans h_.1); rfl) hp rfl rfl d_md_init_153 ?_
  refine PW.aload_n g rfl rfl d_md_init_156 ?_
  refine PW.sipush g (200) (by decide) d_md_init_157 ?_
  refine PW.newaI (nc := 35) (ns := 5676) g 200 139 hl (by decide) (by decide) (by decide) d_md_init_160 ?_
  have on_ := pw_apn (x := (1, 200)) hl
  have hp := pw_apl (l := [(1, 200)]) hp
  have o_122 := pw_apl (l := [(1, 200)]) o_122
  have o_123 := pw_apl (l := [(1, 200)]) o_123
  have o_124 := pw_apl (l := [(1, 200)]) o_124
  have o_125 := pw_apl (l := [(1, 200)]) o_125
  have o_126 := pw_apl (l := [(1, 200)]) o_126
  have o_127 := pw_apl (l := [(1, 200)]) o_127
  have o_128 := pw_apl (l := [(1, 200)]) o_128
  have o_129 := pw_apl (l := [(1, 200)]) o_129
  have o_130 := pw_apl (l := [(1, 200)]) o_130
  have o_131 := pw_apl (l := [(1, 200)]) o_131
  have o_132 := pw_apl (l := [(1, 200)]) o_132
  have o_133 := pw_apl (l := [(1, 200)]) o_133
  have o_134 := pw_apl (l := [(1, 200)]) o_134
  have o_135 := pw_apl (l := [(1, 200)]) o_135
  have o_136 := pw_apl (l := [(1, 200)]) o_136
  have o_137 := pw_apl (l := [(1, 200)]) o_137
  have o_138 := pw_apl (l := [(1, 200)]) o_138
  have o_139 := on_
  have hl := pw_len1 (x := (1, 200)) hl
  refine PW.putFR g fi_md_61 rfl (fun C_ T_ N_ ty_ h_ => by cases Option.some.inj (ck_md.1.symm.trans h_.1); exact (pw_gw 1144 (by decide +kernel) (by decide +kernel))) (fun C_ T_ N_ ty_ h_ => by cases Option.some.inj (ck_md.1.symm.trans h_.1); rfl) hp rfl rfl d_md_init_162 ?_
  refine PW.aload_n g rfl rfl d_md_init_165 ?_
  refine PW.sipush g (200) (by decide) d_md_init_166 ?_
  refine PW.newaI (nc := 34) (ns := 5476) g 200 140 hl (by decide) (by decide) (by decide) d_md_init_169 ?_
  have on_ := pw_apn (x := (1, 200)) hl
  have hp := pw_apl (l := [(1, 200)]) hp
  have o_122 := pw_apl (l := [(1, 200)]) o_122
  have o_123 := pw_apl (l := [(1, 200)]) o_123
  have o_124 := pw_apl (l := [(1, 200)]) o_124
  have o_125 := pw_apl (l := [(1, 200)]) o_125
  have o_126 := pw_apl (l := [(1, 200)]) o_126
  have o_127 := pw_apl (l := [(1, 200)]) o_127
  have o_128 := pw_apl (l := [(1, 200)]) o_128
  have o_129 := pw_apl (l := [(1, 200)]) o_129
  have o_130 := pw_apl (l := [(1, 200)]) o_130
  have o_131 := pw_apl (l := [(1, 200)]) o_131
  have o_132 := pw_apl (l := [(1, 200)]) o_132
  have o_133 := pw_apl (l := [(1, 200)]) o_133
  have o_134 := pw_apl (l := [(1, 200)]) o_134
  have o_135 := pw_apl (l := [(1, 200)]) o_135
  have o_136 := pw_apl (l := [(1, 200)]) o_136
  have o_137 := pw_apl (l := [(1, 200)]) o_137
  have o_138 := pw_apl (l := [(1, 200)]) o_138
  have o_139 := pw_apl (l := [(1, 200)]) o_139
  have o_140 := on_
  have hl := pw_len1 (x := (1, 200)) hl
  refine PW.putFR g fi_md_64 rfl (fun C_ T_ N_ ty_ h_ => by cases Option.some.inj (ck_md.1.symm.trans h_.1); exact (pw_gw 1145 (by decide +kernel) (by decide +kernel))) (fun C_ T_ N_ ty_ h_ => by cases Option.some.inj (ck_md.1.symm.trans h_.1); rfl) hp rfl rfl d_md_init_171 ?_
  refine PW.aload_n g rfl rfl d_md_init_174 ?_
  refine PW.sipush g (200) (by decide) d_md_init_175 ?_
  refine PW.newaI (nc := 33) (ns := 5276) g 200 141 hl (by decide) (by decide) (by decide) d_md_init_178 ?_
  have on_ := pw_apn (x := (1, 200)) hl
  have hp := pw_apl (l := [(1, 200)]) hp
  have o_122 := pw_apl (l := [(1, 200)]) o_122
  have o_123 := pw_apl (l := [(1, 200)]) o_123
  have o_124 := pw_apl (l := [(1, 200)]) o_124
  have o_125 := pw_apl (l := [(1, 200)]) o_125
  have o_126 := pw_apl (l := [(1, 200)]) o_126
  have o_127 := pw_apl (l := [(1, 200)]) o_127
  have o_128 := pw_apl (l := [(1, 200)]) o_128
  have o_129 := pw_apl (l := [(1, 200)]) o_129
  have o_130 := pw_apl (l := [(1, 200)]) o_130
  have o_131 := pw_apl (l := [(1, 200)]) o_131
  have o_132 := pw_apl (l := [(1, 200)]) o_132
  have o_133 := pw_apl (l := [(1, 200)]) o_133
  have o_134 := pw_apl (l := [(1, 200)]) o_134
  have o_135 := pw_apl (l := [(1, 200)]) o_135
  have o_136 := pw_apl (l := [(1, 200)]) o_136
  have o_137 := pw_apl (l := [(1, 200)]) o_137
  have o_138 := pw_apl (l := [(1, 200)]) o_138
  have o_139 := pw_apl (l := [(1, 200)]) o_139
  have o_140 := pw_apl (l := [(1, 200)]) o_140
  have o_141 := on_
  have hl := pw_len1 (x := (1, 200)) hl
  refine PW.putFR g fi_md_67 rfl (fun C_ T_ N_ ty_ h_ => by cases Option.some.inj (ck_md.1.symm.trans h_.1); exact (pw_gw 1146 (by decide +kernel) (by decide +kernel))) (fun C_ T_ N_ ty_ h_ => by cases Option.some.inj (ck_md.1.symm.trans h_.1); rfl) hp rfl rfl d_md_init_180 ?_
  refine PW.aload_n g rfl rfl d_md_init_183 ?_
  refine PW.sipush g (200) (by decide) d_md_init_184 ?_
  refine PW.newaI (nc := 32) (ns := 5076) g 200 142 hl (by decide) (by decide) (by decide) d_md_init_187 ?_
  have on_ := pw_apn (x := (1, 200)) hl
  have hp := pw_apl (l := [(1, 200)]) hp
  have o_122 := pw_apl (l := [(1, 200)]) o_122
  have o_123 := pw_apl (l := [(1, 200)]) o_123
  have o_124 := pw_apl (l := [(1, 200)]) o_124
  have o_125 := pw_apl (l := [(1, 200)]) o_125
  have o_126 := pw_apl (l := [(1, 200)]) o_126
  have o_127 := pw_apl (l := [(1, 200)]) o_127
  have o_128 := pw_apl (l := [(1, 200)]) o_128
  have o_129 := pw_apl (l := [(1, 200)]) o_129
  have o_130 := pw_apl (l := [(1, 200)]) o_130
  have o_131 := pw_apl (l := [(1, 200)]) o_131
  have o_132 := pw_apl (l := [(1, 200)]) o_132
  have o_133 := pw_apl (l := [(1, 200)]) o_133
  have o_134 := pw_apl (l := [(1, 200)]) o_134
  have o_135 := pw_apl (l := [(1, 200)]) o_135
  have o_136 := pw_apl (l := [(1, 200)]) o_136
  have o_137 := pw_apl (l := [(1, 200)]) o_137
  have o_138 := pw_apl (l := [(1, 200)]) o_138
  have o_139 := pw_apl (l := [(1, 200)]) o_139
  have o_140 := pw_apl (l := [(1, 200)]) o_140
  have o_141 := pw_apl (l := [(1, 200)]) o_141
  have o_142 := on_
  have hl := pw_len1 (x := (1, 200)) hl
  refine PW.putFR g fi_md_70 rfl (fun C_ T_ N_ ty_ h_ => by cases Option.some.inj (ck_md.1.symm.trans h_.1); exact (pw_gw 1147 (by decide +kernel) (by decide +kernel))) (fun C_ T_ N_ ty_ h_ => by cases Option.some.inj (ck_md.1.symm.trans h_.1); rfl) hp rfl rfl d_md_init_189 ?_
  refine PW.aload_n g rfl rfl d_md_init_192 ?_
  refine PW.sipush g (200) (by decide) d_md_init_193 ?_
  refine PW.newaI (nc := 31) (ns := 4876) g 200 143 hl (by decide) (by decide) (by decide) d_md_init_196 ?_
  have on_ := pw_apn (x := (1, 200)) hl
  have hp := pw_apl (l := [(1, 200)]) hp
  have o_122 := pw_apl (l := [(1, 200)]) o_122
  have o_123 := pw_apl (l := [(1, 200)]) o_123
  have o_124 := pw_apl (l := [(1, 200)]) o_124
  have o_125 := pw_apl (l := [(1, 200)]) o_125
  have o_126 := pw_apl (l := [(1, 200)]) o_126
  have o_127 := pw_apl (l := [(1, 200)]) o_127
  have o_128 := pw_apl (l := [(1, 200)]) o_128
  have o_129 := pw_apl (l := [(1, 200)]) o_129
  have o_130 := pw_apl (l := [(1, 200)]) o_130
  have o_131 := pw_apl (l := [(1, 200)]) o_131
  have o_132 := pw_apl (l := [(1, 200)]) o_132
  have o_133 := pw_apl (l := [(1, 200)]) o_133
  have o_134 := pw_apl (l := [(1, 200)]) o_134
  have o_135 := pw_apl (l := [(1, 200)]) o_135
  have o_136 := pw_apl (l := [(1, 200)]) o_136
  have o_137 := pw_apl (l := [(1, 200)]) o_137
  have o_138 := pw_apl (l := [(1, 200)]) o_138
  have o_139 := pw_apl (l := [(1, 200)]) o_139
  have o_140 := pw_apl (l := [(1, 200)]) o_140
  have o_141 := pw_apl (l := [(1, 200)]) o_141
  have o_142 := pw_apl (l := [(1, 200)]) o_142
  have o_143 := on_
  have hl := pw_len1 (x := (1, 200)) hl
  refine PW.putFR g fi_md_73 rfl (fun C_ T_ N_ ty_ h_ => by cases Option.some.inj (ck_md.1.symm.trans h_.1); exact (pw_gw 1148 (by decide +kernel) (by decide +kernel))) (fun C_ T_ N_ ty_ h_ => by cases Option.some.inj (ck_md.1.symm.trans h_.1); rfl) hp rfl rfl d_md_init_198 ?_
  refine PW.aload_n g rfl rfl d_md_init_201 ?_
  refine PW.sipush g (200) (by decide) d_md_init_202 ?_
  refine PW.newaI (nc := 30) (ns := 4676) g 200 144 hl (by decide) (by decide) (by decide) d_md_init_205 ?_
  have on_ := pw_apn (x := (1, 200)) hl
  have hp := pw_apl (l := [(1, 200)]) hp
  have o_122 := pw_apl (l := [(1, 200)]) o_122
  have o_123 := pw_apl (l := [(1, 200)]) o_123
  have o_124 := pw_apl (l := [(1, 200)]) o_124
  have o_125 := pw_apl (l := [(1, 200)]) o_125
  have o_126 := pw_apl (l := [(1, 200)]) o_126
  have o_127 := pw_apl (l := [(1, 200)]) o_127
  have o_128 := pw_apl (l := [(1, 200)]) o_128
  have o_129 := pw_apl (l := [(1, 200)]) o_129
  have o_130 := pw_apl (l := [(1, 200)]) o_130
  have o_131 := pw_apl (l := [(1, 200)]) o_131
  have o_132 := pw_apl (l := [(1, 200)]) o_132
  have o_133 := pw_apl (l := [(1, 200)]) o_133
  have o_134 := pw_apl (l := [(1, 200)]) o_134
  have o_135 := pw_apl (l := [(1, 200)]) o_135
  have o_136 := pw_apl (l := [(1, 200)]) o_136
  have o_137 := pw_apl (l := [(1, 200)]) o_137
  have o_138 := pw_apl (l := [(1, 200)]) o_138
  have o_139 := pw_apl (l := [(1, 200)]) o_139
  have o_140 := pw_apl (l := [(1, 200)]) o_140
  have o_141 := pw_apl (l := [(1, 200)]) o_141
  have o_142 := pw_apl (l := [(1, 200)]) o_142
  have o_143 := pw_apl (l := [(1, 200)]) o_143
  have o_144 := on_
  have hl := pw_len1 (x := (1, 200)) hl
  refine PW.putFR g fi_md_76 rfl (fun C_ T_ N_ ty_ h_ => by cases Option.some.inj (ck_md.1.symm.trans h_.1); exact (pw_gw 1149 (by decide +kernel) (by decide +kernel))) (fun C_ T_ N_ ty_ h_ => by cases Option.some.inj (ck_md.1.symm.trans h_.1); rfl) hp rfl rfl d_md_init_207 ?_
  refine PW.aload_n g rfl rfl d_md_init_210 ?_
  refine PW.sipush g (200) (by decide) d_md_init_211 ?_
  refine PW.newaI (nc := 29) (ns := 4476) g 200 145 hl (by decide) (by decide) (by decide) d_md_init_214 ?_
  have on_ := pw_apn (x := (1, 200)) hl
  have hp := pw_apl (l := [(1, 200)]) hp
  have o_122 := pw_apl (l := [(1, 200)]) o_122
  have o_123 := pw_apl (l := [(1, 200)]) o_123
  have o_124 := pw_apl (l := [(1, 200)]) o_124
  have o_125 := pw_apl (l := [(1, 200)]) o_125
  have o_126 := pw_apl (l := [(1, 200)]) o_126
  have o_127 := pw_apl (l := [(1, 200)]) o_127
  have o_128 := pw_apl (l := [(1, 200)]) o_128
  have o_129 := pw_apl (l := [(1, 200)]) o_129
  have o_130 := pw_apl (l := [(1, 200)]) o_130
  have o_131 := pw_apl (l := [(1, 200)]) o_131
  have o_132 := pw_apl (l := [(1, 200)]) o_132
  have o_133 := pw_apl (l := [(1, 200)]) o_133
  have o_134 := pw_apl (l := [(1, 200)]) o_134
  have o_135 := pw_apl (l := [(1, 200)]) o_135
  have o_136 := pw_apl (l := [(1, 200)]) o_136
  have o_137 := pw_apl (l := [(1, 200)]) o_137
  have o_138 := pw_apl (l := [(1, 200)]) o_138
  have o_139 := pw_apl (l := [(1, 200)]) o_139
  have o_140 := pw_apl (l := [(1, 200)]) o_140
  have o_141 := pw_apl (l := [(1, 200)]) o_141
  have o_142 := pw_apl (l := [(1, 200)]) o_142
  have o_143 := pw_apl (l := [(1, 200)]) o_143
  have o_144 := pw_apl (l := [(1, 200)]) o_144
  have o_145 := on_
  have hl := pw_len1 (x := (1, 200)) hl
  refine PW.putFR g fi_md_79 rfl (fun C_ T_ N_ ty_ h_ => by cases Option.some.inj (ck_md.1.symm.trans h_.1); exact (pw_gw 1150 (by decide +kernel) (by decide +kernel))) (fun C_ T_ N_ ty_ h_ => by cases Option.some.inj (ck_md.1.symm.trans h_.1); rfl) hp rfl rfl d_md_init_216 ?_
  refine PW.aload_n g rfl rfl d_md_init_219 ?_
  refine PW.sipush g (240) (by decide) d_md_init_220 ?_
  refine PW.newaI (nc := 28) (ns := 4236) g 240 146 hl (by decide) (by decide) (by decide) d_md_init_223 ?_
  have on_ := pw_apn (x := (1, 240)) hl
  have hp := pw_apl (l := [(1, 240)]) hp
  have o_122 := pw_apl (l := [(1, 240)]) o_122
  have o_123 := pw_apl (l := [(1, 240)]) o_123
  have o_124 := pw_apl (l := [(1, 240)]) o_124
  have o_125 := pw_apl (l := [(1, 240)]) o_125
  have o_126 := pw_apl (l := [(1, 240)]) o_126
  have o_127 := pw_apl (l := [(1, 240)]) o_127
  have o_128 := pw_apl (l := [(1, 240)]) o_128
  have o_129 := pw_apl (l := [(1, 240)]) o_129
  have o_130 := pw_apl (l := [(1, 240)]) o_130
  have o_131 := pw_apl (l := [(1, 240)]) o_131
  have o_132 := pw_apl (l := [(1, 240)]) o_132
  have o_133 := pw_apl (l := [(1, 240)]) o_133
  have o_134 := pw_apl (l := [(1, 240)]) o_134
  have o_135 := pw_apl (l := [(1, 240)]) o_135
  have o_136 := pw_apl (l := [(1, 240)]) o_136
  have o_137 := pw_apl (l := [(1, 240)]) o_137
  have o_138 := pw_apl (l := [(1, 240)]) o_138
  have o_139 := pw_apl (l := [(1, 240)]) o_139
  have o_140 := pw_apl (l := [(1, 240)]) o_140
  have o_141 := pw_apl (l := [(1, 240)]) o_141
  have o_142 := pw_apl (l := [(1, 240)]) o_142
  have o_143 := pw_apl (l := [(1, 240)]) o_143
  have o_144 := pw_apl (l := [(1, 240)]) o_144
  have o_145 := pw_apl (l := [(1, 240)]) o_145
  have o_146 := on_
  have hl := pw_len1 (x := (1, 240)) hl
  refine PW.putFR g fi_md_82 rfl (fun C_ T_ N_ ty_ h_ => by cases Option.some.inj (ck_md.1.symm.trans h_.1); exact (pw_gw 1151 (by decide +kernel) (by decide +kernel))) (fun C_ T_ N_ ty_ h_ => by cases Option.some.inj (ck_md.1.symm.trans h_.1); rfl) hp rfl rfl d_md_init_225 ?_
  refine PW.aload_n g rfl rfl d_md_init_228 ?_
  refine PW.iconst g (2) (by decide) d_md_init_229 ?_
  refine PW.newaI (nc := 27) (ns := 4234) g 2 147 hl (by decide) (by decide) (by decide) d_md_init_230 ?_
  have on_ := pw_apn (x := (1, 2)) hl
  have hp := pw_apl (l := [(1, 2)]) hp
  have o_122 := pw_apl (l := [(1, 2)]) o_122
  have o_123 := pw_apl (l := [(1, 2)]) o_123
  have o_124 := pw_apl (l := [(1, 2)]) o_124
  have o_125 := pw_apl (l := [(1, 2)]) o_125
  have o_126 := pw_apl (l := [(1, 2)]) o_126
  have o_127 := pw_apl (l := [(1, 2)]) o_127
  have o_128 := pw_apl (l := [(1, 2)]) o_128
  have o_129 := pw_apl (l := [(1, 2)]) o_129
  have o_130 := pw_apl (l := [(1, 2)]) o_130
  have o_131 := pw_apl (l := [(1, 2)]) o_131
  have o_132 := pw_apl (l := [(1, 2)]) o_132
  have o_133 := pw_apl (l := [(1, 2)]) o_133
  have o_134 := pw_apl (l := [(1, 2)]) o_134
  have o_135 := pw_apl (l := [(1, 2)]) o_135
  have o_136 := pw_apl (l := [(1, 2)]) o_136
  have o_137 := pw_apl (l := [(1, 2)]) o_137
  have o_138 := pw_apl (l := [(1, 2)]) o_138
  have o_139 := pw_apl (l := [(1, 2)]) o_139
  have o_140 := pw_apl (l := [(1, 2)]) o_140
  have o_141 := pw_apl (l := [(1, 2)]) o_141
  have o_142 := pw_apl (l := [(1, 2)]) o_142
  have o_143 := pw_apl (l := [(1, 2)]) o_143
  have o_144 := pw_apl (l := [(1, 2)]) o_144
  have o_145 := pw_apl (l := [(1, 2)]) o_145
  have o_146 := pw_apl (l := [(1, 2)]) o_146
  have o_147 := on_
  have hl := pw_len1 (x := (1, 2)) hl
  refine PW.putFR g fi_md_85 rfl (fun C_ T_ N_ ty_ h_ => by cases Option.some.inj (ck_md.1.symm.trans h_.1); exact (pw_gw 1156 (by decide +kernel) (by decide +kernel))) (fun C_ T_ N_ ty_ h_ => by cases Option.some.inj (ck_md.1.symm.trans h_.1); rfl) hp rfl rfl d_md_init_232 ?_
  refine PW.aload_n g rfl rfl d_md_init_235 ?_
  refine PW.iconst g (2) (by decide) d_md_init_236 ?_
  refine PW.newaI (nc := 26) (ns := 4232) g 2 148 hl (by decide) (by decide) (by decide) d_md_init_237 ?_
  have on_ := pw_apn (x := (1, 2)) hl
  have hp := pw_apl (l := [(1, 2)]) hp
  have o_122 := pw_apl (l := [(1, 2)]) o_122
  have o_123 := pw_apl (l := [(1, 2)]) o_123
  have o_124 := pw_apl (l := [(1, 2)]) o_124
  have o_125 := pw_apl (l := [(1, 2)]) o_125
  have o_126 := pw_apl (l := [(1, 2)]) o_126
  have o_127 := pw_apl (l := [(1, 2)]) o_127
  have o_128 := pw_apl (l := [(1, 2)]) o_128
  have o_129 := pw_apl (l := [(1, 2)]) o_129
  have o_130 := pw_apl (l := [(1, 2)]) o_130
  have o_131 := pw_apl (l := [(1, 2)]) o_131
  have o_132 := pw_apl (l := [(1, 2)]) o_132
  have o_133 := pw_apl (l := [(1, 2)]) o_133
  have o_134 := pw_apl (l := [(1, 2)]) o_134
  have o_135 := pw_apl (l := [(1, 2)]) o_135
  have o_136 := pw_apl (l := [(1, 2)]) o_136
  have o_137 := pw_apl (l := [(1, 2)]) o_137
  have o_138 := pw_apl (l := [(1, 2)]) o_138
  have o_139 := pw_apl (l := [(1, 2)]) o_139
  have o_140 := pw_apl (l := [(1, 2)]) o_140
  have o_141 := pw_apl (l := [(1, 2)]) o_141
  have o_142 := pw_apl (l := [(1, 2)]) o_142
  have o_143 := pw_apl (l := [(1, 2)]) o_143
  have o_144 := pw_apl (l := [(1, 2)]) o_144
  have o_145 := pw_apl (l := [(1, 2)]) o_145
  have o_146 := pw_apl (l := [(1, 2)]) o_146
  have o_147 := pw_apl (l := [(1, 2)]) o_147
  have o_148 := on_
  have hl := pw_len1 (x := (1, 2)) hl
  refine PW.putFR g fi_md_88 rfl (fun C_ T_ N_ ty_ h_ => by cases Option.some.inj (ck_md.1.symm.trans h_.1); exact (pw_gw 1157 (by decide +kernel) (by decide +kernel))) (fun C_ T_ N_ ty_ h_ => by cases Option.some.inj (ck_md.1.symm.trans h_.1); rfl) hp rfl rfl d_md_init_239 ?_
  refine PW.aload_n g rfl rfl d_md_init_242 ?_
  refine PW.iconst g (2) (by decide) d_md_init_243 ?_
  refine PW.newaI (nc := 25) (ns := 4230) g 2 149 hl (by decide) (by decide) (by decide) d_md_init_244 ?_
  have on_ := pw_apn (x := (1, 2)) hl
  have hp := pw_apl (l := [(1, 2)]) hp
  have o_122 := pw_apl (l := [(1, 2)]) o_122
  have o_123 := pw_apl (l := [(1, 2)]) o_123
  have o_124 := pw_apl (l := [(1, 2)]) o_124
  have o_125 := pw_apl (l := [(1, 2)]) o_125
  have o_126 := pw_apl (l := [(1, 2)]) o_126
  have o_127 := pw_apl (l := [(1, 2)]) o_127
  have o_128 := pw_apl (l := [(1, 2)]) o_128
  have o_129 := pw_apl (l := [(1, 2)]) o_129
  have o_130 := pw_apl (l := [(1, 2)]) o_130
  have o_131 := pw_apl (l := [(1, 2)]) o_131
  have o_132 := pw_apl (l := [(1, 2)]) o_132
  have o_133 := pw_apl (l := [(1, 2)]) o_133
  have o_134 := pw_apl (l := [(1, 2)]) o_134
  have o_135 := pw_apl (l := [(1, 2)]) o_135
  have o_136 := pw_apl (l := [(1, 2)]) o_136
  have o_137 := pw_apl (l := [(1, 2)]) o_137
  have o_138 := pw_apl (l := [(1, 2)]) o_138
  have o_139 := pw_apl (l := [(1, 2)]) o_139
  have o_140 := pw_apl (l := [(1, 2)]) o_140
  have o_141 := pw_apl (l := [(1, 2)]) o_141
  have o_142 := pw_apl (l := [(1, 2)]) o_142
  have o_143 := pw_apl (l := [(1, 2)]) o_143
  have o_144 := pw_apl (l := [(1, 2)]) o_144
  have o_145 := pw_apl (l := [(1, 2)]) o_145
  have o_146 := pw_apl (l := [(1, 2)]) o_146
  have o_147 := pw_apl (l := [(1, 2)]) o_147
  have o_148 := pw_apl (l := [(1, 2)]) o_148
  have o_149 := on_
  have hl := pw_len1 (x := (1, 2)) hl
  refine PW.putFR g fi_md_91 rfl (fun C_ T_ N_ ty_ h_ => by cases Option.some.inj (ck_md.1.symm.trans h_.1); exact (pw_gw 1158 (by decide +kernel) (by decide +kernel))) (fun C_ T_ N_ ty_ h_ => by cases Option.some.inj (ck_md.1.symm.trans h_.1); rfl) hp rfl rfl d_md_init_246 ?_
  refine PW.aload_n g rfl rfl d_md_init_249 ?_
  refine PW.bipush g (64) (by decide) d_md_init_250 ?_
  refine PW.newaI (nc := 24) (ns := 4166) g 64 150 hl (by decide) (by decide) (by decide) d_md_init_252 ?_
  have on_ := pw_apn (x := (1, 64)) hl
  have hp := pw_apl (l := [(1, 64)]) hp
  have o_122 := pw_apl (l := [(1, 64)]) o_122
  have o_123 := pw_apl (l := [(1, 64)]) o_123
  have o_124 := pw_apl (l := [(1, 64)]) o_124
  have o_125 := pw_apl (l := [(1, 64)]) o_125
  have o_126 := pw_apl (l := [(1, 64)]) o_126
  have o_127 := pw_apl (l := [(1, 64)]) o_127
  have o_128 := pw_apl (l := [(1, 64)]) o_128
  have o_129 := pw_apl (l := [(1, 64)]) o_129
  have o_130 := pw_apl (l := [(1, 64)]) o_130
  have o_131 := pw_apl (l := [(1, 64)]) o_131
  have o_132 := pw_apl (l := [(1, 64)]) o_132
  have o_133 := pw_apl (l := [(1, 64)]) o_133
  have o_134 := pw_apl (l := [(1, 64)]) o_134
  have o_135 := pw_apl (l := [(1, 64)]) o_135
  have o_136 := pw_apl (l := [(1, 64)]) o_136
  have o_137 := pw_apl (l := [(1, 64)]) o_137
  have o_138 := pw_apl (l := [(1, 64)]) o_138
  have o_139 := pw_apl (l := [(1, 64)]) o_139
  have o_140 := pw_apl (l := [(1, 64)]) o_140
  have o_141 := pw_apl (l := [(1, 64)]) o_141
  have o_142 := pw_apl (l := [(1, 64)]) o_142
  have o_143 := pw_apl (l := [(1, 64)]) o_143
  have o_144 := pw_apl (l := [(1, 64)]) o_144
  have o_145 := pw_apl (l := [(1, 64)]) o_145
  have o_146 := pw_apl (l := [(1, 64)]) o_146
  have o_147 := pw_apl (l := [(1, 64)]) o_147
  have o_148 := pw_apl (l := [(1, 64)]) o_148
  have o_149 := pw_apl (l := [(1, 64)]) o_149
  have o_150 := on_
  have hl := pw_len1 (x := (1, 64)) hl
  refine PW.putFR g fi_md_94 rfl (fun C_ T_ N_ ty_ h_ => by cases Option.some.inj (ck_md.1.symm.trans h_.1); exact (pw_gw 1160 (by decide +kernel) (by decide +kernel))) (fun C_ T_ N_ ty_ h_ => by cases Option.some.inj (ck_md.1.symm.trans h_.1); rfl) hp rfl rfl d_md_init_254 ?_
  refine PW.aload_n g rfl rfl d_md_init_257 ?_
  refine PW.bipush g (64) (by decide) d_md_init_258 ?_
  refine PW.newaI (nc := 23) (ns := 4102) g 64 151 hl (by decide) (by decide) (by decide) d_md_init_260 ?_
  have on_ := pw_apn (x := (1, 64)) hl
  have hp := pw_apl (l := [(1, 64)]) hp
  have o_122 := pw_apl (l := [(1, 64)]) o_122
  have o_123 := pw_apl (l := [(1, 64)]) o_123
  have o_124 := pw_apl (l := [(1, 64)]) o_124
  have o_125 := pw_apl (l := [(1, 64)]) o_125
  have o_126 := pw_apl (l := [(1, 64)]) o_126
  have o_127 := pw_apl (l := [(1, 64)]) o_127
  have o_128 := pw_apl (l := [(1, 64)]) o_128
  have o_129 := pw_apl (l := [(1, 64)]) o_129
  have o_130 := pw_apl (l := [(1, 64)]) o_130
  have o_131 := pw_apl (l := [(1, 64)]) o_131
  have o_132 := pw_apl (l := [(1, 64)]) o_132
  have o_133 := pw_apl (l := [(1, 64)]) o_133
  have o_134 := pw_apl (l := [(1, 64)]) o_134
  have o_135 := pw_apl (l := [(1, 64)]) o_135
  have o_136 := pw_apl (l := [(1, 64)]) o_136
  have o_137 := pw_apl (l := [(1, 64)]) o_137
  have o_138 := pw_apl (l := [(1, 64)]) o_138
  have o_139 := pw_apl (l := [(1, 64)]) o_139
  have o_140 := pw_apl (l := [(1, 64)]) o_140
  have o_141 := pw_apl (l := [(1, 64)]) o_141
  have o_142 := pw_apl (l := [(1, 64)]) o_142
  have o_143 := pw_apl (l := [(1, 64)]) o_143
  have o_144 := pw_apl (l := [(1, 64)]) o_144
  have o_145 := pw_apl (l := [(1, 64)]) o_145
  have o_146 := pw_apl (l := [(1, 64)]) o_146
  have o_147 := pw_apl (l := [(1, 64)]) o_147
  have o_148 := pw_apl (l := [(1, 64)]) o_148
  have o_149 := pw_apl (l := [(1, 64)]) o_149
  have o_150 := pw_apl (l := [(1, 64)]) o_150
  have o_151 := on_
  have hl := pw_len1 (x := (1, 64)) hl
  refine PW.putFR g fi_md_97 rfl (fun C_ T_ N_ ty_ h_ => by cases Option.some.inj (ck_md.1.symm.trans h_.1); exact (pw_gw 1161 (by decide +kernel) (by decide +kernel))) (fun C_ T_ N_ ty_ h_ => by cases Option.some.inj (ck_md.1.symm.trans h_.1); rfl) hp rfl rfl d_md_init_262 ?_
  refine PW.aload_n g rfl rfl d_md_init_265 ?_
  refine PW.bipush g (64) (by decide) d_md_init_266 ?_
  refine PW.newaI (nc := 22) (ns := 4038) g 64 152 hl (by decide) (by decide) (by decide) d_md_init_268 ?_
  have on_ := pw_apn (x := (1, 64)) hl
  have hp := pw_apl (l := [(1, 64)]) hp
  have o_122 := pw_apl (l := [(1, 64)]) o_122
  have o_123 := pw_apl (l := [(1, 64)]) o_123
  have o_124 := pw_apl (l := [(1, 64)]) o_124
  have o_125 := pw_apl (l := [(1, 64)]) o_125
  have o_126 := pw_apl (l := [(1, 64)]) o_126
  have o_127 := pw_apl (l := [(1, 64)]) o_127
  have o_128 := pw_apl (l := [(1, 64)]) o_128
  have o_129 := pw_apl (l := [(1, 64)]) o_129
  have o_130 := pw_apl (l := [(1, 64)]) o_130
  have o_131 := pw_apl (l := [(1, 64)]) o_131
  have o_132 := pw_apl (l := [(1, 64)]) o_132
  have o_133 := pw_apl (l := [(1, 64)]) o_133
  have o_134 := pw_apl (l := [(1, 64)]) o_134
  have o_135 := pw_apl (l := [(1, 64)]) o_135
  have o_136 := pw_apl (l := [(1, 64)]) o_136
  have o_137 := pw_apl (l := [(1, 64)]) o_137
  have o_138 := pw_apl (l := [(1, 64)]) o_138
  have o_139 := pw_apl (l := [(1, 64)]) o_139
  have o_140 := pw_apl (l := [(1, 64)]) o_140
  have o_141 := pw_apl (l := [(1, 64)]) o_141
  have o_142 := pw_apl (l := [(1, 64)]) o_142
  have o_143 := pw_apl (l := [(1, 64)]) o_143
  have o_144 := pw_apl (l := [(1, 64)]) o_144
  have o_145 := pw_apl (l := [(1, 64)]) o_145
  have o_146 := pw_apl (l := [(1, 64)]) o_146
  have o_147 := pw_apl (l := [(1, 64)]) o_147
  have o_148 := pw_apl (l := [(1, 64)]) o_148
  have o_149 := pw_apl (l := [(1, 64)]) o_149
  have o_150 := pw_apl (l := [(1, 64)]) o_150
  have o_151 := pw_apl (l := [(1, 64)]) o_151
  have o_152 := on_
  have hl := pw_len1 (x := (1, 64)) hl
  refine PW.putFR g fi_md_100 rfl (fun C_ T_ N_ ty_ h_ => by cases Option.some.inj (ck_md.1.symm.trans h_.1); exact (pw_gw 1162 (by decide +kernel) (by decide +kernel))) (fun C_ T_ N_ ty_ h_ => by cases Option.some.inj (ck_md.1.symm.trans h_.1); rfl) hp rfl rfl d_md_init_270 ?_
  refine PW.aload_n g rfl rfl d_md_init_273 ?_
  refine PW.sipush g (170) (by decide) d_md_init_274 ?_
  refine PW.newaI (nc := 21) (ns := 3868) g 170 153 hl (by decide) (by decide) (by decide) d_md_init_277 ?_
  have on_ := pw_apn (x := (1, 170)) hl
  have hp := pw_apl (l := [(1, 170)]) hp
  have o_122 := pw_apl (l := [(1, 170)]) o_122
  have o_123 := pw_apl (l := [(1, 170)]) o_123
  have o_124 := pw_apl (l := [(1, 170)]) o_124
  have o_125 := pw_apl (l := [(1, 170)]) o_125
  have o_126 := pw_apl (l := [(1, 170)]) o_126
  have o_127 := pw_apl (l := [(1, 170)]) o_127
  have o_128 := pw_apl (l := [(1, 170)]) o_128
  have o_129 := pw_apl (l := [(1, 170)]) o_129
  have o_130 := pw_apl (l := [(1, 170)]) o_130
  have o_131 := pw_apl (l := [(1, 170)]) o_131
  have o_132 := pw_apl (l := [(1, 170)]) o_132
  have o_133 := pw_apl (l := [(1, 170)]) o_133
  have o_134 := pw_apl (l := [(1, 170)]) o_134
  have o_135 := pw_apl (l := [(1, 170)]) o_135
  have o_136 := pw_apl (l := [(1, 170)]) o_136
  have o_137 := pw_apl (l := [(1, 170)]) o_137
  have o_138 := pw_apl (l := [(1, 170)]) o_138
  have o_139 := pw_apl (l := [(1, 170)]) o_139
  have o_140 := pw_apl (l := [(1, 170)]) o_140
  have o_141 := pw_apl (l := [(1, 170)]) o_141
  have o_142 := pw_apl (l := [(1, 170)]) o_142
  have o_143 := pw_apl (l := [(1, 170)]) o_143
  have o_144 := pw_apl (l := [(1, 170)]) o_144
  have o_145 := pw_apl (l := [(1, 170)]) o_145
  have o_146 := pw_apl (l := [(1, 170)]) o_146
  have o_147 := pw_apl (l := [(1, 170)]) o_147
  have o_148 := pw_apl (l := [(1, 170)]) o_148
  have o_149 := pw_apl (l := [(1, 170)]) o_149
  have o_150 := pw_apl (l := [(1, 170)]) o_150
  have o_151 := pw_apl (l := [(1, 170)]) o_151
  have o_152 := pw_apl (l := [(1, 170)]) o_152
  have o_153 := on_
  have hl := pw_len1 (x := (1, 170)) hl
  refine PW.putFR g fi_md_103 rfl (fun C_ T_ N_ ty_ h_ => by cases Option.some.inj (ck_md.1.symm.trans h_.1); exact (pw_gw 1168 (by decide +kernel) (by decide +kernel))) (fun C_ T_ N_ ty_ h_ => by cases Option.some.inj (ck_md.1.symm.trans h_.1); rfl) hp rfl rfl d_md_init_279 ?_
  refine PW.aload_n g rfl rfl d_md_init_282 ?_
  refine PW.sipush g (170) (by decide) d_md_init_283 ?_
  refine PW.newaI (nc := 20) (ns := 3698) g 170 154 hl (by decide) (by decide) (by decide) d_md_init_286 ?_
  have on_ := pw_apn (x := (1, 170)) hl
  have hp := pw_apl (l := [(1, 170)]) hp
  have o_122 := pw_apl (l := [(1, 170)]) o_122
  have o_123 := pw_apl (l := [(1, 170)]) o_123
  have o_124 := pw_apl (l := [(1, 170)]) o_124
  have o_125 := pw_apl (l := [(1, 170)]) o_125
  have o_126 := pw_apl (l := [(1, 170)]) o_126
  have o_127 := pw_apl (l := [(1, 170)]) o_127
  have o_128 := pw_apl (l := [(1, 170)]) o_128
  have o_129 := pw_apl (l := [(1, 170)]) o_129
  have o_130 := pw_apl (l := [(1, 170)]) o_130
  have o_131 := pw_apl (l := [(1, 170)]) o_131
  have o_132 := pw_apl (l := [(1, 170)]) o_132
  have o_133 := pw_apl (l := [(1, 170)]) o_133
  have o_134 := pw_apl (l := [(1, 170)]) o_134
  have o_135 := pw_apl (l := [(1, 170)]) o_135
  have o_136 := pw_apl (l := [(1, 170)]) o_136
  have o_137 := pw_apl (l := [(1, 170)]) o_137
  have o_138 := pw_apl (l := [(1, 170)]) o_138
  have o_139 := pw_apl (l := [(1, 170)]) o_139
  have o_140 := pw_apl (l := [(1, 170)]) o_140
  have o_141 := pw_apl (l := [(1, 170)]) o_141
  have o_142 := pw_apl (l := [(1, 170)]) o_142
  have o_143 := pw_apl (l := [(1, 170)]) o_143
  have o_144 := pw_apl (l := [(1, 170)]) o_144
  have o_145 := pw_apl (l := [(1, 170)]) o_145
  have o_146 := pw_apl (l := [(1, 170)]) o_146
  have o_147 := pw_apl (l := [(1, 170)]) o_147
  have o_148 := pw_apl (l := [(1, 170)]) o_148
  have o_149 := pw_apl (l := [(1, 170)]) o_149
  have o_150 := pw_apl (l := [(1, 170)]) o_150
  have o_151 := pw_apl (l := [(1, 170)]) o_151
  have o_152 := pw_apl (l := [(1, 170)]) o_152
  have o_153 := pw_apl (l := [(1, 170)]) o_153
  have o_154 := on_
  have hl := pw_len1 (x := (1, 170)) hl
  refine PW.putFR g fi_md_106 rfl (fun C_ T_ N_ ty_ h_ => by cases Option.some.inj (ck_md.1.symm.trans h_.1); exact (pw_gw 1169 (by decide +kernel) (by decide +kernel))) (fun C_ T_ N_ ty_ h_ => by cases Option.some.inj (ck_md.1.symm.trans h_.1); rfl) hp rfl rfl d_md_init_288 ?_
  refine PW.aload_n g rfl rfl d_md_init_291 ?_
  refine PW.sipush g (170) (by decide) d_md_init_292 ?_
  refine PW.newaI (nc := 19) (ns := 3528) g 170 155 hl (by decide) (by decide) (by decide) d_md_init_295 ?_
  have on_ := pw_apn (x := (1, 170)) hl
  have hp := pw_apl (l := [(1, 170)]) hp
  have o_122 := pw_apl (l := [(1, 170)]) o_122
  have o_123 := pw_apl (l := [(1, 170)]) o_123
  have o_124 := pw_apl (l := [(1, 170)]) o_124
  have o_125 := pw_apl (l := [(1, 170)]) o_125
  have o_126 := pw_apl (l := [(1, 170)]) o_126
  have o_127 := pw_apl (l := [(1, 170)]) o_127
  have o_128 := pw_apl (l := [(1, 170)]) o_128
  have o_129 := pw_apl (l := [(1, 170)]) o_129
  have o_130 := pw_apl (l := [(1, 170)]) o_130
  have o_131 := pw_apl (l := [(1, 170)]) o_131
  have o_132 := pw_apl (l := [(1, 170)]) o_132
  have o_133 := pw_apl (l := [(1, 170)]) o_133
  have o_134 := pw_apl (l := [(1, 170)]) o_134
  have o_135 := pw_apl (l := [(1, 170)]) o_135
  have o_136 := pw_apl (l := [(1, 170)]) o_136
  have o_137 := pw_apl (l := [(1, 170)]) o_137
  have o_138 := pw_apl (l := [(1, 170)]) o_138
  have o_139 := pw_apl (l := [(1, 170)]) o_139
  have o_140 := pw_apl (l := [(1, 170)]) o_140
  have o_141 := pw_apl (l := [(1, 170)]) o_141
  have o_142 := pw_apl (l := [(1, 170)]) o_142
  have o_143 := pw_apl (l := [(1, 170)]) o_143
  have o_144 := pw_apl (l := [(1, 170)]) o_144
  have o_145 := pw_apl (l := [(1, 170)]) o_145
  have o_146 := pw_apl (l := [(1, 170)]) o_146
  have o_147 := pw_apl (l := [(1, 170)]) o_147
  have o_148 := pw_apl (l := [(1, 170)]) o_148
  have o_149 := pw_apl (l := [(1, 170)]) o_149
  have o_150 := pw_apl (l := [(1, 170)]) o_150
  have o_151 := pw_apl (l := [(1, 170)]) o_151
  have o_152 := pw_apl (l := [(1, 170)]) o_152
  have o_153 := pw_apl (l := [(1, 170)]) o_153
  have o_154 := pw_apl (l := [(1, 170)]) o_154
  have o_155 := on_
  have hl := pw_len1 (x := (1, 170)) hl
  refine PW.putFR g fi_md_109 rfl (fun C_ T_ N_ ty_ h_ => by cases Option.some.inj (ck_md.1.symm.trans h_.1); exact (pw_gw 1170 (by decide +kernel) (by decide +kernel))) (fun C_ T_ N_ ty_ h_ => by cases Option.some.inj (ck_md.1.symm.trans h_.1); rfl) hp rfl rfl d_md_init_297 ?_
  refine PW.aload_n g rfl rfl d_md_init_300 ?_
  refine PW.sipush g (170) (by decide) d_md_init_301 ?_
  refine PW.newaI (nc := 18) (ns := 3358) g 170 156 hl (by decide) (by decide) (by decide) d_md_init_304 ?_
  have on_ := pw_apn (x := (1, 170)) hl
  have hp := pw_apl (l := [(1, 170)]) hp
  have o_122 := pw_apl (l := [(1, 170)]) o_122
  have o_123 := pw_apl (l := [(1, 170)]) o_123
  have o_124 := pw_apl (l := [(1, 170)]) o_124
  have o_125 := pw_apl (l := [(1, 170)]) o_125
  have o_126 := pw_apl (l := [(1, 170)]) o_126
  have o_127 := pw_apl (l := [(1, 170)]) o_127
  have o_128 := pw_apl (l := [(1, 170)]) o_128
  have o_129 := pw_apl (l := [(1, 170)]) o_129
  have o_130 := pw_apl (l := [(1, 170)]) o_130
  have o_131 := pw_apl (l := [(1, 170)]) o_131
  have o_132 := pw_apl (l := [(1, 170)]) o_132
  have o_133 := pw_apl (l := [(1, 170)]) o_133
  have o_134 := pw_apl (l := [(1, 170)]) o_134
  have o_135 := pw_apl (l := [(1, 170)]) o_135
  have o_136 := pw_apl (l := [(1, 170)]) o_136
  have o_137 := pw_apl (l := [(1, 170)]) o_137
  have o_138 := pw_apl (l := [(1, 170)]) o_138
  have o_139 := pw_apl (l := [(1, 170)]) o_139
  have o_140 := pw_apl (l := [(1, 170)]) o_140
  have o_141 := pw_apl (l := [(1, 170)]) o_141
  have o_142 := pw_apl (l := [(1, 170)]) o_142
  have o_143 := pw_apl (l := [(1, 170)]) o_143
  have o_144 := pw_apl (l := [(1, 170)]) o_144
  have o_145 := pw_apl (l := [(1, 170)]) o_145
  have o_146 := pw_apl (l := [(1, 170)]) o_146
  have o_147 := pw_apl (l := [(1, 170)]) o_147
  have o_148 := pw_apl (l := [(1, 170)]) o_148
  have o_149 := pw_apl (l := [(1, 170)]) o_149
  have o_150 := pw_apl (l := [(1, 170)]) o_150
  have o_151 := pw_apl (l := [(1, 170)]) o_151
  have o_152 := pw_apl (l := [(1, 170)]) o_152
  have o_153 := pw_apl (l := [(1, 170)]) o_153
  have o_154 := pw_apl (l := [(1, 170)]) o_154
  have o_155 := pw_apl (l := [(1, 170)]) o_155
  have o_156 := on_
  have hl := pw_len1 (x := (1, 170)) hl
  refine PW.putFR g fi_md_112 rfl (fun C_ T_ N_ ty_ h_ => by cases Option.some.inj (ck_md.1.symm.trans h_.1); exact (pw_gw 1171 (by decide +kernel) (by decide +kernel))) (fun C_ T_ N_ ty_ h_ => by cases Option.some.inj (ck_md.1.symm.trans h_.1); rfl) hp rfl rfl d_md_init_306 ?_
  refine PW.aload_n g rfl rfl d_md_init_309 ?_
  refine PW.bipush g (80) (by decide) d_md_init_310 ?_
  refine PW.newaI (nc := 17) (ns := 3278) g 80 157 hl (by decide) (by decide) (by decide) d_md_init_312 ?_
  have on_ := pw_apn (x := (1, 80)) hl
  have hp := pw_apl (l := [(1, 80)]) hp
  have o_122 := pw_apl (l := [(1, 80)]) o_122
  have o_123 := pw_apl (l := [(1, 80)]) o_123
  have o_124 := pw_apl (l := [(1, 80)]) o_124
  have o_125 := pw_apl (l := [(1, 80)]) o_125
  have o_126 := pw_apl (l := [(1, 80)]) o_126
  have o_127 := pw_apl (l := [(1, 80)]) o_127
  have o_128 := pw_apl (l := [(1, 80)]) o_128
  have o_129 := pw_apl (l := [(1, 80)]) o_129
  have o_130 := pw_apl (l := [(1, 80)]) o_130
  have o_131 := pw_apl (l := [(1, 80)]) o_131
  have o_132 := pw_apl (l := [(1, 80)]) o_132
  have o_133 := pw_apl (l := [(1, 80)]) o_133
  have o_134 := pw_apl (l := [(1, 80)]) o_134
  have o_135 := pw_apl (l := [(1, 80)]) o_135
  have o_136 := pw_apl (l := [(1, 80)]) o_136
  have o_137 := pw_apl (l := [(1, 80)]) o_137
  have o_138 := pw_apl (l := [(1, 80)]) o_138
  have o_139 := pw_apl (l := [(1, 80)]) o_139
  have o_140 := pw_apl (l := [(1, 80)]) o_140
  have o_141 := pw_apl (l := [(1, 80)]) o_141
  have o_142 := pw_apl (l := [(1, 80)]) o_142
  have o_143 := pw_apl (l := [(1, 80)]) o_143
  have o_144 := pw_apl (l := [(1, 80)]) o_144
  have o_145 := pw_apl (l := [(1, 80)]) o_145
  have o_146 := pw_apl (l := [(1, 80)]) o_146
  have o_147 := pw_apl (l := [(1, 80)]) o_147
  have o_148 := pw_apl (l := [(1, 80)]) o_148
  have o_149 := pw_apl (l := [(1, 80)]) o_149
  have o_150 := pw_apl (l := [(1, 80)]) o_150
  have o_151 := pw_apl (l := [(1, 80)]) o_151
  have o_152 := pw_apl (l := [(1, 80)]) o_152
  have o_153 := pw_apl (l := [(1, 80)]) o_153
  have o_154 := pw_apl (l := [(1, 80)]) o_154
  have o_155 := pw_apl (l := [(1, 80)]) o_155
  have o_156 := pw_apl (l := [(1, 80)]) o_156
  have o_157 := on_
  have hl := pw_len1 (x := (1, 80)) hl
  refine PW.putFR g fi_md_115 rfl (fun C_ T_ N_ ty_ h_ => by cases Option.some.inj (ck_md.1.symm.trans h_.1); exact (pw_gw 1173 (by decide +kernel) (by decide +kernel))) (fun C_ T_ N_ ty_ h_ => by cases Option.some.inj (ck_md.1.symm.trans h_.1); rfl) hp rfl rfl d_md_init_314 ?_
  refine PW.aload_n g rfl rfl d_md_init_317 ?_
  refine PW.iconst g (-1) (by decide) d_md_init_318 ?_
  refine PW.putI g fi_md_118 hp rfl rfl d_md_init_319 ?_
  refine PW.aload_n g rfl rfl d_md_init_322 ?_
  refine PW.bipush g (64) (by decide) d_md_init_323 ?_
  refine PW.newaI (nc := 16) (ns := 3214) g 64 158 hl (by decide) (by decide) (by decide) d_md_init_325 ?_
  have on_ := pw_apn (x := (1, 64)) hl
  have hp := pw_apl (l := [(1, 64)]) hp
  have o_122 := pw_apl (l := [(1, 64)]) o_122
  have o_123 := pw_apl (l := [(1, 64)]) o_123
  have o_124 := pw_apl (l := [(1, 64)]) o_124
  have o_125 := pw_apl (l := [(1, 64)]) o_125
  have o_126 := pw_apl (l := [(1, 64)]) o_126
  have o_127 := pw_apl (l := [(1, 64)]) o_127
  have o_128 := pw_apl (l := [(1, 64)]) o_128
  have o_129 := pw_apl (l := [(1, 64)]) o_129
  have o_130 := pw_apl (l := [(1, 64)]) o_130
  have o_131 := pw_apl (l := [(1, 64)]) o_131
  have o_132 := pw_apl (l := [(1, 64)]) o_132
  have o_133 := pw_apl (l := [(1, 64)]) o_133
  have o_134 := pw_apl (l := [(1, 64)]) o_134
  have o_135 := pw_apl (l := [(1, 64)]) o_135
  have o_136 := pw_apl (l := [(1, 64)]) o_136
  have o_137 := pw_apl (l := [(1, 64)]) o_137
  have o_138 := pw_apl (l := [(1, 64)]) o_138
  have o_139 := pw_apl (l := [(1, 64)]) o_139
  have o_140 := pw_apl (l := [(1, 64)]) o_140
  have o_141 := pw_apl (l := [(1, 64)]) o_141
  have o_142 := pw_apl (l := [(1, 64)]) o_142
  have o_143 := pw_apl (l := [(1, 64)]) o_143
  have o_144 := pw_apl (l := [(1, 64)]) o_144
  have o_145 := pw_apl (l := [(1, 64)]) o_145
  have o_146 := pw_apl (l := [(1, 64)]) o_146
  have o_147 := pw_apl (l := [(1, 64)]) o_147
  have o_148 := pw_apl (l := [(1, 64)]) o_148
  have o_149 := pw_apl (l := [(1, 64)]) o_149
  have o_150 := pw_apl (l := [(1, 64)]) o_150
  have o_151 := pw_apl (l := [(1, 64)]) o_151
  have o_152 := pw_apl (l := [(1, 64)]) o_152
  have o_153 := pw_apl (l := [(1, 64)]) o_153
  have o_154 := pw_apl (l := [(1, 64)]) o_154
  have o_155 := pw_apl (l := [(1, 64)]) o_155
  have o_156 := pw_apl (l := [(1, 64)]) o_156
  have o_157 := pw_apl (l := [(1, 64)]) o_157
  have o_158 := on_
  have hl := pw_len1 (x := (1, 64)) hl
  refine PW.putFR g fi_md_122 rfl (fun C_ T_ N_ ty_ h_ => by cases Option.some.inj (ck_md.1.symm.trans h_.1); exact (pw_gw 1177 (by decide +kernel) (by decide +kernel))) (fun C_ T_ N_ ty_ h_ => by cases Option.some.inj (ck_md.1.symm.trans h_.1); rfl) hp rfl rfl d_md_init_327 ?_
  refine PW.aload_n g rfl rfl d_md_init_330 ?_
  refine PW.sipush g (800) (by decide) d_md_init_331 ?_
  refine PW.newaI (nc := 15) (ns := 2414) g 800 159 hl (by decide) (by decide) (by decide) d_md_init_334 ?_
  have on_ := pw_apn (x := (1, 800)) hl
  have hp := pw_apl (l := [(1, 800)]) hp
  have o_122 := pw_apl (l := [(1, 800)]) o_122
  have o_123 := pw_apl (l := [(1, 800)]) o_123
  have o_124 := pw_apl (l := [(1, 800)]) o_124
  have o_125 := pw_apl (l := [(1, 800)]) o_125
  have o_126 := pw_apl (l := [(1, 800)]) o_126
  have o_127 := pw_apl (l := [(1, 800)]) o_127
  have o_128 := pw_apl (l := [(1, 800)]) o_128
  have o_129 := pw_apl (l := [(1, 800)]) o_129
  have o_130 := pw_apl (l := [(1, 800)]) o_130
  have o_131 := pw_apl (l := [(1, 800)]) o_131
  have o_132 := pw_apl (l := [(1, 800)]) o_132
  have o_133 := pw_apl (l := [(1, 800)]) o_133
  have o_134 := pw_apl (l := [(1, 800)]) o_134
  have o_135 := pw_apl (l := [(1, 800)]) o_135
  have o_136 := pw_apl (l := [(1, 800)]) o_136
  have o_137 := pw_apl (l := [(1, 800)]) o_137
  have o_138 := pw_apl (l := [(1, 800)]) o_138
  have o_139 := pw_apl (l := [(1, 800)]) o_139
  have o_140 := pw_apl (l := [(1, 800)]) o_140
  have o_141 := pw_apl (l := [(1, 800)]) o_141
  have o_142 := pw_apl (l := [(1, 800)]) o_142
  have o_143 := pw_apl (l := [(1, 800)]) o_143
  have o_144 := pw_apl (l := [(1, 800)]) o_144
  have o_145 := pw_apl (l := [(1, 800)]) o_145
  have o_146 := pw_apl (l := [(1, 800)]) o_146
  have o_147 := pw_apl (l := [(1, 800)]) o_147
  have o_148 := pw_apl (l := [(1, 800)]) o_148
  have o_149 := pw_apl (l := [(1, 800)]) o_149
  have o_150 := pw_apl (l := [(1, 800)]) o_150
  have o_151 := pw_apl (l := [(1, 800)]) o_151
  have o_152 := pw_apl (l := [(1, 800)]) o_152
  have o_153 := pw_apl (l := [(1, 800)]) o_153
  have o_154 := pw_apl (l := [(1, 800)]) o_154
  have o_155 := pw_apl (l := [(1, 800)]) o_155
  have o_156 := pw_apl (l := [(1, 800)]) o_156
  have o_157 := pw_apl (l := [(1, 800)]) o_157
  have o_158 := pw_apl (l := [(1, 800)]) o_158
  have o_159 := on_
  have hl := pw_len1 (x := (1, 800)) hl
  refine PW.putFR g fi_md_125 rfl (fun C_ T_ N_ ty_ h_ => by cases Option.some.inj (ck_md.1.symm.trans h_.1); exact (pw_gw 1184 (by decide +kernel) (by decide +kernel))) (fun C_ T_ N_ ty_ h_ => by cases Option.some.inj (ck_md.1.symm.trans h_.1); rfl) hp rfl rfl d_md_init_336 ?_
  refine PW.aload_n g rfl rfl d_md_init_339 ?_
  refine PW.sipush g (200) (by decide) d_md_init_340 ?_
  refine PW.newaI (nc := 14) (ns := 2214) g 200 160 hl (by decide) (by decide) (by decide) d_md_init_343 ?_
  have on_ := pw_apn (x := (1, 200)) hl
  have hp := pw_apl (l := [(1, 200)]) hp
  have o_122 := pw_apl (l := [(1, 200)]) o_122
  have o_123 := pw_apl (l := [(1, 200)]) o_123
  have o_124 := pw_apl (l := [(1, 200)]) o_124
  have o_125 := pw_apl (l := [(1, 200)]) o_125
  have o_126 := pw_apl (l := [(1, 200)]) o_126
  have o_127 := pw_apl (l := [(1, 200)]) o_127
  have o_128 := pw_apl (l := [(1, 200)]) o_128
  have o_129 := pw_apl (l := [(1, 200)]) o_129
  have o_130 := pw_apl (l := [(1, 200)]) o_130
  have o_131 := pw_apl (l := [(1, 200)]) o_131
  have o_132 := pw_apl (l := [(1, 200)]) o_132
  have o_133 := pw_apl (l := [(1, 200)]) o_133
  have o_134 := pw_apl (l := [(1, 200)]) o_134
  have o_135 := pw_apl (l := [(1, 200)]) o_135
  have o_136 := pw_apl (l := [(1, 200)]) o_136
  have o_137 := pw_apl (l := [(1, 200)]) o_137
  have o_138 := pw_apl (l := [(1, 200)]) o_138
  have o_139 := pw_apl (l := [(1, 200)]) o_139
  have o_140 := pw_apl (l := [(1, 200)]) o_140
  have o_141 := pw_apl (l := [(1, 200)]) o_141
  have o_142 := pw_apl (l := [(1, 200)]) o_142
  have o_143 := pw_apl (l := [(1, 200)]) o_143
  have o_144 := pw_apl (l := [(1, 200)]) o_144
  have o_145 := pw_apl (l := [(1, 200)]) o_145
  have o_146 := pw_apl (l := [(1, 200)]) o_146
  have o_147 := pw_apl (l := [(1, 200)]) o_147
  have o_148 := pw_apl (l := [(1, 200)]) o_148
  have o_149 := pw_apl (l := [(1, 200)]) o_149
  have o_150 := pw_apl (l := [(1, 200)]) o_150
  have o_151 := pw_apl (l := [(1, 200)]) o_151
  have o_152 := pw_apl (l := [(1, 200)]) o_152
  have o_153 := pw_apl (l := [(1, 200)]) o_153
  have o_154 := pw_apl (l := [(1, 200)]) o_154
  have o_155 := pw_apl (l := [(1, 200)]) o_155
  have o_156 := pw_apl (l := [(1, 200)]) o_156
  have o_157 := pw_apl (l := [(1, 200)]) o_157
  have o_158 := pw_apl (l := [(1, 200)]) o_158
  have o_159 := pw_apl (l := [(1, 200)]) o_159
  have o_160 := on_
  have hl := pw_len1 (x := (1, 200)) hl
  refine PW.putFR g fi_md_128 rfl (fun C_ T_ N_ ty_ h_ => by cases Option.some.inj (ck_md.1.symm.trans h_.1); exact (pw_gw 1186 (by decide +kernel) (by decide +kernel))) (fun C_ T_ N_ ty_ h_ => by cases Option.some.inj (ck_md.1.symm.trans h_.1); rfl) hp rfl rfl d_md_init_345 ?_
  refine PW.aload_n g rfl rfl d_md_init_348 ?_
  refine PW.sipush g (200) (by decide) d_md_init_349 ?_
  refine PW.newaI (nc := 13) (ns := 2014) g 200 161 hl (by decide) (by decide) (by decide) d_md_init_352 ?_
  have on_ := pw_apn (x := (1, 200)) hl
  have hp := pw_apl (l := [(1, 200)]) hp
  have o_122 := pw_apl (l := [(1, 200)]) o_122
  have o_123 := pw_apl (l := [(1, 200)]) o_123
  have o_124 := pw_apl (l := [(1, 200)]) o_124
  have o_125 := pw_apl (l := [(1, 200)]) o_125
  have o_126 := pw_apl (l := [(1, 200)]) o_126
  have o_127 := pw_apl (l := [(1, 200)]) o_127
  have o_128 := pw_apl (l := [(1, 200)]) o_128
  have o_129 := pw_apl (l := [(1, 200)]) o_129
  have o_130 := pw_apl (l := [(1, 200)]) o_130
  have o_131 := pw_apl (l := [(1, 200)]) o_131
  have o_132 := pw_apl (l := [(1, 200)]) o_132
  have o_133 := pw_apl (l := [(1, 200)]) o_133
  have o_134 := pw_apl (l := [(1, 200)]) o_134
  have o_135 := pw_apl (l := [(1, 200)]) o_135
  have o_136 := pw_apl (l := [(1, 200)]) o_136
  have o_137 := pw_apl (l := [(1, 200)]) o_137
  have o_138 := pw_apl (l := [(1, 200)]) o_138
  have o_139 := pw_apl (l := [(1, 200)]) o_139
  have o_140 := pw_apl (l := [(1, 200)]) o_140
  have o_141 := pw_apl (l := [(1, 200)]) o_141
  have o_142 := pw_apl (l := [(1, 200)]) o_142
  have o_143 := pw_apl (l := [(1, 200)]) o_143
  have o_144 := pw_apl (l := [(1, 200)]) o_144
  have o_145 := pw_apl (l := [(1, 200)]) o_145
  have o_146 := pw_apl (l := [(1, 200)]) o_146
  have o_147 := pw_apl (l := [(1, 200)]) o_147
  have o_148 := pw_apl (l := [(1, 200)]) o_148
  have o_149 := pw_apl (l := [(1, 200)]) o_149
  have o_150 := pw_apl (l := [(1, 200)]) o_150
  have o_151 := pw_apl (l := [(1, 200)]) o_151
  have o_152 := pw_apl (l := [(1, 200)]) o_152
  have o_153 := pw_apl (l := [(1, 200)]) o_153
  have o_154 := pw_apl (l := [(1, 200)]) o_154
  have o_155 := pw_apl (l := [(1, 200)]) o_155
  have o_156 := pw_apl (l := [(1, 200)]) o_156
  have o_157 := pw_apl (l := [(1, 200)]) o_157
  have o_158 := pw_apl (l := [(1, 200)]) o_158
  have o_159 := pw_apl (l := [(1, 200)]) o_159
  have o_160 := pw_apl (l := [(1, 200)]) o_160
  have o_161 := on_
  have hl := pw_len1 (x := (1, 200)) hl
  refine PW.putFR g fi_md_131 rfl (fun C_ T_ N_ ty_ h_ => by cases Option.some.inj (ck_md.1.symm.trans h_.1); exact (pw_gw 1187 (by decide +kernel) (by decide +kernel))) (fun C_ T_ N_ ty_ h_ => by cases Option.some.inj (ck_md.1.symm.trans h_.1); rfl) hp rfl rfl d_md_init_354 ?_
  refine PW.aload_n g rfl rfl d_md_init_357 ?_
  refine PW.bipush g (120) (by decide) d_md_init_358 ?_
  refine PW.newaI (nc := 12) (ns := 1894) g 120 162 hl (by decide) (by decide) (by decide) d_md_init_360 ?_
  have on_ := pw_apn (x := (1, 120)) hl
  have hp := pw_apl (l := [(1, 120)]) hp
  have o_122 := pw_apl (l := [(1, 120)]) o_122
  have o_123 := pw_apl (l := [(1, 120)]) o_123
  have o_124 := pw_apl (l := [(1, 120)]) o_124
  have o_125 := pw_apl (l := [(1, 120)]) o_125
  have o_126 := pw_apl (l := [(1, 120)]) o_126
  have o_127 := pw_apl (l := [(1, 120)]) o_127
  have o_128 := pw_apl (l := [(1, 120)]) o_128
  have o_129 := pw_apl (l := [(1, 120)]) o_129
  have o_130 := pw_apl (l := [(1, 120)]) o_130
  have o_131 := pw_apl (l := [(1, 120)]) o_131
  have o_132 := pw_apl (l := [(1, 120)]) o_132
  have o_133 := pw_apl (l := [(1, 120)]) o_133
  have o_134 := pw_apl (l := [(1, 120)]) o_134
  have o_135 := pw_apl (l := [(1, 120)]) o_135
  have o_136 := pw_apl (l := [(1, 120)]) o_136
  have o_137 := pw_apl (l := [(1, 120)]) o_137
  have o_138 := pw_apl (l := [(1, 120)]) o_138
  have o_139 := pw_apl (l := [(1, 120)]) o_139
  have o_140 := pw_apl (l := [(1, 120)]) o_140
  have o_141 := pw_apl (l := [(1, 120)]) o_141
  have o_142 := pw_apl (l := [(1, 120)]) o_142
  have o_143 := pw_apl (l := [(1, 120)]) o_143
  have o_144 := pw_apl (l := [(1, 120)]) o_144
  have o_145 := pw_apl (l := [(1, 120)]) o_145
  have o_146 := pw_apl (l := [(1, 120)]) o_146
  have o_147 := pw_apl (l := [(1, 120)]) o_147
  have o_148 := pw_apl (l := [(1, 120)]) o_148
  have o_149 := pw_apl (l := [(1, 120)]) o_149
  have o_150 := pw_apl (l := [(1, 120)]) o_150
  have o_151 := pw_apl (l := [(1, 120)]) o_151
  have o_152 := pw_apl (l := [(1, 120)]) o_152
  have o_153 := pw_apl (l := [(1, 120)]) o_153
  have o_154 := pw_apl (l := [(1, 120)]) o_154
  have o_155 := pw_apl (l := [(1, 120)]) o_155
  have o_156 := pw_apl (l := [(1, 120)]) o_156
  have o_157 := pw_apl (l := [(1, 120)]) o_157
  have o_158 := pw_apl (l := [(1, 120)]) o_158
  have o_159 := pw_apl (l := [(1, 120)]) o_159
  have o_160 := pw_apl (l := [(1, 120)]) o_160
  have o_161 := pw_apl (l := [(1, 120)]) o_161
  have o_162 := on_
  have hl := pw_len1 (x := (1, 120)) hl
  refine PW.putFR g fi_md_134 rfl (fun C_ T_ N_ ty_ h_ => by cases Option.some.inj (ck_md.1.symm.trans h_.1); exact (pw_gw 1190 (by decide +kernel) (by decide +kernel))) (fun C_ T_ N_ ty_ h_ => by cases Option.some.inj (ck_md.1.symm.trans h_.1); rfl) hp rfl rfl d_md_init_362 ?_
  refine PW.aload_n g rfl rfl d_md_init_365 ?_
  refine PW.bipush g (6) (by decide) d_md_init_366 ?_
  refine PW.newaI (nc := 11) (ns := 1888) g 6 163 hl (by decide) (by decide) (by decide) d_md_init_368 ?_
  have on_ := pw_apn (x := (1, 6)) hl
  have hp := pw_apl (l := [(1, 6)]) hp
  have o_122 := pw_apl (l := [(1, 6)]) o_122
  have o_123 := pw_apl (l := [(1, 6)]) o_123
  have o_124 := pw_apl (l := [(1, 6)]) o_124
  have o_125 := pw_apl (l := [(1, 6)]) o_125
  have o_126 := pw_apl (l := [(1, 6)]) o_126
  have o_127 := pw_apl (l := [(1, 6)]) o_127
  have o_128 := pw_apl (l := [(1, 6)]) o_128
  have o_129 := pw_apl (l := [(1, 6)]) o_129
  have o_130 := pw_apl (l := [(1, 6)]) o_130
  have o_131 := pw_apl (l := [(1, 6)]) o_131
  have o_132 := pw_apl (l := [(1, 6)]) o_132
  have o_133 := pw_apl (l := [(1, 6)]) o_133
  have o_134 := pw_apl (l := [(1, 6)]) o_134
  have o_135 := pw_apl (l := [(1, 6)]) o_135
  have o_136 := pw_apl (l := [(1, 6)]) o_136
  have o_137 := pw_apl (l := [(1, 6)]) o_137
  have o_138 := pw_apl (l := [(1, 6)]) o_138
  have o_139 := pw_apl (l := [(1, 6)]) o_139
  have o_140 := pw_apl (l := [(1, 6)]) o_140
  have o_141 := pw_apl (l := [(1, 6)]) o_141
  have o_142 := pw_apl (l := [(1, 6)]) o_142
  have o_143 := pw_apl (l := [(1, 6)]) o_143
  have o_144 := pw_apl (l := [(1, 6)]) o_144
  have o_145 := pw_apl (l := [(1, 6)]) o_145
  have o_146 := pw_apl (l := [(1, 6)]) o_146
  have o_147 := pw_apl (l := [(1, 6)]) o_147
  have o_148 := pw_apl (l := [(1, 6)]) o_148
  have o_149 := pw_apl (l := [(1, 6)]) o_149
  have o_150 := pw_apl (l := [(1, 6)]) o_150
  have o_151 := pw_apl (l := [(1, 6)]) o_151
  have o_152 := pw_apl (l := [(1, 6)]) o_152
  have o_153 := pw_apl (l := [(1, 6)]) o_153
  have o_154 := pw_apl (l := [(1, 6)]) o_154
  have o_155 := pw_apl (l := [(1, 6)]) o_155
  have o_156 := pw_apl (l := [(1, 6)]) o_156
  have o_157 := pw_apl (l := [(1, 6)]) o_157
  have o_158 := pw_apl (l := [(1, 6)]) o_158
  have o_159 := pw_apl (l := [(1, 6)]) o_159
  have o_160 := pw_apl (l := [(1, 6)]) o_160
  have o_161 := pw_apl (l := [(1, 6)]) o_161
  have o_162 := pw_apl (l := [(1, 6)]) o_162
  have o_163 := on_
  have hl := pw_len1 (x := (1, 6)) hl
  refine PW.putFR g fi_md_137 rfl (fun C_ T_ N_ ty_ h_ => by cases Option.some.inj (ck_md.1.symm.trans h_.1); exact (pw_gw 1191 (by decide +kernel) (by decide +kernel))) (fun C_ T_ N_ ty_ h_ => by cases Option.some.inj (ck_md.1.symm.trans h_.1); rfl) hp rfl rfl d_md_init_370 ?_
  refine PW.aload_n g rfl rfl d_md_init_373 ?_
  refine PW.bipush g (6) (by decide) d_md_init_374 ?_
  refine PW.newaI (nc := 10) (ns := 1882) g 6 164 hl (by decide) (by decide) (by decide) d_md_init_376 ?_
  have on_ := pw_apn (x := (1, 6)) hl
  have hp := pw_apl (l := [(1, 6)]) hp
  have o_122 := pw_apl (l := [(1, 6)]) o_122
  have o_123 := pw_apl (l := [(1, 6)]) o_123
  have o_124 := pw_apl (l := [(1, 6)]) o_124
  have o_125 := pw_apl (l := [(1, 6)]) o_125
  have o_126 := pw_apl (l := [(1, 6)]) o_126
  have o_127 := pw_apl (l := [(1, 6)]) o_127
  have o_128 := pw_apl (l := [(1, 6)]) o_128
  have o_129 := pw_apl (l := [(1, 6)]) o_129
  have o_130 := pw_apl (l := [(1, 6)]) o_130
  have o_131 := pw_apl (l := [(1, 6)]) o_131
  have o_132 := pw_apl (l := [(1, 6)]) o_132
  have o_133 := pw_apl (l := [(1, 6)]) o_133
  have o_134 := pw_apl (l := [(1, 6)]) o_134
  have o_135 := pw_apl (l := [(1, 6)]) o_135
  have o_136 := pw_apl (l := [(1, 6)]) o_136
  have o_137 := pw_apl (l := [(1, 6)]) o_137
  have o_138 := pw_apl (l := [(1, 6)]) o_138
  have o_139 := pw_apl (l := [(1, 6)]) o_139
  have o_140 := pw_apl (l := [(1, 6)]) o_140
  have o_141 := pw_apl (l := [(1, 6)]) o_141
  have o_142 := pw_apl (l := [(1, 6)]) o_142
  have o_143 := pw_apl (l := [(1, 6)]) o_143
  have o_144 := pw_apl (l := [(1, 6)]) o_144
  have o_145 := pw_apl (l := [(1, 6)]) o_145
  have o_146 := pw_apl (l := [(1, 6)]) o_146
  have o_147 := pw_apl (l := [(1, 6)]) o_147
  have o_148 := pw_apl (l := [(1, 6)]) o_148
  have o_149 := pw_apl (l := [(1, 6)]) o_149
  have o_150 := pw_apl (l := [(1, 6)]) o_150
  have o_151 := pw_apl (l := [(1, 6)]) o_151
  have o_152 := pw_apl (l := [(1, 6)]) o_152
  have o_153 := pw_apl (l := [(1, 6)]) o_153
  have o_154 := pw_apl (l := [(1, 6)]) o_154
  have o_155 := pw_apl (l := [(1, 6)]) o_155
  have o_156 := pw_apl (l := [(1, 6)]) o_156
  have o_157 := pw_apl (l := [(1, 6)]) o_157
  have o_158 := pw_apl (l := [(1, 6)]) o_158
  have o_159 := pw_apl (l := [(1, 6)]) o_159
  have o_160 := pw_apl (l := [(1, 6)]) o_160
  have o_161 := pw_apl (l := [(1, 6)]) o_161
  have o_162 := pw_apl (l := [(1, 6)]) o_162
  have o_163 := pw_apl (l := [(1, 6)]) o_163
  have o_164 := on_
  have hl := pw_len1 (x := (1, 6)) hl
  refine PW.putFR g fi_md_140 rfl (fun C_ T_ N_ ty_ h_ => by cases Option.some.inj (ck_md.1.symm.trans h_.1); exact (pw_gw 1192 (by decide +kernel) (by decide +kernel))) (fun C_ T_ N_ ty_ h_ => by cases Option.some.inj (ck_md.1.symm.trans h_.1); rfl) hp rfl rfl d_md_init_378 ?_
  refine PW.aload_n g rfl rfl d_md_init_381 ?_
  refine PW.bipush g (6) (by decide) d_md_init_382 ?_
  refine PW.newaZ (nc := 9) (ns := 1876) g 6 165 hl (by decide) (by decide) (by decide) d_md_init_384 ?_
  have on_ := pw_apn (x := (3, 6)) hl
  have hp := pw_apl (l := [(3, 6)]) hp
  have o_122 := pw_apl (l := [(3, 6)]) o_122
  have o_123 := pw_apl (l := [(3, 6)]) o_123
  have o_124 := pw_apl (l := [(3, 6)]) o_124
  have o_125 := pw_apl (l := [(3, 6)]) o_125
  have o_126 := pw_apl (l := [(3, 6)]) o_126
  have o_127 := pw_apl (l := [(3, 6)]) o_127
  have o_128 := pw_apl (l := [(3, 6)]) o_128
  have o_129 := pw_apl (l := [(3, 6)]) o_129
  have o_130 := pw_apl (l := [(3, 6)]) o_130
  have o_131 := pw_apl (l := [(3, 6)]) o_131
  have o_132 := pw_apl (l := [(3, 6)]) o_132
  have o_133 := pw_apl (l := [(3, 6)]) o_133
  have o_134 := pw_apl (l := [(3, 6)]) o_134
  have o_135 := pw_apl (l := [(3, 6)]) o_135
  have o_136 := pw_apl (l := [(3, 6)]) o_136
  have o_137 := pw_apl (l := [(3, 6)]) o_137
  have o_138 := pw_apl (l := [(3, 6)]) o_138
  have o_139 := pw_apl (l := [(3, 6)]) o_139
  have o_140 := pw_apl (l := [(3, 6)]) o_140
  have o_141 := pw_apl (l := [(3, 6)]) o_141
  have o_142 := pw_apl (l := [(3, 6)]) o_142
  have o_143 := pw_apl (l := [(3, 6)]) o_143
  have o_144 := pw_apl (l := [(3, 6)]) o_144
  have o_145 := pw_apl (l := [(3, 6)]) o_145
  have o_146 := pw_apl (l := [(3, 6)]) o_146
  have o_147 := pw_apl (l := [(3, 6)]) o_147
  have o_148 := pw_apl (l := [(3, 6)]) o_148
  have o_149 := pw_apl (l := [(3, 6)]) o_149
  have o_150 := pw_apl (l := [(3, 6)]) o_150
  have o_151 := pw_apl (l := [(3, 6)]) o_151
  have o_152 := pw_apl (l := [(3, 6)]) o_152
  have o_153 := pw_apl (l := [(3, 6)]) o_153
  have o_154 := pw_apl (l := [(3, 6)]) o_154
  have o_155 := pw_apl (l := [(3, 6)]) o_155
  have o_156 := pw_apl (l := [(3, 6)]) o_156
  have o_157 := pw_apl (l := [(3, 6)]) o_157
  have o_158 := pw_apl (l := [(3, 6)]) o_158
  have o_159 := pw_apl (l := [(3, 6)]) o_159
  have o_160 := pw_apl (l := [(3, 6)]) o_160
  have o_161 := pw_apl (l := [(3, 6)]) o_161
  have o_162 := pw_apl (l := [(3, 6)]) o_162
  have o_163 := pw_apl (l := [(3, 6)]) o_163
  have o_164 := pw_apl (l := [(3, 6)]) o_164
  have o_165 := on_
  have hl := pw_len1 (x := (3, 6)) hl
  refine PW.putFR g fi_md_143 rfl (fun C_ T_ N_ ty_ h_ => by cases Option.some.inj (ck_md.1.symm.trans h_.1); exact (pw_gw 1193 (by decide +kernel) (by decide +kernel))) (fun C_ T_ N_ ty_ h_ => by cases Option.some.inj (ck_md.1.symm.trans h_.1); rfl) hp rfl rfl d_md_init_386 ?_
  refine PW.aload_n g rfl rfl d_md_init_389 ?_
  refine PW.sipush g (156) (by decide) d_md_init_390 ?_
  refine PW.newaI (nc := 8) (ns := 1720) g 156 166 hl (by decide) (by decide) (by decide) d_md_init_393 ?_
  have on_ := pw_apn (x := (1, 156)) hl
  have hp := pw_apl (l := [(1, 156)]) hp
  have o_122 := pw_apl (l := [(1, 156)]) o_122
  have o_123 := pw_apl (l := [(1, 156)]) o_123
  have o_124 := pw_apl (l := [(1, 156)]) o_124
  have o_125 := pw_apl (l := [(1, 156)]) o_125
  have o_126 := pw_apl (l := [(1, 156)]) o_126
  have o_127 := pw_apl (l := [(1, 156)]) o_127
  have o_128 := pw_apl (l := [(1, 156)]) o_128
  have o_129 := pw_apl (l := [(1, 156)]) o_129
  have o_130 := pw_apl (l := [(1, 156)]) o_130
  have o_131 := pw_apl (l := [(1, 156)]) o_131
  have o_132 := pw_apl (l := [(1, 156)]) o_132
  have o_133 := pw_apl (l := [(1, 156)]) o_133
  have o_134 := pw_apl (l := [(1, 156)]) o_134
  have o_135 := pw_apl (l := [(1, 156)]) o_135
  have o_136 := pw_apl (l := [(1, 156)]) o_136
  have o_137 := pw_apl (l := [(1, 156)]) o_137
  have o_138 := pw_apl (l := [(1, 156)]) o_138
  have o_139 := pw_apl (l := [(1, 156)]) o_139
  have o_140 := pw_apl (l := [(1, 156)]) o_140
  have o_141 := pw_apl (l := [(1, 156)]) o_141
  have o_142 := pw_apl (l := [(1, 156)]) o_142
  have o_143 := pw_apl (l := [(1, 156)]) o_143
  have o_144 := pw_apl (l := [(1, 156)]) o_144
  have o_145 := pw_apl (l := [(1, 156)]) o_145
  have o_146 := pw_apl (l := [(1, 156)]) o_146
  have o_147 := pw_apl (l := [(1, 156)]) o_147
  have o_148 := pw_apl (l := [(1, 156)]) o_148
  have o_149 := pw_apl (l := [(1, 156)]) o_149
  have o_150 := pw_apl (l := [(1, 156)]) o_150
  have o_151 := pw_apl (l := [(1, 156)]) o_151
  have o_152 := pw_apl (l := [(1, 156)]) o_152
  have o_153 := pw_apl (l := [(1, 156)]) o_153
  have o_154 := pw_apl (l := [(1, 156)]) o_154
  have o_155 := pw_apl (l := [(1, 156)]) o_155
  have o_156 := pw_apl (l := [(1, 156)]) o_156
  have o_157 := pw_apl (l := [(1, 156)]) o_157
  have o_158 := pw_apl (l := [(1, 156)]) o_158
  have o_159 := pw_apl (l := [(1, 156)]) o_159
  have o_160 := pw_apl (l := [(1, 156)]) o_160
  have o_161 := pw_apl (l := [(1, 156)]) o_161
  have o_162 := pw_apl (l := [(1, 156)]) o_162
  have o_163 := pw_apl (l := [(1, 156)]) o_163
  have o_164 := pw_apl (l := [(1, 156)]) o_164
  have o_165 := pw_apl (l := [(1, 156)]) o_165
  have o_166 := on_
  have hl := pw_len1 (x := (1, 156)) hl
  refine PW.putFR g fi_md_147 rfl (fun C_ T_ N_ ty_ h_ => by cases Option.some.inj (ck_md.1.symm.trans h_.1); exact (pw_gw 1194 (by decide +kernel) (by decide +kernel))) (fun C_ T_ N_ ty_ h_ => by cases Option.some.inj (ck_md.1.symm.trans h_.1); rfl) hp rfl rfl d_md_init_395 ?_
  refine PW.aload_n g rfl rfl d_md_init_398 ?_
  refine PW.bipush g (12) (by decide) d_md_init_399 ?_
  refine PW.newaI (nc := 7) (ns := 1708) g 12 167 hl (by decide) (by decide) (by decide) d_md_init_401 ?_
  have on_ := pw_apn (x := (1, 12)) hl
  have hp := pw_apl (l := [(1, 12)]) hp
  have o_122 := pw_apl (l := [(1, 12)]) o_122
  have o_123 := pw_apl (l := [(1, 12)]) o_123
  have o_124 := pw_apl (l := [(1, 12)]) o_124
  have o_125 := pw_apl (l := [(1, 12)]) o_125
  have o_126 := pw_apl (l := [(1, 12)]) o_126
  have o_127 := pw_apl (l := [(1, 12)]) o_127
  have o_128 := pw_apl (l := [(1, 12)]) o_128
  have o_129 := pw_apl (l := [(1, 12)]) o_129
  have o_130 := pw_apl (l := [(1, 12)]) o_130
  have o_131 := pw_apl (l := [(1, 12)]) o_131
  have o_132 := pw_apl (l := [(1, 12)]) o_132
  have o_133 := pw_apl (l := [(1, 12)]) o_133
  have o_134 := pw_apl (l := [(1, 12)]) o_134
  have o_135 := pw_apl (l := [(1, 12)]) o_135
  have o_136 := pw_apl (l := [(1, 12)]) o_136
  have o_137 := pw_apl (l := [(1, 12)]) o_137
  have o_138 := pw_apl (l := [(1, 12)]) o_138
  have o_139 := pw_apl (l := [(1, 12)]) o_139
  have o_140 := pw_apl (l := [(1, 12)]) o_140
  have o_141 := pw_apl (l := [(1, 12)]) o_141
  have o_142 := pw_apl (l := [(1, 12)]) o_142
  have o_143 := pw_apl (l := [(1, 12)]) o_143
  have o_144 := pw_apl (l := [(1, 12)]) o_144
  have o_145 := pw_apl (l := [(1, 12)]) o_145
  have o_146 := pw_apl (l := [(1, 12)]) o_146
  have o_147 := pw_apl (l := [(1, 12)]) o_147
  have o_148 := pw_apl (l := [(1, 12)]) o_148
  have o_149 := pw_apl (l := [(1, 12)]) o_149
  have o_150 := pw_apl (l := [(1, 12)]) o_150
  have o_151 := pw_apl (l := [(1, 12)]) o_151
  have o_152 := pw_apl (l := [(1, 12)]) o_152
  have o_153 := pw_apl (l := [(1, 12)]) o_153
  have o_154 := pw_apl (l := [(1, 12)]) o_154
  have o_155 := pw_apl (l := [(1, 12)]) o_155
  have o_156 := pw_apl (l := [(1, 12)]) o_156
  have o_157 := pw_apl (l := [(1, 12)]) o_157
  have o_158 := pw_apl (l := [(1, 12)]) o_158
  have o_159 := pw_apl (l := [(1, 12)]) o_159
  have o_160 := pw_apl (l := [(1, 12)]) o_160
  have o_161 := pw_apl (l := [(1, 12)]) o_161
  have o_162 := pw_apl (l := [(1, 12)]) o_162
  have o_163 := pw_apl (l := [(1, 12)]) o_163
  have o_164 := pw_apl (l := [(1, 12)]) o_164
  have o_165 := pw_apl (l := [(1, 12)]) o_165
  have o_166 := pw_apl (l := [(1, 12)]) o_166
  have o_167 := on_
  have hl := pw_len1 (x := (1, 12)) hl
  refine PW.putFR g fi_md_150 rfl (fun C_ T_ N_ ty_ h_ => by cases Option.some.inj (ck_md.1.symm.trans h_.1); exact (pw_gw 1195 (by decide +kernel) (by decide +kernel))) (fun C_ T_ N_ ty_ h_ => by cases Option.some.inj (ck_md.1.symm.trans h_.1); rfl) hp rfl rfl d_md_init_403 ?_
  refine PW.aload_n g rfl rfl d_md_init_406 ?_
  refine PW.bipush g (6) (by decide) d_md_init_407 ?_
  refine PW.newaI (nc := 6) (ns := 1702) g 6 168 hl (by decide) (by decide) (by decide) d_md_init_409 ?_
  have on_ := pw_apn (x := (1, 6)) hl
  have hp := pw_apl (l := [(1, 6)]) hp
  have o_122 := pw_apl (l := [(1, 6)]) o_122
  have o_123 := pw_apl (l := [(1, 6)]) o_123
  have o_124 := pw_apl (l := [(1, 6)]) o_124
  have o_125 := pw_apl (l := [(1, 6)]) o_125
  have o_126 := pw_apl (l := [(1, 6)]) o_126
  have o_127 := pw_apl (l := [(1, 6)]) o_127
  have o_128 := pw_apl (l := [(1, 6)]) o_128
  have o_129 := pw_apl (l := [(1, 6)]) o_129
  have o_130 := pw_apl (l := [(1, 6)]) o_130
  have o_131 := pw_apl (l := [(1, 6)]) o_131
  have o_132 := pw_apl (l := [(1, 6)]) o_132
  have o_133 := pw_apl (l := [(1, 6)]) o_133
  have o_134 := pw_apl (l := [(1, 6)]) o_134
  have o_135 := pw_apl (l := [(1, 6)]) o_135
  have o_136 := pw_apl (l := [(1, 6)]) o_136
  have o_137 := pw_apl (l := [(1, 6)]) o_137
  have o_138 := pw_apl (l := [(1, 6)]) o_138
  have o_139 := pw_apl (l := [(1, 6)]) o_139
  have o_140 := pw_apl (l := [(1, 6)]) o_140
  have o_141 := pw_apl (l := [(1, 6)]) o_141
  have o_142 := pw_apl (l := [(1, 6)]) o_142
  have o_143 := pw_apl (l := [(1, 6)]) o_143
  have o_144 := pw_apl (l := [(1, 6)]) o_144
  have o_145 := pw_apl (l := [(1, 6)]) o_145
  have o_146 := pw_apl (l := [(1, 6)]) o_146
  have o_147 := pw_apl (l := [(1, 6)]) o_147
  have o_148 := pw_apl (l := [(1, 6)]) o_148
  have o_149 := pw_apl (l := [(1, 6)]) o_149
  have o_150 := pw_apl (l := [(1, 6)]) o_150
  have o_151 := pw_apl (l := [(1, 6)]) o_151
  have o_152 := pw_apl (l := [(1, 6)]) o_152
  have o_153 := pw_apl (l := [(1, 6)]) o_153
  have o_154 := pw_apl (l := [(1, 6)]) o_154
  have o_155 := pw_apl (l := [(1, 6)]) o_155
  have o_156 := pw_apl (l := [(1, 6)]) o_156
  have o_157 := pw_apl (l := [(1, 6)]) o_157
  have o_158 := pw_apl (l := [(1, 6)]) o_158
  have o_159 := pw_apl (l := [(1, 6)]) o_159
  have o_160 := pw_apl (l := [(1, 6)]) o_160
  have o_161 := pw_apl (l := [(1, 6)]) o_161
  have o_162 := pw_apl (l := [(1, 6)]) o_162
  have o_163 := pw_apl (l := [(1, 6)]) o_163
  have o_164 := pw_apl (l := [(1, 6)]) o_164
  have o_165 := pw_apl (l := [(1, 6)]) o_165
  have o_166 := pw_apl (l := [(1, 6)]) o_166
  have o_167 := pw_apl (l := [(1, 6)]) o_167
  have o_168 := on_
  have hl := pw_len1 (x := (1, 6)) hl
  refine PW.putFR g fi_md_153 rfl (fun C_ T_ N_ ty_ h_ => by cases Option.some.inj (ck_md.1.symm.trans h_.1); exact (pw_gw 1196 (by decide +kernel) (by decide +kernel))) (fun C_ T_ N_ ty_ h_ => by cases Option.some.inj (ck_md.1.symm.trans h_.1); rfl) hp rfl rfl d_md_init_411 ?_
  refine PW.aload_n g rfl rfl d_md_init_414 ?_
  refine PW.sipush g (720) (by decide) d_md_init_415 ?_
  refine PW.newaI (nc := 5) (ns := 982) g 720 169 hl (by decide) (by decide) (by decide) d_md_init_418 ?_
  have on_ := pw_apn (x := (1, 720)) hl
  have hp := pw_apl (l := [(1, 720)]) hp
  have o_122 := pw_apl (l := [(1, 720)]) o_122
  have o_123 := pw_apl (l := [(1, 720)]) o_123
  have o_124 := pw_apl (l := [(1, 720)]) o_124
  have o_125 := pw_apl (l := [(1, 720)]) o_125
  have o_126 := pw_apl (l := [(1, 720)]) o_126
  have o_127 := pw_apl (l := [(1, 720)]) o_127
  have o_128 := pw_apl (l := [(1, 720)]) o_128
  have o_129 := pw_apl (l := [(1, 720)]) o_129
  have o_130 := pw_apl (l := [(1, 720)]) o_130
  have o_131 := pw_apl (l := [(1, 720)]) o_131
  have o_132 := pw_apl (l := [(1, 720)]) o_132
  have o_133 := pw_apl (l := [(1, 720)]) o_133
  have o_134 := pw_apl (l := [(1, 720)]) o_134
  have o_135 := pw_apl (l := [(1, 720)]) o_135
  have o_136 := pw_apl (l := [(1, 720)]) o_136
  have o_137 := pw_apl (l := [(1, 720)]) o_137
  have o_138 := pw_apl (l := [(1, 720)]) o_138
  have o_139 := pw_apl (l := [(1, 720)]) o_139
  have o_140 := pw_apl (l := [(1, 720)]) o_140
  have o_141 := pw_apl (l := [(1, 720)]) o_141
  have o_142 := pw_apl (l := [(1, 720)]) o_142
  have o_143 := pw_apl (l := [(1, 720)]) o_143
  have o_144 := pw_apl (l := [(1, 720)]) o_144
  have o_145 := pw_apl (l := [(1, 720)]) o_145
  have o_146 := pw_apl (l := [(1, 720)]) o_146
  have o_147 := pw_apl (l := [(1, 720)]) o_147
  have o_148 := pw_apl (l := [(1, 720)]) o_148
  have o_149 := pw_apl (l := [(1, 720)]) o_149
  have o_150 := pw_apl (l := [(1, 720)]) o_150
  have o_151 := pw_apl (l := [(1, 720)]) o_151
  have o_152 := pw_apl (l := [(1, 720)]) o_152
  have o_153 := pw_apl (l := [(1, 720)]) o_153
  have o_154 := pw_apl (l := [(1, 720)]) o_154
  have o_155 := pw_apl (l := [(1, 720)]) o_155
  have o_156 := pw_apl (l := [(1, 720)]) o_156
  have o_157 := pw_apl (l := [(1, 720)]) o_157
  have o_158 := pw_apl (l := [(1, 720)]) o_158
  have o_159 := pw_apl (l := [(1, 720)]) o_159
  have o_160 := pw_apl (l := [(1, 720)]) o_160
  have o_161 := pw_apl (l := [(1, 720)]) o_161
  have o_162 := pw_apl (l := [(1, 720)]) o_162
  have o_163 := pw_apl (l := [(1, 720)]) o_163
  have o_164 := pw_apl (l := [(1, 720)]) o_164
  have o_165 := pw_apl (l := [(1, 720)]) o_165
  have o_166 := pw_apl (l := [(1, 720)]) o_166
  have o_167 := pw_apl (l := [(1, 720)]) o_167
  have o_168 := pw_apl (l := [(1, 720)]) o_168
  have o_169 := on_
  have hl := pw_len1 (x := (1, 720)) hl
  refine PW.putFR g fi_md_156 rfl (fun C_ T_ N_ ty_ h_ => by cases Option.some.inj (ck_md.1.symm.trans h_.1); exact (pw_gw 1197 (by decide +kernel) (by decide +kernel))) (fun C_ T_ N_ ty_ h_ => by cases Option.some.inj (ck_md.1.symm.trans h_.1); rfl) hp rfl rfl d_md_init_420 ?_
  refine PW.aload_n g rfl rfl d_md_init_423 ?_
  refine PW.sipush g (720) (by decide) d_md_init_424 ?_
  refine PW.newaI (nc := 4) (ns := 262) g 720 170 hl (by decide) (by decide) (by decide) d_md_init_427 ?_
  have on_ := pw_apn (x := (1, 720)) hl
  have hp := pw_apl (l := [(1, 720)]) hp
  have o_122 := pw_apl (l := [(1, 720)]) o_122
  have o_123 := pw_apl (l := [(1, 720)]) o_123
  have o_124 := pw_apl (l := [(1, 720)]) o_124
  have o_125 := pw_apl (l := [(1, 720)]) o_125
  have o_126 := pw_apl (l := [(1, 720)]) o_126
  have o_127 := pw_apl (l := [(1, 720)]) o_127
  have o_128 := pw_apl (l := [(1, 720)]) o_128
  have o_129 := pw_apl (l := [(1, 720)]) o_129
  have o_130 := pw_apl (l := [(1, 720)]) o_130
  have o_131 := pw_apl (l := [(1, 720)]) o_131
  have o_132 := pw_apl (l := [(1, 720)]) o_132
  have o_133 := pw_apl (l := [(1, 720)]) o_133
  have o_134 := pw_apl (l := [(1, 720)]) o_134
  have o_135 := pw_apl (l := [(1, 720)]) o_135
  have o_136 := pw_apl (l := [(1, 720)]) o_136
  have o_137 := pw_apl (l := [(1, 720)]) o_137
  have o_138 := pw_apl (l := [(1, 720)]) o_138
  have o_139 := pw_apl (l := [(1, 720)]) o_139
  have o_140 := pw_apl (l := [(1, 720)]) o_140
  have o_141 := pw_apl (l := [(1, 720)]) o_141
  have o_142 := pw_apl (l := [(1, 720)]) o_142
  have o_143 := pw_apl (l := [(1, 720)]) o_143
  have o_144 := pw_apl (l := [(1, 720)]) o_144
  have o_145 := pw_apl (l := [(1, 720)]) o_145
  have o_146 := pw_apl (l := [(1, 720)]) o_146
  have o_147 := pw_apl (l := [(1, 720)]) o_147
  have o_148 := pw_apl (l := [(1, 720)]) o_148
  have o_149 := pw_apl (l := [(1, 720)]) o_149
  have o_150 := pw_apl (l := [(1, 720)]) o_150
  have o_151 := pw_apl (l := [(1, 720)]) o_151
  have o_152 := pw_apl (l := [(1, 720)]) o_152
  have o_153 := pw_apl (l := [(1, 720)]) o_153
  have o_154 := pw_apl (l := [(1, 720)]) o_154
  have o_155 := pw_apl (l := [(1, 720)]) o_155
  have o_156 := pw_apl (l := [(1, 720)]) o_156
  have o_157 := pw_apl (l := [(1, 720)]) o_157
  have o_158 := pw_apl (l := [(1, 720)]) o_158
  have o_159 := pw_apl (l := [(1, 720)]) o_159
  have o_160 := pw_apl (l := [(1, 720)]) o_160
  have o_161 := pw_apl (l := [(1, 720)]) o_161
  have o_162 := pw_apl (l := [(1, 720)]) o_162
  have o_163 := pw_apl (l := [(1, 720)]) o_163
  have o_164 := pw_apl (l := [(1, 720)]) o_164
  have o_165 := pw_apl (l := [(1, 720)]) o_165
  have o_166 := pw_apl (l := [(1, 720)]) o_166
  have o_167 := pw_apl (l := [(1, 720)]) o_167
  have o_168 := pw_apl (l := [(1, 720)]) o_168
  have o_169 := pw_apl (l := [(1, 720)]) o_169
  have o_170 := on_
  have hl := pw_len1 (x := (1, 720)) hl
  refine PW.putFR g fi_md_159 rfl (fun C_ T_ N_ ty_ h_ => by cases Option.some.inj (ck_md.1.symm.trans h_.1); exact (pw_gw 1198 (by decide +kernel) (by decide +kernel))) (fun C_ T_ N_ ty_ h_ => by cases Option.some.inj (ck_md.1.symm.trans h_.1); rfl) hp rfl rfl d_md_init_429 ?_
  refine PW.aload_n g rfl rfl d_md_init_432 ?_
  refine PW.bipush g (6) (by decide) d_md_init_433 ?_
  refine PW.newaI (nc := 3) (ns := 256) g 6 171 hl (by decide) (by decide) (by decide) d_md_init_435 ?_
  have on_ := pw_apn (x := (1, 6)) hl
  have hp := pw_apl (l := [(1, 6)]) hp
  have o_122 := pw_apl (l := [(1, 6)]) o_122
  have o_123 := pw_apl (l := [(1, 6)]) o_123
  have o_124 := pw_apl (l := [(1, 6)]) o_124
  have o_125 := pw_apl (l := [(1, 6)]) o_125
  have o_126 := pw_apl (l := [(1, 6)]) o_126
  have o_127 := pw_apl (l := [(1, 6)]) o_127
  have o_128 := pw_apl (l := [(1, 6)]) o_128
  have o_129 := pw_apl (l := [(1, 6)]) o_129
  have o_130 := pw_apl (l := [(1, 6)]) o_130
  have o_131 := pw_apl (l := [(1, 6)]) o_131
  have o_132 := pw_apl (l := [(1, 6)]) o_132
  have o_133 := pw_apl (l := [(1, 6)]) o_133
  have o_134 := pw_apl (l := [(1, 6)]) o_134
  have o_135 := pw_apl (l := [(1, 6)]) o_135
  have o_136 := pw_apl (l := [(1, 6)]) o_136
  have o_137 := pw_apl (l := [(1, 6)]) o_137
  have o_138 := pw_apl (l := [(1, 6)]) o_138
  have o_139 := pw_apl (l := [(1, 6)]) o_139
  have o_140 := pw_apl (l := [(1, 6)]) o_140
  have o_141 := pw_apl (l := [(1, 6)]) o_141
  have o_142 := pw_apl (l := [(1, 6)]) o_142
  have o_143 := pw_apl (l := [(1, 6)]) o_143
  have o_144 := pw_apl (l := [(1, 6)]) o_144
  have o_145 := pw_apl (l := [(1, 6)]) o_145
  have o_146 := pw_apl (l := [(1, 6)]) o_146
  have o_147 := pw_apl (l := [(1, 6)]) o_147
  have o_148 := pw_apl (l := [(1, 6)]) o_148
  have o_149 := pw_apl (l := [(1, 6)]) o_149
  have o_150 := pw_apl (l := [(1, 6)]) o_150
  have o_151 := pw_apl (l := [(1, 6)]) o_151
  have o_152 := pw_apl (l := [(1, 6)]) o_152
  have o_153 := pw_apl (l := [(1, 6)]) o_153
  have o_154 := pw_apl (l := [(1, 6)]) o_154
  have o_155 := pw_apl (l := [(1, 6)]) o_155
  have o_156 := pw_apl (l := [(1, 6)]) o_156
  have o_157 := pw_apl (l := [(1, 6)]) o_157
  have o_158 := pw_apl (l := [(1, 6)]) o_158
  have o_159 := pw_apl (l := [(1, 6)]) o_159
  have o_160 := pw_apl (l := [(1, 6)]) o_160
  have o_161 := pw_apl (l := [(1, 6)]) o_161
  have o_162 := pw_apl (l := [(1, 6)]) o_162
  have o_163 := pw_apl (l := [(1, 6)]) o_163
  have o_164 := pw_apl (l := [(1, 6)]) o_164
  have o_165 := pw_apl (l := [(1, 6)]) o_165
  have o_166 := pw_apl (l := [(1, 6)]) o_166
  have o_167 := pw_apl (l := [(1, 6)]) o_167
  have o_168 := pw_apl (l := [(1, 6)]) o_168
  have o_169 := pw_apl (l := [(1, 6)]) o_169
  have o_170 := pw_apl (l := [(1, 6)]) o_170
  have o_171 := on_
  have hl := pw_len1 (x := (1, 6)) hl
  refine PW.putFR g fi_md_162 rfl (fun C_ T_ N_ ty_ h_ => by cases Option.some.inj (ck_md.1.symm.trans h_.1); exact (pw_gw 1199 (by decide +kernel) (by decide +kernel))) (fun C_ T_ N_ ty_ h_ => by cases Option.some.inj (ck_md.1.symm.trans h_.1); rfl) hp rfl rfl d_md_init_437 ?_
  refine PW.aload_n g rfl rfl d_md_init_440 ?_
  refine PW.bipush g (6) (by decide) d_md_init_441 ?_
  refine PW.newaI (nc := 2) (ns := 250) g 6 172 hl (by decide) (by decide) (by decide) d_md_init_443 ?_
  have on_ := pw_apn (x := (1, 6)) hl
  have hp := pw_apl (l := [(1, 6)]) hp
  have o_122 := pw_apl (l := [(1, 6)]) o_122
  have o_123 := pw_apl (l := [(1, 6)]) o_123
  have o_124 := pw_apl (l := [(1, 6)]) o_124
  have o_125 := pw_apl (l := [(1, 6)]) o_125
  have o_126 := pw_apl (l := [(1, 6)]) o_126
  have o_127 := pw_apl (l := [(1, 6)]) o_127
  have o_128 := pw_apl (l := [(1, 6)]) o_128
  have o_129 := pw_apl (l := [(1, 6)]) o_129
  have o_130 := pw_apl (l := [(1, 6)]) o_130
  have o_131 := pw_apl (l := [(1, 6)]) o_131
  have o_132 := pw_apl (l := [(1, 6)]) o_132
  have o_133 := pw_apl (l := [(1, 6)]) o_133
  have o_134 := pw_apl (l := [(1, 6)]) o_134
  have o_135 := pw_apl (l := [(1, 6)]) o_135
  have o_136 := pw_apl (l := [(1, 6)]) o_136
  have o_137 := pw_apl (l := [(1, 6)]) o_137
  have o_138 := pw_apl (l := [(1, 6)]) o_138
  have o_139 := pw_apl (l := [(1, 6)]) o_139
  have o_140 := pw_apl (l := [(1, 6)]) o_140
  have o_141 := pw_apl (l := [(1, 6)]) o_141
  have o_142 := pw_apl (l := [(1, 6)]) o_142
  have o_143 := pw_apl (l := [(1, 6)]) o_143
  have o_144 := pw_apl (l := [(1, 6)]) o_144
  have o_145 := pw_apl (l := [(1, 6)]) o_145
  have o_146 := pw_apl (l := [(1, 6)]) o_146
  have o_147 := pw_apl (l := [(1, 6)]) o_147
  have o_148 := pw_apl (l := [(1, 6)]) o_148
  have o_149 := pw_apl (l := [(1, 6)]) o_149
  have o_150 := pw_apl (l := [(1, 6)]) o_150
  have o_151 := pw_apl (l := [(1, 6)]) o_151
  have o_152 := pw_apl (l := [(1, 6)]) o_152
  have o_153 := pw_apl (l := [(1, 6)]) o_153
  have o_154 := pw_apl (l := [(1, 6)]) o_154
  have o_155 := pw_apl (l := [(1, 6)]) o_155
  have o_156 := pw_apl (l := [(1, 6)]) o_156
  have o_157 := pw_apl (l := [(1, 6)]) o_157
  have o_158 := pw_apl (l := [(1, 6)]) o_158
  have o_159 := pw_apl (l := [(1, 6)]) o_159
  have o_160 := pw_apl (l := [(1, 6)]) o_160
  have o_161 := pw_apl (l := [(1, 6)]) o_161
  have o_162 := pw_apl (l := [(1, 6)]) o_162
  have o_163 := pw_apl (l := [(1, 6)]) o_163
  have o_164 := pw_apl (l := [(1, 6)]) o_164
  have o_165 := pw_apl (l := [(1, 6)]) o_165
  have o_166 := pw_apl (l := [(1, 6)]) o_166
  have o_167 := pw_apl (l := [(1, 6)]) o_167
  have o_168 := pw_apl (l := [(1, 6)]) o_168
  have o_169 := pw_apl (l := [(1, 6)]) o_169
  have o_170 := pw_apl (l := [(1, 6)]) o_170
  have o_171 := pw_apl (l := [(1, 6)]) o_171
  have o_172 := on_
  have hl := pw_len1 (x := (1, 6)) hl
  refine PW.putFR g fi_md_165 rfl (fun C_ T_ N_ ty_ h_ => by cases Option.some.inj (ck_md.1.symm.trans h_.1); exact (pw_gw 1200 (by decide +kernel) (by decide +kernel))) (fun C_ T_ N_ ty_ h_ => by cases Option.some.inj (ck_md.1.symm.trans h_.1); rfl) hp rfl rfl d_md_init_445 ?_
  refine PW.aload_n g rfl rfl d_md_init_448 ?_
  refine PW.bipush g (120) (by decide) d_md_init_449 ?_
  refine PW.newaI (nc := 1) (ns := 130) g 120 173 hl (by decide) (by decide) (by decide) d_md_init_451 ?_
  have on_ := pw_apn (x := (1, 120)) hl
  have hp := pw_apl (l := [(1, 120)]) hp
  have o_122 := pw_apl (l := [(1, 120)]) o_122
  have o_123 := pw_apl (l := [(1, 120)]) o_123
  have o_124 := pw_apl (l := [(1, 120)]) o_124
  have o_125 := pw_apl (l := [(1, 120)]) o_125
  have o_126 := pw_apl (l := [(1, 120)]) o_126
  have o_127 := pw_apl (l := [(1, 120)]) o_127
  have o_128 := pw_apl (l := [(1, 120)]) o_128
  have o_129 := pw_apl (l := [(1, 120)]) o_129
  have o_130 := pw_apl (l := [(1, 120)]) o_130
  have o_131 := pw_apl (l := [(1, 120)]) o_131
  have o_132 := pw_apl (l := [(1, 120)]) o_132
  have o_133 := pw_apl (l := [(1, 120)]) o_133
  have o_134 := pw_apl (l := [(1, 120)]) o_134
  have o_135 := pw_apl (l := [(1, 120)]) o_135
  have o_136 := pw_apl (l := [(1, 120)]) o_136
  have o_137 := pw_apl (l := [(1, 120)]) o_137
  have o_138 := pw_apl (l := [(1, 120)]) o_138
  have o_139 := pw_apl (l := [(1, 120)]) o_139
  have o_140 := pw_apl (l := [(1, 120)]) o_140
  have o_141 := pw_apl (l := [(1, 120)]) o_141
  have o_142 := pw_apl (l := [(1, 120)]) o_142
  have o_143 := pw_apl (l := [(1, 120)]) o_143
  have o_144 := pw_apl (l := [(1, 120)]) o_144
  have o_145 := pw_apl (l := [(1, 120)]) o_145
  have o_146 := pw_apl (l := [(1, 120)]) o_146
  have o_147 := pw_apl (l := [(1, 120)]) o_147
  have o_148 := pw_apl (l := [(1, 120)]) o_148
  have o_149 := pw_apl (l := [(1, 120)]) o_149
  have o_150 := pw_apl (l := [(1, 120)]) o_150
  have o_151 := pw_apl (l := [(1, 120)]) o_151
  have o_152 := pw_apl (l := [(1, 120)]) o_152
  have o_153 := pw_apl (l := [(1, 120)]) o_153
  have o_154 := pw_apl (l := [(1, 120)]) o_154
  have o_155 := pw_apl (l := [(1, 120)]) o_155
  have o_156 := pw_apl (l := [(1, 120)]) o_156
  have o_157 := pw_apl (l := [(1, 120)]) o_157
  have o_158 := pw_apl (l := [(1, 120)]) o_158
  have o_159 := pw_apl (l := [(1, 120)]) o_159
  have o_160 := pw_apl (l := [(1, 120)]) o_160
  have o_161 := pw_apl (l := [(1, 120)]) o_161
  have o_162 := pw_apl (l := [(1, 120)]) o_162
  have o_163 := pw_apl (l := [(1, 120)]) o_163
  have o_164 := pw_apl (l := [(1, 120)]) o_164
  have o_165 := pw_apl (l := [(1, 120)]) o_165
  have o_166 := pw_apl (l := [(1, 120)]) o_166
  have o_167 := pw_apl (l := [(1, 120)]) o_167
  have o_168 := pw_apl (l := [(1, 120)]) o_168
  have o_169 := pw_apl (l := [(1, 120)]) o_169
  have o_170 := pw_apl (l := [(1, 120)]) o_170
  have o_171 := pw_apl (l := [(1, 120)]) o_171
  have o_172 := pw_apl (l := [(1, 120)]) o_172
  have o_173 := on_
  have hl := pw_len1 (x := (1, 120)) hl
  refine PW.putFR g fi_md_168 rfl (fun C_ T_ N_ ty_ h_ => by cases Option.some.inj (ck_md.1.symm.trans h_.1); exact (pw_gw 1201 (by decide +kernel) (by decide +kernel))) (fun C_ T_ N_ ty_ h_ => by cases Option.some.inj (ck_md.1.symm.trans h_.1); rfl) hp rfl rfl d_md_init_453 ?_
  refine PW.aload_n g rfl rfl d_md_init_456 ?_
  refine PW.sipush g (130) (by decide) d_md_init_457 ?_
  refine PW.newaI (nc := 0) (ns := 0) g 130 174 hl (by decide) (by decide) (by decide) d_md_init_460 ?_
  have on_ := pw_apn (x := (1, 130)) hl
  have hp := pw_apl (l := [(1, 130)]) hp
  have o_122 := pw_apl (l := [(1, 130)]) o_122
  have o_123 := pw_apl (l := [(1, 130)]) o_123
  have o_124 := pw_apl (l := [(1, 130)]) o_124
  have o_125 := pw_apl (l := [(1, 130)]) o_125
  have o_126 := pw_apl (l := [(1, 130)]) o_126
  have o_127 := pw_apl (l := [(1, 130)]) o_127
  have o_128 := pw_apl (l := [(1, 130)]) o_128
  have o_129 := pw_apl (l := [(1, 130)]) o_129
  have o_130 := pw_apl (l := [(1, 130)]) o_130
  have o_131 := pw_apl (l := [(1, 130)]) o_131
  have o_132 := pw_apl (l := [(1, 130)]) o_132
  have o_133 := pw_apl (l := [(1, 130)]) o_133
  have o_134 := pw_apl (l := [(1, 130)]) o_134
  have o_135 := pw_apl (l := [(1, 130)]) o_135
  have o_136 := pw_apl (l := [(1, 130)]) o_136
  have o_137 := pw_apl (l := [(1, 130)]) o_137
  have o_138 := pw_apl (l := [(1, 130)]) o_138
  have o_139 := pw_apl (l := [(1, 130)]) o_139
  have o_140 := pw_apl (l := [(1, 130)]) o_140
  have o_141 := pw_apl (l := [(1, 130)]) o_141
  have o_142 := pw_apl (l := [(1, 130)]) o_142
  have o_143 := pw_apl (l := [(1, 130)]) o_143
  have o_144 := pw_apl (l := [(1, 130)]) o_144
  have o_145 := pw_apl (l := [(1, 130)]) o_145
  have o_146 := pw_apl (l := [(1, 130)]) o_146
  have o_147 := pw_apl (l := [(1, 130)]) o_147
  have o_148 := pw_apl (l := [(1, 130)]) o_148
  have o_149 := pw_apl (l := [(1, 130)]) o_149
  have o_150 := pw_apl (l := [(1, 130)]) o_150
  have o_151 := pw_apl (l := [(1, 130)]) o_151
  have o_152 := pw_apl (l := [(1, 130)]) o_152
  have o_153 := pw_apl (l := [(1, 130)]) o_153
  have o_154 := pw_apl (l := [(1, 130)]) o_154
  have o_155 := pw_apl (l := [(1, 130)]) o_155
  have o_156 := pw_apl (l := [(1, 130)]) o_156
  have o_157 := pw_apl (l := [(1, 130)]) o_157
  have o_158 := pw_apl (l := [(1, 130)]) o_158
  have o_159 := pw_apl (l := [(1, 130)]) o_159
  have o_160 := pw_apl (l := [(1, 130)]) o_160
  have o_161 := pw_apl (l := [(1, 130)]) o_161
  have o_162 := pw_apl (l := [(1, 130)]) o_162
  have o_163 := pw_apl (l := [(1, 130)]) o_163
  have o_164 := pw_apl (l := [(1, 130)]) o_164
  have o_165 := pw_apl (l := [(1, 130)]) o_165
  have o_166 := pw_apl (l := [(1, 130)]) o_166
  have o_167 := pw_apl (l := [(1, 130)]) o_167
  have o_168 := pw_apl (l := [(1, 130)]) o_168
  have o_169 := pw_apl (l := [(1, 130)]) o_169
  have o_170 := pw_apl (l := [(1, 130)]) o_170
  have o_171 := pw_apl (l := [(1, 130)]) o_171
  have o_172 := pw_apl (l := [(1, 130)]) o_172
  have o_173 := pw_apl (l := [(1, 130)]) o_173
  have o_174 := on_
  have hl := pw_len1 (x := (1, 130)) hl
  refine PW.putFR g fi_md_171 rfl (fun C_ T_ N_ ty_ h_ => by cases Option.some.inj (ck_md.1.symm.trans h_.1); exact (pw_gw 1202 (by decide +kernel) (by decide +kernel))) (fun C_ T_ N_ ty_ h_ => by cases Option.some.inj (ck_md.1.symm.trans h_.1); rfl) hp rfl rfl d_md_init_462 ?_
  exact PW.vret g hF rfl d_md_init_465 ⟨rfl, rfl, rfl, by simp [ks_md, ks_ck, ks_cd, ks_dr, ks_st, ks_rl, ks_tk, ks_oc, ks_ft, ks_ev, ks_ps, ks_rn]⟩
