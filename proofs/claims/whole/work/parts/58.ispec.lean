/-! THE GRAMMAR OF FEATURES -/
abbrev xi_R : Type := Nat × Option Nat × Nat × Nat × Nat × List Int32
abbrev xi_I : Type := Nat × Nat × Nat × Nat × Option Nat × xp_X × xi_R
def xi_k (it : xi_I) : Nat := it.1
def xi_pt (it : xi_I) : Nat := it.2.1
def xi_fi (it : xi_I) : Nat := it.2.2.1
def xi_la (it : xi_I) : Nat := it.2.2.2.1
def xi_tg (it : xi_I) : Option Nat := it.2.2.2.2.1
def xi_x (it : xi_I) : xp_X := it.2.2.2.2.2.1
def xi_ru (it : xi_I) : xi_R := it.2.2.2.2.2.2
def xi_le (r : xi_R) : Nat := r.1
def xi_mo (r : xi_R) : Option Nat := r.2.1
def xi_wh (r : xi_R) : Nat := r.2.2.1
def xi_ft (r : xi_R) : Nat := r.2.2.2.1
def xi_fg (r : xi_R) : Nat := r.2.2.2.2.1
def xi_an (r : xi_R) : List Int32 := r.2.2.2.2.2
def xi_x0 : xp_X := ([], [], fun _ _ _ s => (s, [], .inr 0), [], [])
def xi_r0 : xi_R := (0, some 0, 0, 0, 0, [])
def xi_C (its : List xi_I) : List xp_I := its.flatMap (fun it => (xi_x it).1)
def xi_G (its : List xi_I) : List xp_I := its.flatMap (fun it => (xi_x it).2.1)
def xi_AN (its : List xi_I) : List Int32 := its.flatMap (fun it => xi_an (xi_ru it))
def xi_nr (its : List xi_I) : Nat := (its.filter (fun it => xi_k it == 7)).length
section
variable (kd nm pl en : Nat → Nat)
def xi_isR (p : Nat) : Bool := decide (kd p = 258) && (if kd (p + 1) = 45 then decide (kd (p + 2) = 95) || (decide (kd (p + 2) = 258) && decide (kd (p + 3) = 42) && (decide (kd (p + 4) = 77) || decide (kd (p + 4) = 78))) else decide (kd (p + 1) = 42) && (decide (kd (p + 2) = 77) || decide (kd (p + 2) = 78)))
def xi_ans : Nat → Nat → List Int32 → Nat ⊕ (Nat × List Int32)
  | 0, p, a => .inr (p, a)
  | m + 1, p, a =>
    if kd (if kd p = 45 then p + 1 else p) ≠ 258 then .inl (if kd p = 45 then p + 1 else p)
    else if kd ((if kd p = 45 then p + 1 else p) + 1) = 44 then xi_ans m ((if kd p = 45 then p + 1 else p) + 2) (a ++ [(if kd p = 45 then -1 else 1) * nI (nm (if kd p = 45 then p + 1 else p))])
    else .inr ((if kd p = 45 then p + 1 else p) + 1, a ++ [(if kd p = 45 then -1 else 1) * nI (nm (if kd p = 45 then p + 1 else p))])
/-- behind the argument: a parenthesis, and perhaps answers -/
def xi_rul3 (le : Nat) (mo : Option Nat) (wh ft fg p : Nat) : Nat ⊕ (Nat × xi_R) :=
  if kd p ≠ 41 then .inl p
  else if kd (p + 1) = 266 then (match xi_ans kd nm 121 (p + 2) [] with
    | .inl f => .inl f
    | .inr (q, a) => .inr (q, (le, mo, wh, ft, fg, a)))
  else .inr (p + 1, (le, mo, wh, ft, fg, []))
def xi_rul2 (le : Nat) (mo : Option Nat) (p : Nat) : Nat ⊕ (Nat × xi_R) :=
  if kd p ≠ 42 then .inl p
  else if kd (p + 1) ≠ 77 ∧ kd (p + 1) ≠ 78 then .inl (p + 1)
  else if kd (p + 2) ≠ 40 then .inl (p + 2)
  else if kd (p + 3) = 95 then xi_rul3 kd nm le mo (if kd (p + 1) = 78 then 1 else 0) 0 0 (p + 4)
  else if kd (p + 3) = 33 then (if kd (p + 4) ≠ 258 then .inl (p + 4) else xi_rul3 kd nm le mo (if kd (p + 1) = 78 then 1 else 0) 2 (nm (p + 4)) (p + 5))
  else if kd (p + 3) ≠ 258 then .inl (p + 3) else xi_rul3 kd nm le mo (if kd (p + 1) = 78 then 1 else 0) 1 (nm (p + 3)) (p + 4)
def xi_rul (p : Nat) : Nat ⊕ (Nat × xi_R) :=
  if kd (p + 1) = 45 then xi_rul2 kd nm (nm p) (if kd (p + 2) = 258 then some (nm (p + 2)) else none) (p + 3)
  else xi_rul2 kd nm (nm p) (some (nm p)) (p + 1)
def xi_ex (k part p0 : Nat) (tg : Option Nat) (z : Nat ⊕ (Nat × xp_X)) : Nat ⊕ (Nat × xi_I) := match z with
  | .inl f => .inl f
  | .inr (q, x) => .inr (q, (k, part, pl p0, en (q - 1), tg, x, xi_r0))
def xi_st (part k p : Nat) : Nat ⊕ (Nat × xi_I) :=
  if k = 4 ∧ kd p = 88 then .inr (p + 1, (5, part, pl p, en p, none, xi_x0, xi_r0))
  else if k = 4 ∧ kd p = 33 ∧ kd (p + 1) = 88 then .inr (p + 2, (6, part, pl p, en (p + 1), none, xi_x0, xi_r0))
  else if k = 4 ∧ xi_isR kd p = true then (match xi_rul kd nm p with
    | .inl f => .inl f
    | .inr (q, ru) => .inr (q, (7, part, pl p, en (q - 1), none, xi_x0, ru)))
  else if k ≤ 2 ∧ kd p = 259 ∧ kd (p + 1) = 61 then xi_ex pl en k part p (some (nm p)) (xp_P kd nm pl 64 0 0 0 false (p + 2))
  else xi_ex pl en k part p none (xp_P kd nm pl 64 0 0 0 (decide (k = 4)) p)
def xi_sts (part k : Nat) : Nat → Nat → List xi_I → Nat ⊕ (Nat × List xi_I)
  | 0, p, a => .inr (p, a)
  | m + 1, p, a => match xi_st kd nm pl en part k p with
    | .inl f => .inl f
    | .inr (q, it) => if kd q = 59 then xi_sts part k m (q + 1) (a ++ [it]) else .inr (q, a ++ [it])
def xi_blk (part k p : Nat) (a : List xi_I) : Nat ⊕ (Nat × List xi_I) := if kd p ≠ 58 then .inl p else xi_sts kd nm pl en part k 121 (p + 1) a
def xi_prt (part p : Nat) (a : List xi_I) : Nat ⊕ (Nat × List xi_I) :=
  if kd p = 69 then xi_blk kd nm pl en part 3 (p + 1) a
  else if kd p ≠ 87 then .inl p
  else match xi_blk kd nm pl en part 1 (p + 1) a with
    | .inl f => .inl f
    | .inr (q, a') => if kd q ≠ 84 then .inl q else xi_blk kd nm pl en part 4 (q + 1) a'
/-- parts: st holds where each begins -/
def xi_prs : Nat → Nat → List xi_I → List Nat → Nat ⊕ (Nat × List xi_I × List Nat)
  | 0, p, a, st => .inr (p, a, st)
  | m + 1, p, a, st => match xi_prt kd nm pl en st.length p a with
    | .inl f => .inl f
    | .inr (q, a') => if kd q = 69 ∨ kd q = 87 then xi_prs m q a' (st ++ [a.length]) else .inr (q, a', st ++ [a.length])
def xi_hd : Nat → Nat → List (Nat × Nat) → Nat ⊕ (Nat × List (Nat × Nat))
  | 0, p, h => .inr (p, h)
  | m + 1, p, h => if kd p ≠ 259 then .inl p
    else if kd (p + 1) = 124 ∨ kd (p + 1) = 265 then xi_hd m (p + 2) (h ++ [(nm p, pl p)])
    else .inr (p + 1, h ++ [(nm p, pl p)])
def xi_cel (row : Nat) : Nat → Nat → Nat → List xi_I → Nat ⊕ (Nat × List xi_I)
  | 0, _, p, a => .inr (p, a)
  | m + 1, c, p, a => match xp_P kd nm pl 64 0 3 0 false p with
    | .inl f => .inl f
    | .inr (q, x) => if kd q = 124 ∨ kd q = 265 then xi_cel row m (c + 1) (q + 1) (a ++ [(8, row, pl p, en (q - 1), some c, x, xi_r0)])
      else .inr (q, a ++ [(8, row, pl p, en (q - 1), some c, x, xi_r0)])
/-- rows: rs holds where each begins -/
def xi_rws : Nat → Nat → List xi_I → List Nat → Nat ⊕ (Nat × List xi_I × List Nat)
  | 0, p, a, rs => .inr (p, a, rs)
  | m + 1, p, a, rs => match xi_cel kd nm pl en rs.length 121 0 p a with
    | .inl f => .inl f
    | .inr (q, a') => if kd q = 59 then xi_rws m (q + 1) a' (rs ++ [a.length]) else .inr (q, a', rs ++ [a.length])
/-- a table: (where, items, header, rows) -/
def xi_tab (p : Nat) (a : List xi_I) : Nat ⊕ (Nat × List xi_I × List (Nat × Nat) × List Nat) :=
  if kd p ≠ 58 then .inl p
  else match xi_hd kd nm pl 121 (p + 1) [] with
    | .inl f => .inl f
    | .inr (q, h) => if kd q ≠ 59 then .inl q
      else match xi_rws kd nm pl en 121 (q + 1) a [] with
        | .inl f => .inl f
        | .inr (q', a', rs) => .inr (q', a', h, rs)
/-- a feature: (items, starts of parts, where the last part ends, header, rows) -/
def xi_fea3 (p : Nat) (a : List xi_I) (st : List Nat) (pe : Nat) : Nat ⊕ (List xi_I × List Nat × Nat × List (Nat × Nat) × List Nat) :=
  if kd p = 68 then (match xi_tab kd nm pl en (p + 1) a with
    | .inl f => .inl f
    | .inr (q, a', h, rs) => if kd q = 256 then .inr (a', st, pe, h, rs) else .inl q)
  else if kd p = 256 then .inr (a, st, pe, [], []) else .inl p
def xi_fea2 (p : Nat) (a : List xi_I) : Nat ⊕ (List xi_I × List Nat × Nat × List (Nat × Nat) × List Nat) :=
  match xi_prs kd nm pl en 121 p a [] with
    | .inl f => .inl f
    | .inr (q, a', st) => if kd q = 67 then (match xi_blk kd nm pl en st.length 2 (q + 1) a' with
        | .inl f => .inl f
        | .inr (q2, a2) => xi_fea3 kd nm pl en q2 a2 st a'.length)
      else xi_fea3 kd nm pl en q a' st a'.length
def xi_fea : Nat ⊕ (List xi_I × List Nat × Nat × List (Nat × Nat) × List Nat) :=
  if kd 0 = 71 then (match xi_blk kd nm pl en 0 0 1 [] with
    | .inl f => .inl f
    | .inr (q, a) => xi_fea2 kd nm pl en q a)
  else xi_fea2 kd nm pl en 0 []
end
