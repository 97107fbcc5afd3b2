/-! AN ITERATION, ABSTRACTLY -/
def xg_O0 : Nat → Int32 := fun _ => 0
def xg_bump (s : xp_S) (i : Nat) : xp_S := fun j => if j = i then s j + 1 else s j
def xg_meets (ru : xi_R) (m : Nat) (v : Int32) : Bool := decide (xi_wh ru = m) && (decide (xi_ft ru = 0) || (decide (xi_ft ru = 1) == decide (v = nI (xi_fg ru))))
def xg_free (ru : xi_R) (h : Int32) : Bool := match xi_mo ru with
  | none => true
  | some k => decide (h < nI k)
def xg_ans (ru : xi_R) (h : Nat) : Int32 := (xi_an ru)[if h < (xi_an ru).length then h else (xi_an ru).length - 1]?.getD 0
def xg_go (m : Nat) (v : Int32) : List (Nat × xi_I) → Bool → xp_S → xp_S × Option Int32
  | [], sm, s => (s, if sm then none else some 0)
  | (r, it) :: l, sm, s => if xg_meets (xi_ru it) m v then (if xg_free (xi_ru it) (s (2 + r)) then (xg_bump s (2 + r), some (xg_ans (xi_ru it) (s (2 + r)).toNatClampNeg)) else xg_go m v l true s) else xg_go m v l sm s
def xg_A (rl : List (Nat × xi_I)) : xp_A := fun s m v => xg_go m v rl false (xg_bump s m)
/-- the rules among m items from a on, with their numbers -/
def xg_rng (its : List xi_I) : Nat → Nat → List (Nat × xi_I)
  | _, 0 => []
  | a, m + 1 => (match its[a]? with
    | some it => if xi_k it = 7 then [(xi_nr (its.take a), it)] else []
    | none => []) ++ xg_rng its (a + 1) m
def xg_up (V : Nat → Int32) (tg : Option Nat) (v : Int32) : Nat → Int32 := match tg with
  | some t => xv_u V t v
  | none => V
def xg_ti (tg : Option Nat) : Int32 := match tg with
  | some t => nI t
  | none => -1
def xg_steps (A : xp_A) : List (xp_D × Option Nat) → (Nat → Int32) → xp_S → (Nat → Int32) × xp_S × Option (Nat × Nat)
  | [], V, s => (V, s, none)
  | e :: l, V, s => match e.1 A V xg_O0 s with
    | (s', _, .inr v) => xg_steps A l (xg_up V e.2 v) s'
    | (s', _, .inl f) => (V, s', some f)
def xg_rem (V : Nat → Int32) : List (Nat × xp_D) → (Nat → Int32) → xp_S → (Nat → Int32) × xp_S × Option (Nat × Nat)
  | [], O, s => (O, s, none)
  | e :: l, O, s => match e.2 (xg_A []) V xg_O0 s with
    | (s', _, .inr v) => xg_rem V l (xv_u O e.1 v) s'
    | (s', _, .inl f) => (O, s', some f)
abbrev xg_H : Type := Option ((Nat × Nat) × Option (Nat × Nat × List (Nat × Int32)))
def xg_hold (V O : Nat → Int32) (s : xp_S) (it : xi_I) : xp_S × xg_H := match (xi_x it).2.2.1 (xg_A []) V O s with
  | (s', D, .inr v) => if v = 0 then (s', some ((1, xi_fi it), some (xi_fi it, xi_la it, D))) else (s', none)
  | (s', _, .inl e) => (s', some (e, none))
def xg_claims (V O : Nat → Int32) (calm : Bool) : List xi_I → xp_S → xp_S × xg_H
  | [], s => (s, none)
  | it :: l, s => if xi_k it = 4 ∨ xi_k it = 3 then (match xg_hold V O s it with
      | (s', none) => xg_claims V O calm l s'
      | (s', some f) => (s', some f))
    else if xi_k it = (if calm then 5 else 6) then (s, some ((1, xi_fi it), none)) else xg_claims V O calm l s
def xg_met (s : xp_S) : List (Nat × xi_I) → xg_H
  | [] => none
  | e :: l => if s (2 + e.1) < nI (xi_le (xi_ru e.2)) then some ((2, xi_fi e.2), none) else xg_met s l
def xg_rs (s : xp_S) : xp_S := fun j => if 2 ≤ j then 0 else s j
def xg_ds (l : List xi_I) : List (xp_D × Option Nat) := l.map (fun it => ((xi_x it).2.2.1, xi_tg it))
def xg_fin (V2 : Nat → Int32) (rl : List (Nat × xi_I)) (c : xp_S × xg_H) : (Nat → Int32) × xp_S × xg_H := match c with
  | (s3, some f) => (V2, s3, some f)
  | (s3, none) => (V2, s3, xg_met s3 rl)
def xg_wt (seg : List xi_I) (rl : List (Nat × xi_I)) (V : Nat → Int32) (s : xp_S) : (Nat → Int32) × xp_S × xg_H :=
  match xg_rem V (seg.flatMap (fun it => (xi_x it).2.2.2.2)) xg_O0 s with
  | (_, s1, some e) => (V, s1, some (e, none))
  | (O, s1, none) => match xg_steps (xg_A rl) (xg_ds (seg.filter (fun it => xi_k it == 1))) V (xg_rs s1) with
    | (V2, s2, none) => xg_fin V2 rl (xg_claims V2 O true seg s2)
    | (V2, s2, some e) => if e.1 = 3 ∧ seg.any (fun it => xi_k it == 5) = true then xg_fin V2 rl (xg_claims V2 O false seg s2) else (V2, s2, some (e, none))
def xg_part (seg : List xi_I) (rl : List (Nat × xi_I)) (V : Nat → Int32) (s : xp_S) : (Nat → Int32) × xp_S × xg_H :=
  if (seg.head?.map xi_k) = some 1 then xg_wt seg rl V s else (V, xg_claims V xg_O0 true seg s)
def xg_parts : List (List xi_I × List (Nat × xi_I)) → (Nat → Int32) → xp_S → (Nat → Int32) × xp_S × xg_H
  | [], V, s => (V, s, none)
  | e :: l, V, s => match xg_part e.1 e.2 V s with
    | (V', s', none) => xg_parts l V' s'
    | (V', s', some f) => (V', s', some f)
def xg_seg (its : List xi_I) (a b : Nat) : List xi_I := (its.drop a).take (b - a)
/-- where part p ends -/
def xg_pe (F : xi_F) (p : Nat) : Nat := F.2.1[p]?.getD F.2.2.1
def xg_pl (F : xi_F) : Nat → Nat → List (List xi_I × List (Nat × xi_I))
  | _, 0 => []
  | p, m + 1 => (xg_seg F.1 (xg_pe F p) (xg_pe F (p + 1)), xg_rng F.1 (xg_pe F p) (xg_pe F (p + 1) - xg_pe F p)) :: xg_pl F (p + 1) m
def xg_cells (F : xi_F) (row : Nat) : List (xp_D × Option Nat) := match F.2.2.2.2[row]? with
  | some a => ((F.1.drop a).zip F.2.2.2.1).map (fun e => ((xi_x e.1).2.2.1, some e.2.1))
  | none => []
def xg_mid (F : xi_F) (V1 : Nat → Int32) (s1 : xp_S) : (Nat → Int32) × xp_S × xg_H := match xg_steps (xg_A []) (xg_ds ((xg_seg F.1 0 (xg_pe F 0)).filter (fun it => xi_k it == 0))) V1 s1 with
  | (V2, s2, some e) => (V2, s2, some (e, none))
  | (V2, s2, none) => xg_parts (xg_pl F 0 F.2.1.length) V2 s2
abbrev xg_R : Type := (Nat → Int32) × xp_S × Option (Nat × Nat) × Bool × Option (Nat × Nat × List (Nat × Int32))
def xg_iter (F : xi_F) (row : Nat) : xg_R := match xg_steps (xg_A []) (xg_cells F row) xg_O0 xg_O0 with
  | (V1, s1, some e) => (V1, s1, some e, false, none)
  | (V1, s1, none) => match xg_mid F V1 s1 with
    | (V3, s3, h) => match xg_steps (xg_A []) (xg_ds ((xg_seg F.1 F.2.2.1 F.1.length).filter (fun it => xi_k it == 2))) V3 s3 with
      | (V4, s4, e4) => (V4, s4, (match h with
        | some f => some f.1
        | none => e4), h.isSome && e4.isSome, h.bind (fun f => f.2))
