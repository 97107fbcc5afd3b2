/-- THE PURE STATEMENT: the law's loop, over the cells as the two constructors leave them, ends and never answers false -/
theorem pure_law : ∀ (Ls : Nat) (xs : Nat → Int32), Ls ≤ 2048 → ∃ n, l_lw_law_18 Ls xs (fun _ _ => True) (fun _ _ _ => True) n (0 : Int32) st_I st_R := fun Ls xs h => ⟨Ls + 1, yl_law h Ls 0 st_I st_R (by omega) (by omega) yl_start⟩
