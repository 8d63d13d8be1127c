theorem law_pure (E : hmG) {x0 L : Nat} {xs : Nat → Int32} {σ : hmS} (hL : L ≤ 3072) (h : st_ok E x0 L xs σ) : ∃ σ', fL_law E x0 σ = some ((1 : Int32), σ') := sorry
