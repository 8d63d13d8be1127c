/-! The law answers 1. -/
theorem law_pure (E : hmG) {x0 L : Nat} {xs : Nat → Int32} {σ : hmS} (hL : L ≤ 3072) (h : st_ok E x0 L xs σ) : ∃ σ', fL_law E x0 σ = some ((1 : Int32), σ') := by
  obtain ⟨σ1, e, hrc, hrep, hs⟩ := RC.start hL h
  have hx0 : x0 < hmL E := h.2.2.2.2.2.1
  have hma : hmL E ≤ σ.2 + 5 := by have := h.1; omega
  obtain ⟨σ', e'⟩ := law_loop (xa := σ.2) (ma := σ.2 + 5) (xs := xs) hx0 hma hL 514 0 σ1 ⟨a00, X00, w00 σ.2, hrc, hrep, hs, iv_00, Nat.le_refl _⟩ (by omega) (Nat.zero_le _)
  refine ⟨σ', ?_⟩
  unfold fL_law
  rw [e (fun q1 q7 s => fL_law_L18 E x0 514 q1 q7 (0 : Int32) s)]
  exact e'
