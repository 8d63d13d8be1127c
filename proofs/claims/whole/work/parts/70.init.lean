/-! A new object, on both sides. -/
theorem nA_J {σ : hmS} {k : Nat} (x : hmX) (n : Nat) (hn : n < 100000) : nA σ k x n (nI n) = some (σ.2, hmN σ (.inl (k, n, x))) := by
  unfold nA
  rw [if_pos ⟨n_nn hn, by rw [nI_clamp (by omega)]; omega⟩, nI_clamp (by omega)]
theorem di_class (E : hmG) (σ : hmS) : ∃ σ', fX7_init E σ.2 (hmN σ (.inr (9, [.null, .int 0, .null, .int 0, .null, .int 0, .null, .int 0]))) = some ((), σ') ∧ Ext σ σ' ∧ σ'.2 = σ.2 + 5 ∧ σ'.1 σ.2 = some (.inr (9, [.ref (σ.2 + 1), .int 0, .ref (σ.2 + 2), .int 0, .ref (σ.2 + 3), .int 0, .ref (σ.2 + 4), .int 0])) ∧ σ'.1 (σ.2 + 1) = some (.inl (4, 12, .inr (.inr (.inr (.inr (fun _ => none)))))) ∧ σ'.1 (σ.2 + 2) = some (.inl (5, 8, .inr (.inr (.inr (.inr (fun _ => none)))))) ∧ σ'.1 (σ.2 + 3) = some (.inl (6, 6, .inr (.inr (.inr (.inr (fun _ => none)))))) ∧ σ'.1 (σ.2 + 4) = some (.inr (2, [.ref (hmZ E 0), .int 0, .int 0])) := by
  obtain ⟨σ0, hs0⟩ : ∃ σ0, σ0 = hmN σ (.inr (9, [.null, .int 0, .null, .int 0, .null, .int 0, .null, .int 0])) := ⟨_, rfl⟩
  have l0 : σ0.2 = σ.2 + 1 := by rw [hs0]; rfl
  have x0 : Ext σ σ0 := by rw [hs0]; exact Ext.new σ _
  have d0 : σ0.1 σ.2 = some (.inr (9, [.null, .int 0, .null, .int 0, .null, .int 0, .null, .int 0])) := by rw [hs0]; exact hmN_s _ _
  rw [← hs0]
  -- types
  have a1 : nA σ0 4 (.inr (.inr (.inr (.inr (fun _ => none))))) 12 (12 : Int32) = some (σ0.2, hmN σ0 (.inl (4, 12, .inr (.inr (.inr (.inr (fun _ => none))))))) := nA_J _ 12 (by decide)
  obtain ⟨σ2, hs2⟩ : ∃ σ2, σ2 = hmN σ0 (.inl (4, 12, .inr (.inr (.inr (.inr (fun _ => none)))))) := ⟨_, rfl⟩
  rw [← hs2, l0] at a1
  have l2 : σ2.2 = σ.2 + 2 := by rw [hs2]; show σ0.2 + 1 = _; omega
  have x2 : Ext σ0 σ2 := by rw [hs2]; exact Ext.new σ0 _
  have n2 : σ2.1 (σ.2 + 1) = some (.inl (4, 12, .inr (.inr (.inr (.inr (fun _ => none)))))) := by rw [hs2, ← l0]; exact hmN_s _ _
  have d2 : σ2.1 σ.2 = some (.inr (9, [.null, .int 0, .null, .int 0, .null, .int 0, .null, .int 0])) := by rw [x2.2 _ (by omega)]; exact d0
  have w4 : wF σ2 σ.2 9 0 (.ref (σ.2 + 1)) = some (hmU σ2 σ.2 (.inr (9, [.ref (σ.2 + 1), .int 0, .null, .int 0, .null, .int 0, .null, .int 0]))) := wF_of d2 (by simp) _
  obtain ⟨σ6, hs6⟩ : ∃ σ6, σ6 = hmU σ2 σ.2 (.inr (9, [.ref (σ.2 + 1), .int 0, .null, .int 0, .null, .int 0, .null, .int 0])) := ⟨_, rfl⟩
  have w6 : wF (hmU σ2 σ.2 (.inr (9, [.ref (σ.2 + 1), .int 0, .null, .int 0, .null, .int 0, .null, .int 0]))) σ.2 9 1 (.int (0 : Int32)) = some σ6 := by rw [wU _ _ _ _ _ _ (by simp), hs6]; rfl
  have l6 : σ6.2 = σ.2 + 2 := by rw [hs6]; exact l2
  have d6 : σ6.1 σ.2 = some (.inr (9, [.ref (σ.2 + 1), .int 0, .null, .int 0, .null, .int 0, .null, .int 0])) := by rw [hs6]; exact hmU_s _ _ _
  have k6 : ∀ p, p ≠ σ.2 → σ6.1 p = σ2.1 p := fun p hp => by rw [hs6, hmU_n _ _ hp]
  -- places
  have a9 : nA σ6 5 (.inr (.inr (.inr (.inr (fun _ => none))))) 8 (8 : Int32) = some (σ6.2, hmN σ6 (.inl (5, 8, .inr (.inr (.inr (.inr (fun _ => none))))))) := nA_J _ 8 (by decide)
  obtain ⟨σ9, hs9⟩ : ∃ σ9, σ9 = hmN σ6 (.inl (5, 8, .inr (.inr (.inr (.inr (fun _ => none)))))) := ⟨_, rfl⟩
  rw [← hs9, l6] at a9
  have l9 : σ9.2 = σ.2 + 3 := by rw [hs9]; show σ6.2 + 1 = _; omega
  have x9 : Ext σ6 σ9 := by rw [hs9]; exact Ext.new σ6 _
  have n9 : σ9.1 (σ.2 + 2) = some (.inl (5, 8, .inr (.inr (.inr (.inr (fun _ => none)))))) := by rw [hs9, ← l6]; exact hmN_s _ _
  have d9 : σ9.1 σ.2 = some (.inr (9, [.ref (σ.2 + 1), .int 0, .null, .int 0, .null, .int 0, .null, .int 0])) := by rw [x9.2 _ (by omega)]; exact d6
  have w11 : wF σ9 σ.2 9 2 (.ref (σ.2 + 2)) = some (hmU σ9 σ.2 (.inr (9, [.ref (σ.2 + 1), .int 0, .ref (σ.2 + 2), .int 0, .null, .int 0, .null, .int 0]))) := wF_of d9 (by simp) _
  obtain ⟨σ13, hs13⟩ : ∃ σ13, σ13 = hmU σ9 σ.2 (.inr (9, [.ref (σ.2 + 1), .int 0, .ref (σ.2 + 2), .int 0, .null, .int 0, .null, .int 0])) := ⟨_, rfl⟩
  have w13 : wF (hmU σ9 σ.2 (.inr (9, [.ref (σ.2 + 1), .int 0, .ref (σ.2 + 2), .int 0, .null, .int 0, .null, .int 0]))) σ.2 9 3 (.int (0 : Int32)) = some σ13 := by rw [wU _ _ _ _ _ _ (by simp), hs13]; rfl
  have l13 : σ13.2 = σ.2 + 3 := by rw [hs13]; exact l9
  have d13 : σ13.1 σ.2 = some (.inr (9, [.ref (σ.2 + 1), .int 0, .ref (σ.2 + 2), .int 0, .null, .int 0, .null, .int 0])) := by rw [hs13]; exact hmU_s _ _ _
  have k13 : ∀ p, p ≠ σ.2 → σ13.1 p = σ9.1 p := fun p hp => by rw [hs13, hmU_n _ _ hp]
  -- lambdas
  have a16 : nA σ13 6 (.inr (.inr (.inr (.inr (fun _ => none))))) 6 (6 : Int32) = some (σ13.2, hmN σ13 (.inl (6, 6, .inr (.inr (.inr (.inr (fun _ => none))))))) := nA_J _ 6 (by decide)
  obtain ⟨σ16, hs16⟩ : ∃ σ16, σ16 = hmN σ13 (.inl (6, 6, .inr (.inr (.inr (.inr (fun _ => none)))))) := ⟨_, rfl⟩
  rw [← hs16, l13] at a16
  have l16 : σ16.2 = σ.2 + 4 := by rw [hs16]; show σ13.2 + 1 = _; omega
  have x16 : Ext σ13 σ16 := by rw [hs16]; exact Ext.new σ13 _
  have n16 : σ16.1 (σ.2 + 3) = some (.inl (6, 6, .inr (.inr (.inr (.inr (fun _ => none)))))) := by rw [hs16, ← l13]; exact hmN_s _ _
  have d16 : σ16.1 σ.2 = some (.inr (9, [.ref (σ.2 + 1), .int 0, .ref (σ.2 + 2), .int 0, .null, .int 0, .null, .int 0])) := by rw [x16.2 _ (by omega)]; exact d13
  have w18 : wF σ16 σ.2 9 4 (.ref (σ.2 + 3)) = some (hmU σ16 σ.2 (.inr (9, [.ref (σ.2 + 1), .int 0, .ref (σ.2 + 2), .int 0, .ref (σ.2 + 3), .int 0, .null, .int 0]))) := wF_of d16 (by simp) _
  obtain ⟨σ20, hs20⟩ : ∃ σ20, σ20 = hmU σ16 σ.2 (.inr (9, [.ref (σ.2 + 1), .int 0, .ref (σ.2 + 2), .int 0, .ref (σ.2 + 3), .int 0, .null, .int 0])) := ⟨_, rfl⟩
  have w20 : wF (hmU σ16 σ.2 (.inr (9, [.ref (σ.2 + 1), .int 0, .ref (σ.2 + 2), .int 0, .ref (σ.2 + 3), .int 0, .null, .int 0]))) σ.2 9 5 (.int (0 : Int32)) = some σ20 := by rw [wU _ _ _ _ _ _ (by simp), hs20]; rfl
  have l20 : σ20.2 = σ.2 + 4 := by rw [hs20]; exact l16
  have d20 : σ20.1 σ.2 = some (.inr (9, [.ref (σ.2 + 1), .int 0, .ref (σ.2 + 2), .int 0, .ref (σ.2 + 3), .int 0, .null, .int 0])) := by rw [hs20]; exact hmU_s _ _ _
  have k20 : ∀ p, p ≠ σ.2 → σ20.1 p = σ16.1 p := fun p hp => by rw [hs20, hmU_n _ _ hp]
  -- the place of what is found
  obtain ⟨σ23, hs23⟩ : ∃ σ23, σ23 = hmN σ20 (.inr (2, [.null, .int 0, .int 0])) := ⟨_, rfl⟩
  have l23 : σ23.2 = σ.2 + 5 := by rw [hs23]; show σ20.2 + 1 = _; omega
  have x23 : Ext σ20 σ23 := by rw [hs23]; exact Ext.new σ20 _
  have n23 : σ23.1 (σ.2 + 4) = some (.inr (2, [.null, .int 0, .int 0])) := by rw [hs23, ← l20]; exact hmN_s _ _
  have w24 : wF σ23 (σ.2 + 4) 2 0 (.ref (hmZ E 0)) = some (hmU σ23 (σ.2 + 4) (.inr (2, [.ref (hmZ E 0), .int 0, .int 0]))) := wF_of n23 (by simp) _
  have w25 : wF (hmU σ23 (σ.2 + 4) (.inr (2, [.ref (hmZ E 0), .int 0, .int 0]))) (σ.2 + 4) 2 1 (.int (0 : Int32)) = some (hmU σ23 (σ.2 + 4) (.inr (2, [.ref (hmZ E 0), .int 0, .int 0]))) := by rw [wU _ _ _ _ _ _ (by simp)]; rfl
  obtain ⟨σ27, hs27⟩ : ∃ σ27, σ27 = hmU σ23 (σ.2 + 4) (.inr (2, [.ref (hmZ E 0), .int 0, .int 0])) := ⟨_, rfl⟩
  have w27 : wF (hmU σ23 (σ.2 + 4) (.inr (2, [.ref (hmZ E 0), .int 0, .int 0]))) (σ.2 + 4) 2 2 (.int (0 : Int32)) = some σ27 := by rw [wU _ _ _ _ _ _ (by simp), hs27]; rfl
  have l27 : σ27.2 = σ.2 + 5 := by rw [hs27]; exact l23
  have n27 : σ27.1 (σ.2 + 4) = some (.inr (2, [.ref (hmZ E 0), .int 0, .int 0])) := by rw [hs27]; exact hmU_s _ _ _
  have k27 : ∀ p, p ≠ σ.2 + 4 → σ27.1 p = σ23.1 p := fun p hp => by rw [hs27, hmU_n _ _ hp]
  have d27 : σ27.1 σ.2 = some (.inr (9, [.ref (σ.2 + 1), .int 0, .ref (σ.2 + 2), .int 0, .ref (σ.2 + 3), .int 0, .null, .int 0])) := by rw [k27 _ (by omega), x23.2 _ (by omega)]; exact d20
  have w28 : wF σ27 σ.2 9 6 (.ref (σ.2 + 4)) = some (hmU σ27 σ.2 (.inr (9, [.ref (σ.2 + 1), .int 0, .ref (σ.2 + 2), .int 0, .ref (σ.2 + 3), .int 0, .ref (σ.2 + 4), .int 0]))) := wF_of d27 (by simp) _
  obtain ⟨σ30, hs30⟩ : ∃ σ30, σ30 = hmU σ27 σ.2 (.inr (9, [.ref (σ.2 + 1), .int 0, .ref (σ.2 + 2), .int 0, .ref (σ.2 + 3), .int 0, .ref (σ.2 + 4), .int 0])) := ⟨_, rfl⟩
  have w30 : wF (hmU σ27 σ.2 (.inr (9, [.ref (σ.2 + 1), .int 0, .ref (σ.2 + 2), .int 0, .ref (σ.2 + 3), .int 0, .ref (σ.2 + 4), .int 0]))) σ.2 9 7 (.int (0 : Int32)) = some σ30 := by rw [wU _ _ _ _ _ _ (by simp), hs30]; rfl
  have l30 : σ30.2 = σ.2 + 5 := by rw [hs30]; exact l27
  have k30 : ∀ p, p ≠ σ.2 → σ30.1 p = σ27.1 p := fun p hp => by rw [hs30, hmU_n _ _ hp]
  refine ⟨σ30, ?_, ⟨by omega, fun p hp => ?_⟩, l30, ?_, ?_, ?_, ?_, ?_⟩
  · unfold fX7_init
    rw [a1, cb_some, w4, ob_some, w6, ob_some, a9, cb_some, w11, ob_some, w13, ob_some, a16, cb_some, w18, ob_some, w20, ob_some]
    simp only [nw]
    rw [← hs23, l20]
    unfold fX0_init
    rw [w24, ob_some, w25, ob_some, w27, ob_some, cb_some, w28, ob_some, w30, ob_some]
  · rw [k30 p (by omega), k27 p (by omega), x23.2 p (by omega), k20 p (by omega), x16.2 p (by omega), k13 p (by omega), x9.2 p (by omega), k6 p (by omega), x2.2 p (by omega), x0.2 p hp]
  · rw [hs30]; exact hmU_s _ _ _
  · rw [k30 _ (by omega), k27 _ (by omega), x23.2 _ (by omega), k20 _ (by omega), x16.2 _ (by omega), k13 _ (by omega), x9.2 _ (by omega), k6 _ (by omega)]; exact n2
  · rw [k30 _ (by omega), k27 _ (by omega), x23.2 _ (by omega), k20 _ (by omega), x16.2 _ (by omega), k13 _ (by omega)]; exact n9
  · rw [k30 _ (by omega), k27 _ (by omega), x23.2 _ (by omega), k20 _ (by omega)]; exact n16
  · rw [k30 _ (by omega)]; exact n27
-- the reference
def rF0 (ma k : Nat) : List Value := (List.range 33).map fun j => if rInt j then .int 0 else if rPos j ≤ k then .ref (ma + rPos j) else .null
def z22 : Nat → Int32 := upd (upd (upd (upd (upd (upd (upd (upd (fun _ => 0) 0 (-3)) 1 (-3)) 2 (-3)) 3 (-3)) 4 (-3)) 5 (-3)) 6 (-3)) 7 (-3)
def rC0 (i : Nat) : va_E := .inl (rKd (rFld i), rLen (rFld i), if rKd (rFld i) = 1 then .inr (.inl (fun _ => 0)) else .inl (if rFld i = 22 then z22 else fun _ => 0))
def RI (ma k : Nat) (σ0 σ : hmS) : Prop := σ.2 = ma + 1 + k ∧ σ.1 ma = some (.inr (10, rF0 ma k)) ∧ (∀ i, 0 < i → i ≤ k → σ.1 (ma + i) = some (rC0 i)) ∧ ∀ p, p < ma → σ.1 p = σ0.1 p
theorem rF0_at (ma k : Nat) {j : Nat} (hj : j < 33) : (rF0 ma k)[j]? = some (if rInt j then .int 0 else if rPos j ≤ k then .ref (ma + rPos j) else .null) := by
  unfold rF0
  rw [List.getElem?_map, List.getElem?_range hj]
  rfl
theorem rF0_len (ma k : Nat) : (rF0 ma k).length = 33 := by unfold rF0; simp
theorem rF0_set (ma k j : Nat) (hj : j < 33) (hi : rInt j = false) (hp : rPos j = k + 1) : (rF0 ma k).set j (.ref (ma + (k + 1))) = rF0 ma (k + 1) := by
  apply List.ext_getElem?
  intro i
  by_cases hi33 : i < 33
  · by_cases hij : i = j
    · subst hij
      rw [List.getElem?_set_self (by rw [rF0_len]; exact hj), rF0_at _ _ hj, hi, hp]
      simp
    · rw [List.getElem?_set_ne (Ne.symm hij), rF0_at _ _ hi33, rF0_at _ _ hi33]
      cases hri : rInt i with
      | true => rfl
      | false =>
        have hne : rPos i ≠ k + 1 := fun e => hij (r_pinj i hi33 hri j hj hi (e.trans hp.symm))
        by_cases hle : rPos i ≤ k
        · simp [hle, show rPos i ≤ k + 1 by omega]
        · simp [hle, show ¬ rPos i ≤ k + 1 by omega]
  · rw [List.getElem?_eq_none (by rw [List.length_set, rF0_len]; omega), List.getElem?_eq_none (by rw [rF0_len]; omega)]
/-- one array more -/
theorem RI.stp {ma k : Nat} {σ0 σ : hmS} (h : RI ma k σ0 σ) {j kd n : Nat} {x : hmX} (hj : j < 33) (hi : rInt j = false) (hp : rPos j = k + 1) (hc : rC0 (k + 1) = .inl (kd, n, x)) (hn : n < 100000) : ∃ σ', (∀ K : hmS → Option (Unit × hmS), (cb (nA σ kd x n (nI n)) fun q s => ob (wF s ma 10 j (.ref q)) K) = K σ') ∧ RI ma (k + 1) σ0 σ' := by
  obtain ⟨h1, h2, h3, h4⟩ := h
  obtain ⟨σ1, hs1⟩ : ∃ σ1, σ1 = hmN σ (.inl (kd, n, x)) := ⟨_, rfl⟩
  have x1 : Ext σ σ1 := by rw [hs1]; exact Ext.new σ _
  have l1 : σ1.2 = ma + 1 + (k + 1) := by rw [hs1]; show σ.2 + 1 = _; omega
  have n1 : σ1.1 (ma + (k + 1)) = some (.inl (kd, n, x)) := by rw [hs1, show ma + (k + 1) = σ.2 by omega]; exact hmN_s _ _
  have d1 : σ1.1 ma = some (.inr (10, rF0 ma k)) := by rw [x1.2 _ (by omega)]; exact h2
  have w1 := wF_of (k := j) d1 (by rw [rF0_len]; exact hj) (.ref (ma + (k + 1)))
  rw [rF0_set ma k j hj hi hp] at w1
  refine ⟨hmU σ1 ma (.inr (10, rF0 ma (k + 1))), fun K => ?_, ?_⟩
  · rw [nA_J x n hn, cb_some, ← hs1, show σ.2 = ma + (k + 1) by omega, w1, ob_some]
  · refine ⟨l1, hmU_s _ _ _, fun i i0 ik => ?_, fun p hp' => ?_⟩
    · rw [hmU_n _ _ (by omega)]
      by_cases e : i = k + 1
      · rw [e, n1, hc]
      · rw [x1.2 _ (by omega)]
        exact h3 i i0 (by omega)
    · rw [hmU_n _ _ (by omega), x1.2 _ (by omega)]
      exact h4 p hp'
/-- the row of places -/
theorem RI.stp22 {ma : Nat} {σ0 σ : hmS} (h : RI ma 20 σ0 σ) : ∃ σ', (∀ K : hmS → Option (Unit × hmS), (cb (nA σ 0 (.inl (fun _ => 0)) 8 (8 : Int32)) fun q101 σ102 => ob (sI σ102 0 q101 (0 : Int32) (-3 : Int32)) fun σ104 => ob (sI σ104 0 q101 (1 : Int32) (-3 : Int32)) fun σ106 => ob (sI σ106 0 q101 (2 : Int32) (-3 : Int32)) fun σ108 => ob (sI σ108 0 q101 (3 : Int32) (-3 : Int32)) fun σ110 => ob (sI σ110 0 q101 (4 : Int32) (-3 : Int32)) fun σ112 => ob (sI σ112 0 q101 (5 : Int32) (-3 : Int32)) fun σ114 => ob (sI σ114 0 q101 (6 : Int32) (-3 : Int32)) fun σ116 => ob (sI σ116 0 q101 (7 : Int32) (-3 : Int32)) fun σ118 => ob (wF σ118 ma 10 22 (.ref q101)) K) = K σ') ∧ RI ma 21 σ0 σ' := by
  obtain ⟨h1, h2, h3, h4⟩ := h
  obtain ⟨σ1, hs1⟩ : ∃ σ1, σ1 = hmN σ (.inl (0, 8, .inl (fun _ => 0))) := ⟨_, rfl⟩
  have x1 : Ext σ σ1 := by rw [hs1]; exact Ext.new σ _
  have l1 : σ1.2 = ma + 1 + 21 := by rw [hs1]; show σ.2 + 1 = _; omega
  have n1 : σ1.1 (ma + 21) = some (.inl (0, 8, .inl (fun _ => 0))) := by rw [hs1, show ma + 21 = σ.2 by omega]; exact hmN_s _ _
  have s0 : sI σ1 0 (ma + 21) (0 : Int32) (-3 : Int32) = some (hmU σ1 (ma + 21) (.inl (0, 8, .inl (upd (fun _ => 0) 0 (-3))))) := sI_of (i := 0) n1 (by decide) (by decide) (by decide) (-3)
  have st : ∀ (f : Nat → Int32) (i : Nat), i < 8 → sI (hmU σ1 (ma + 21) (.inl (0, 8, .inl f))) 0 (ma + 21) (nI i) (-3 : Int32) = some (hmU σ1 (ma + 21) (.inl (0, 8, .inl (upd f i (-3))))) := fun f i hi => by
    rw [sI_of (hmU_s _ _ _) (by decide) hi (by decide), hmU_U]
  have s1 : ∀ f, sI (hmU σ1 (ma + 21) (.inl (0, 8, .inl f))) 0 (ma + 21) (1 : Int32) (-3 : Int32) = some (hmU σ1 (ma + 21) (.inl (0, 8, .inl (upd f 1 (-3))))) := fun f => st f 1 (by decide)
  have s2 : ∀ f, sI (hmU σ1 (ma + 21) (.inl (0, 8, .inl f))) 0 (ma + 21) (2 : Int32) (-3 : Int32) = some (hmU σ1 (ma + 21) (.inl (0, 8, .inl (upd f 2 (-3))))) := fun f => st f 2 (by decide)
  have s3 : ∀ f, sI (hmU σ1 (ma + 21) (.inl (0, 8, .inl f))) 0 (ma + 21) (3 : Int32) (-3 : Int32) = some (hmU σ1 (ma + 21) (.inl (0, 8, .inl (upd f 3 (-3))))) := fun f => st f 3 (by decide)
  have s4 : ∀ f, sI (hmU σ1 (ma + 21) (.inl (0, 8, .inl f))) 0 (ma + 21) (4 : Int32) (-3 : Int32) = some (hmU σ1 (ma + 21) (.inl (0, 8, .inl (upd f 4 (-3))))) := fun f => st f 4 (by decide)
  have s5 : ∀ f, sI (hmU σ1 (ma + 21) (.inl (0, 8, .inl f))) 0 (ma + 21) (5 : Int32) (-3 : Int32) = some (hmU σ1 (ma + 21) (.inl (0, 8, .inl (upd f 5 (-3))))) := fun f => st f 5 (by decide)
  have s6 : ∀ f, sI (hmU σ1 (ma + 21) (.inl (0, 8, .inl f))) 0 (ma + 21) (6 : Int32) (-3 : Int32) = some (hmU σ1 (ma + 21) (.inl (0, 8, .inl (upd f 6 (-3))))) := fun f => st f 6 (by decide)
  have s7 : ∀ f, sI (hmU σ1 (ma + 21) (.inl (0, 8, .inl f))) 0 (ma + 21) (7 : Int32) (-3 : Int32) = some (hmU σ1 (ma + 21) (.inl (0, 8, .inl (upd f 7 (-3))))) := fun f => st f 7 (by decide)
  obtain ⟨σ2, hs2⟩ : ∃ σ2, σ2 = hmU σ1 (ma + 21) (.inl (0, 8, .inl z22)) := ⟨_, rfl⟩
  have d2 : σ2.1 ma = some (.inr (10, rF0 ma 20)) := by rw [hs2, hmU_n _ _ (by omega), x1.2 _ (by omega)]; exact h2
  have w1 := wF_of (k := 22) d2 (by rw [rF0_len]; decide) (.ref (ma + 21))
  rw [rF0_set ma 20 22 (by decide) (by decide) (by decide)] at w1
  have a1 : nA σ 0 (.inl (fun _ => 0)) 8 (8 : Int32) = some (σ.2, hmN σ (.inl (0, 8, .inl (fun _ => 0)))) := nA_J _ 8 (by decide)
  refine ⟨hmU σ2 ma (.inr (10, rF0 ma 21)), fun K => ?_, ?_⟩
  · rw [a1, cb_some, ← hs1, show σ.2 = ma + 21 by omega, s0, ob_some, s1, ob_some, s2, ob_some, s3, ob_some, s4, ob_some, s5, ob_some, s6, ob_some, s7, ob_some, show (upd (upd (upd (upd (upd (upd (upd (upd (fun _ => 0) 0 (-3)) 1 (-3)) 2 (-3)) 3 (-3)) 4 (-3)) 5 (-3)) 6 (-3)) 7 (-3) : Nat → Int32) = z22 from rfl, ← hs2, w1, ob_some]
  · refine ⟨by show σ2.2 = _; rw [hs2]; exact l1, hmU_s _ _ _, fun i i0 ik => ?_, fun p hp' => ?_⟩
    · rw [hmU_n _ _ (by omega)]
      by_cases e : i = 21
      · rw [e, hs2, hmU_s]; rfl
      · rw [hs2, hmU_n _ _ (by omega), x1.2 _ (by omega)]
        exact h3 i i0 (by omega)
    · rw [hmU_n _ _ (by omega), hs2, hmU_n _ _ (by omega), x1.2 _ (by omega)]
      exact h4 p hp'
theorem di_ref (σ : hmS) : ∃ σ', fX8_init σ.2 (hmN σ (.inr (10, [.int 0, .null, .null, .null, .null, .null, .null, .null, .null, .null, .null, .null, .null, .null, .null, .null, .int 0, .null, .null, .null, .null, .null, .null, .int 0, .null, .null, .null, .null, .int 0, .null, .int 0, .int 0, .int 0]))) = some ((), σ') ∧ RI σ.2 26 σ σ' := by
  have h0 : RI σ.2 0 σ (hmN σ (.inr (10, [.int 0, .null, .null, .null, .null, .null, .null, .null, .null, .null, .null, .null, .null, .null, .null, .null, .int 0, .null, .null, .null, .null, .null, .null, .int 0, .null, .null, .null, .null, .int 0, .null, .int 0, .int 0, .int 0]))) := ⟨rfl, hmN_s _ _, fun i i0 ik => absurd i0 (by omega), fun p hp => (Ext.new σ _).2 p hp⟩
  obtain ⟨s1, e1, h1⟩ := h0.stp (j := 1) (kd := 0) (n := 12) (x := .inl (fun _ => 0)) (by decide) (by decide) (by decide) rfl (by decide)
  obtain ⟨s2, e2, h2⟩ := h1.stp (j := 2) (kd := 0) (n := 12) (x := .inl (fun _ => 0)) (by decide) (by decide) (by decide) rfl (by decide)
  obtain ⟨s3, e3, h3⟩ := h2.stp (j := 3) (kd := 0) (n := 12) (x := .inl (fun _ => 0)) (by decide) (by decide) (by decide) rfl (by decide)
  obtain ⟨s4, e4, h4⟩ := h3.stp (j := 4) (kd := 0) (n := 12) (x := .inl (fun _ => 0)) (by decide) (by decide) (by decide) rfl (by decide)
  obtain ⟨s5, e5, h5⟩ := h4.stp (j := 5) (kd := 0) (n := 12) (x := .inl (fun _ => 0)) (by decide) (by decide) (by decide) rfl (by decide)
  obtain ⟨s6, e6, h6⟩ := h5.stp (j := 6) (kd := 0) (n := 12) (x := .inl (fun _ => 0)) (by decide) (by decide) (by decide) rfl (by decide)
  obtain ⟨s7, e7, h7⟩ := h6.stp (j := 7) (kd := 0) (n := 12) (x := .inl (fun _ => 0)) (by decide) (by decide) (by decide) rfl (by decide)
  obtain ⟨s8, e8, h8⟩ := h7.stp (j := 8) (kd := 0) (n := 48) (x := .inl (fun _ => 0)) (by decide) (by decide) (by decide) rfl (by decide)
  obtain ⟨s9, e9, h9⟩ := h8.stp (j := 9) (kd := 1) (n := 48) (x := .inr (.inl (fun _ => 0))) (by decide) (by decide) (by decide) rfl (by decide)
  obtain ⟨s10, e10, h10⟩ := h9.stp (j := 10) (kd := 2) (n := 48) (x := .inl (fun _ => 0)) (by decide) (by decide) (by decide) rfl (by decide)
  obtain ⟨s11, e11, h11⟩ := h10.stp (j := 11) (kd := 2) (n := 12) (x := .inl (fun _ => 0)) (by decide) (by decide) (by decide) rfl (by decide)
  obtain ⟨s12, e12, h12⟩ := h11.stp (j := 12) (kd := 0) (n := 12) (x := .inl (fun _ => 0)) (by decide) (by decide) (by decide) rfl (by decide)
  obtain ⟨s13, e13, h13⟩ := h12.stp (j := 13) (kd := 0) (n := 48) (x := .inl (fun _ => 0)) (by decide) (by decide) (by decide) rfl (by decide)
  obtain ⟨s14, e14, h14⟩ := h13.stp (j := 14) (kd := 1) (n := 48) (x := .inr (.inl (fun _ => 0))) (by decide) (by decide) (by decide) rfl (by decide)
  obtain ⟨s15, e15, h15⟩ := h14.stp (j := 15) (kd := 2) (n := 48) (x := .inl (fun _ => 0)) (by decide) (by decide) (by decide) rfl (by decide)
  obtain ⟨s16, e16, h16⟩ := h15.stp (j := 17) (kd := 0) (n := 520) (x := .inl (fun _ => 0)) (by decide) (by decide) (by decide) rfl (by decide)
  obtain ⟨s17, e17, h17⟩ := h16.stp (j := 18) (kd := 0) (n := 6240) (x := .inl (fun _ => 0)) (by decide) (by decide) (by decide) rfl (by decide)
  obtain ⟨s18, e18, h18⟩ := h17.stp (j := 19) (kd := 0) (n := 6240) (x := .inl (fun _ => 0)) (by decide) (by decide) (by decide) rfl (by decide)
  obtain ⟨s19, e19, h19⟩ := h18.stp (j := 20) (kd := 1) (n := 24960) (x := .inr (.inl (fun _ => 0))) (by decide) (by decide) (by decide) rfl (by decide)
  obtain ⟨s20, e20, h20⟩ := h19.stp (j := 21) (kd := 1) (n := 24960) (x := .inr (.inl (fun _ => 0))) (by decide) (by decide) (by decide) rfl (by decide)
  obtain ⟨s21, e21, h21⟩ := h20.stp22
  obtain ⟨s22, e22, h22⟩ := h21.stp (j := 24) (kd := 0) (n := 6) (x := .inl (fun _ => 0)) (by decide) (by decide) (by decide) rfl (by decide)
  obtain ⟨s23, e23, h23⟩ := h22.stp (j := 25) (kd := 0) (n := 6) (x := .inl (fun _ => 0)) (by decide) (by decide) (by decide) rfl (by decide)
  obtain ⟨s24, e24, h24⟩ := h23.stp (j := 26) (kd := 0) (n := 6) (x := .inl (fun _ => 0)) (by decide) (by decide) (by decide) rfl (by decide)
  obtain ⟨s25, e25, h25⟩ := h24.stp (j := 27) (kd := 1) (n := 24) (x := .inr (.inl (fun _ => 0))) (by decide) (by decide) (by decide) rfl (by decide)
  obtain ⟨s26, e26, h26⟩ := h25.stp (j := 29) (kd := 0) (n := 64) (x := .inl (fun _ => 0)) (by decide) (by decide) (by decide) rfl (by decide)
  refine ⟨s26, ?_, h26⟩
  unfold fX8_init
  refine (e1 _).trans ?_
  refine (e2 _).trans ?_
  refine (e3 _).trans ?_
  refine (e4 _).trans ?_
  refine (e5 _).trans ?_
  refine (e6 _).trans ?_
  refine (e7 _).trans ?_
  refine (e8 _).trans ?_
  refine (e9 _).trans ?_
  refine (e10 _).trans ?_
  refine (e11 _).trans ?_
  refine (e12 _).trans ?_
  refine (e13 _).trans ?_
  refine (e14 _).trans ?_
  refine (e15 _).trans ?_
  refine (e16 _).trans ?_
  refine (e17 _).trans ?_
  refine (e18 _).trans ?_
  refine (e19 _).trans ?_
  refine (e20 _).trans ?_
  refine (e21 _).trans ?_
  refine (e22 _).trans ?_
  refine (e23 _).trans ?_
  refine (e24 _).trans ?_
  refine (e25 _).trans ?_
  refine (e26 _).trans ?_
  rfl
