/-! The class: a type's own objects. -/
/-- all but what lies at q, and what is new, is as before -/
def Ext1 (q : Nat) (σ σ' : hmS) : Prop := σ.2 ≤ σ'.2 ∧ ∀ p, p < σ.2 → p ≠ q → σ'.1 p = σ.1 p
theorem nA_I {σ : hmS} {k : Nat} (x : hmX) (n : Nat) (hn : n < 100) : nA σ k x n (nI n) = some (σ.2, hmN σ (.inl (k, n, x))) := by
  unfold nA
  rw [if_pos ⟨n_nn (by omega), by rw [nI_clamp (by omega)]; omega⟩, nI_clamp (by omega)]
theorem dp_X1 {σ : hmS} {q : Nat} (hq : q < σ.2) (d0 : σ.1 q = some (.inr (3, [.null, .null, .null, .int 0]))) : ∃ σ', fX1_init q σ = some ((), σ') ∧ Ext1 q σ σ' ∧ σ'.2 = σ.2 + 3 ∧ σ'.1 q = some (.inr (3, [.ref σ.2, .ref (σ.2 + 1), .ref (σ.2 + 2), .int 0])) ∧ σ'.1 σ.2 = some (.inl (0, 4, .inl (fun _ => 0))) ∧ σ'.1 (σ.2 + 1) = some (.inl (1, 4, .inr (.inl (fun _ => 0)))) ∧ σ'.1 (σ.2 + 2) = some (.inl (2, 4, .inl (fun _ => 0))) := by
  have a1 : nA σ 0 (.inl (fun _ => 0)) 4 (4 : Int32) = some (σ.2, hmN σ (.inl (0, 4, .inl (fun _ => 0)))) := nA_I _ 4 (by decide)
  obtain ⟨σ1, hs1⟩ : ∃ σ1, σ1 = hmN σ (.inl (0, 4, .inl (fun _ => 0))) := ⟨_, rfl⟩
  rw [← hs1] at a1
  have x1 : Ext σ σ1 := by rw [hs1]; exact Ext.new σ _
  have l1 : σ1.2 = σ.2 + 1 := by rw [hs1]; rfl
  have n1 : σ1.1 σ.2 = some (.inl (0, 4, .inl (fun _ => 0))) := by rw [hs1]; exact hmN_s _ _
  have d1 : σ1.1 q = some (.inr (3, [.null, .null, .null, .int 0])) := by rw [x1.2 q hq]; exact d0
  have w1 := wF_of (k := 0) d1 (by simp) (.ref σ.2)
  obtain ⟨σ2, hs2⟩ : ∃ σ2, σ2 = hmU σ1 q (.inr (3, [.ref σ.2, .null, .null, .int 0])) := ⟨_, rfl⟩
  have w1' : wF σ1 q 3 0 (.ref σ.2) = some σ2 := by rw [w1, hs2]; rfl
  have l2 : σ2.2 = σ.2 + 1 := by rw [hs2]; exact l1
  have d2 : σ2.1 q = some (.inr (3, [.ref σ.2, .null, .null, .int 0])) := by rw [hs2]; exact hmU_s _ _ _
  have k2 : ∀ p, p ≠ q → σ2.1 p = σ1.1 p := fun p hp => by rw [hs2, hmU_n _ _ hp]
  have a2 : nA σ2 1 (.inr (.inl (fun _ => 0))) 4 (4 : Int32) = some (σ2.2, hmN σ2 (.inl (1, 4, .inr (.inl (fun _ => 0))))) := nA_I _ 4 (by decide)
  obtain ⟨σ3, hs3⟩ : ∃ σ3, σ3 = hmN σ2 (.inl (1, 4, .inr (.inl (fun _ => 0)))) := ⟨_, rfl⟩
  rw [← hs3] at a2
  have x3 : Ext σ2 σ3 := by rw [hs3]; exact Ext.new σ2 _
  have l3 : σ3.2 = σ.2 + 2 := by rw [hs3]; show σ2.2 + 1 = _; omega
  have n3 : σ3.1 σ2.2 = some (.inl (1, 4, .inr (.inl (fun _ => 0)))) := by rw [hs3]; exact hmN_s _ _
  have d3 : σ3.1 q = some (.inr (3, [.ref σ.2, .null, .null, .int 0])) := by rw [x3.2 q (by omega)]; exact d2
  have w3 := wF_of (k := 1) d3 (by simp) (.ref σ2.2)
  obtain ⟨σ4, hs4⟩ : ∃ σ4, σ4 = hmU σ3 q (.inr (3, [.ref σ.2, .ref σ2.2, .null, .int 0])) := ⟨_, rfl⟩
  have w3' : wF σ3 q 3 1 (.ref σ2.2) = some σ4 := by rw [w3, hs4]; rfl
  have l4 : σ4.2 = σ.2 + 2 := by rw [hs4]; exact l3
  have d4 : σ4.1 q = some (.inr (3, [.ref σ.2, .ref σ2.2, .null, .int 0])) := by rw [hs4]; exact hmU_s _ _ _
  have k4 : ∀ p, p ≠ q → σ4.1 p = σ3.1 p := fun p hp => by rw [hs4, hmU_n _ _ hp]
  have a4 : nA σ4 2 (.inl (fun _ => 0)) 4 (4 : Int32) = some (σ4.2, hmN σ4 (.inl (2, 4, .inl (fun _ => 0)))) := nA_I _ 4 (by decide)
  obtain ⟨σ5, hs5⟩ : ∃ σ5, σ5 = hmN σ4 (.inl (2, 4, .inl (fun _ => 0))) := ⟨_, rfl⟩
  rw [← hs5] at a4
  have x5 : Ext σ4 σ5 := by rw [hs5]; exact Ext.new σ4 _
  have l5 : σ5.2 = σ.2 + 3 := by rw [hs5]; show σ4.2 + 1 = _; omega
  have n5 : σ5.1 σ4.2 = some (.inl (2, 4, .inl (fun _ => 0))) := by rw [hs5]; exact hmN_s _ _
  have d5 : σ5.1 q = some (.inr (3, [.ref σ.2, .ref σ2.2, .null, .int 0])) := by rw [x5.2 q (by omega)]; exact d4
  have w5 := wF_of (k := 2) d5 (by simp) (.ref σ4.2)
  obtain ⟨σ6, hs6⟩ : ∃ σ6, σ6 = hmU σ5 q (.inr (3, [.ref σ.2, .ref σ2.2, .ref σ4.2, .int 0])) := ⟨_, rfl⟩
  have w5' : wF σ5 q 3 2 (.ref σ4.2) = some σ6 := by rw [w5, hs6]; rfl
  have d6 : σ6.1 q = some (.inr (3, [.ref σ.2, .ref σ2.2, .ref σ4.2, .int 0])) := by rw [hs6]; exact hmU_s _ _ _
  have w6 := wF_of (k := 3) d6 (by simp) (.int (0 : Int32))
  obtain ⟨σ7, hs7⟩ : ∃ σ7, σ7 = hmU σ6 q (.inr (3, [.ref σ.2, .ref σ2.2, .ref σ4.2, .int 0])) := ⟨_, rfl⟩
  have w6' : wF σ6 q 3 3 (.int (0 : Int32)) = some σ7 := by rw [w6, hs7]; rfl
  have d7 : σ7.1 q = some (.inr (3, [.ref σ.2, .ref σ2.2, .ref σ4.2, .int 0])) := by rw [hs7]; exact hmU_s _ _ _
  have l7 : σ7.2 = σ.2 + 3 := by rw [hs7, hs6]; exact l5
  have k7 : ∀ p, p ≠ q → σ7.1 p = σ5.1 p := fun p hp => by rw [hs7, hmU_n _ _ hp, hs6, hmU_n _ _ hp]
  refine ⟨σ7, ?_, ⟨by omega, fun p hp hpq => ?_⟩, l7, ?_, ?_, ?_, ?_⟩
  · simp only [fX1_init, a1, cb_some, w1', ob_some, a2, w3', a4, w5', w6']
  · rw [k7 p hpq, x5.2 p (by omega), k4 p hpq, x3.2 p (by omega), k2 p hpq, x1.2 p hp]
  · rw [← l2, show σ.2 + 2 = σ4.2 from l4.symm]; exact d7
  · rw [k7 _ (by omega), x5.2 _ (by omega), k4 _ (by omega), x3.2 _ (by omega), k2 _ (by omega)]; exact n1
  · rw [k7 _ (by omega), x5.2 _ (by omega), k4 _ (by omega), ← l2]; exact n3
  · rw [k7 _ (by omega), ← l4]; exact n5
theorem dp_X4 {σ : hmS} {q : Nat} (hq : q < σ.2) (d0 : σ.1 q = some (.inr (6, [.null, .null, .null, .int 0]))) : ∃ σ', fX4_init q σ = some ((), σ') ∧ Ext1 q σ σ' ∧ σ'.2 = σ.2 + 3 ∧ σ'.1 q = some (.inr (6, [.ref σ.2, .ref (σ.2 + 1), .ref (σ.2 + 2), .int 0])) ∧ σ'.1 σ.2 = some (.inl (0, 4, .inl (fun _ => 0))) ∧ σ'.1 (σ.2 + 1) = some (.inl (1, 4, .inr (.inl (fun _ => 0)))) ∧ σ'.1 (σ.2 + 2) = some (.inl (2, 4, .inl (fun _ => 0))) := by
  have a1 : nA σ 0 (.inl (fun _ => 0)) 4 (4 : Int32) = some (σ.2, hmN σ (.inl (0, 4, .inl (fun _ => 0)))) := nA_I _ 4 (by decide)
  obtain ⟨σ1, hs1⟩ : ∃ σ1, σ1 = hmN σ (.inl (0, 4, .inl (fun _ => 0))) := ⟨_, rfl⟩
  rw [← hs1] at a1
  have x1 : Ext σ σ1 := by rw [hs1]; exact Ext.new σ _
  have l1 : σ1.2 = σ.2 + 1 := by rw [hs1]; rfl
  have n1 : σ1.1 σ.2 = some (.inl (0, 4, .inl (fun _ => 0))) := by rw [hs1]; exact hmN_s _ _
  have d1 : σ1.1 q = some (.inr (6, [.null, .null, .null, .int 0])) := by rw [x1.2 q hq]; exact d0
  have w1 := wF_of (k := 0) d1 (by simp) (.ref σ.2)
  obtain ⟨σ2, hs2⟩ : ∃ σ2, σ2 = hmU σ1 q (.inr (6, [.ref σ.2, .null, .null, .int 0])) := ⟨_, rfl⟩
  have w1' : wF σ1 q 6 0 (.ref σ.2) = some σ2 := by rw [w1, hs2]; rfl
  have l2 : σ2.2 = σ.2 + 1 := by rw [hs2]; exact l1
  have d2 : σ2.1 q = some (.inr (6, [.ref σ.2, .null, .null, .int 0])) := by rw [hs2]; exact hmU_s _ _ _
  have k2 : ∀ p, p ≠ q → σ2.1 p = σ1.1 p := fun p hp => by rw [hs2, hmU_n _ _ hp]
  have a2 : nA σ2 1 (.inr (.inl (fun _ => 0))) 4 (4 : Int32) = some (σ2.2, hmN σ2 (.inl (1, 4, .inr (.inl (fun _ => 0))))) := nA_I _ 4 (by decide)
  obtain ⟨σ3, hs3⟩ : ∃ σ3, σ3 = hmN σ2 (.inl (1, 4, .inr (.inl (fun _ => 0)))) := ⟨_, rfl⟩
  rw [← hs3] at a2
  have x3 : Ext σ2 σ3 := by rw [hs3]; exact Ext.new σ2 _
  have l3 : σ3.2 = σ.2 + 2 := by rw [hs3]; show σ2.2 + 1 = _; omega
  have n3 : σ3.1 σ2.2 = some (.inl (1, 4, .inr (.inl (fun _ => 0)))) := by rw [hs3]; exact hmN_s _ _
  have d3 : σ3.1 q = some (.inr (6, [.ref σ.2, .null, .null, .int 0])) := by rw [x3.2 q (by omega)]; exact d2
  have w3 := wF_of (k := 1) d3 (by simp) (.ref σ2.2)
  obtain ⟨σ4, hs4⟩ : ∃ σ4, σ4 = hmU σ3 q (.inr (6, [.ref σ.2, .ref σ2.2, .null, .int 0])) := ⟨_, rfl⟩
  have w3' : wF σ3 q 6 1 (.ref σ2.2) = some σ4 := by rw [w3, hs4]; rfl
  have l4 : σ4.2 = σ.2 + 2 := by rw [hs4]; exact l3
  have d4 : σ4.1 q = some (.inr (6, [.ref σ.2, .ref σ2.2, .null, .int 0])) := by rw [hs4]; exact hmU_s _ _ _
  have k4 : ∀ p, p ≠ q → σ4.1 p = σ3.1 p := fun p hp => by rw [hs4, hmU_n _ _ hp]
  have a4 : nA σ4 2 (.inl (fun _ => 0)) 4 (4 : Int32) = some (σ4.2, hmN σ4 (.inl (2, 4, .inl (fun _ => 0)))) := nA_I _ 4 (by decide)
  obtain ⟨σ5, hs5⟩ : ∃ σ5, σ5 = hmN σ4 (.inl (2, 4, .inl (fun _ => 0))) := ⟨_, rfl⟩
  rw [← hs5] at a4
  have x5 : Ext σ4 σ5 := by rw [hs5]; exact Ext.new σ4 _
  have l5 : σ5.2 = σ.2 + 3 := by rw [hs5]; show σ4.2 + 1 = _; omega
  have n5 : σ5.1 σ4.2 = some (.inl (2, 4, .inl (fun _ => 0))) := by rw [hs5]; exact hmN_s _ _
  have d5 : σ5.1 q = some (.inr (6, [.ref σ.2, .ref σ2.2, .null, .int 0])) := by rw [x5.2 q (by omega)]; exact d4
  have w5 := wF_of (k := 2) d5 (by simp) (.ref σ4.2)
  obtain ⟨σ6, hs6⟩ : ∃ σ6, σ6 = hmU σ5 q (.inr (6, [.ref σ.2, .ref σ2.2, .ref σ4.2, .int 0])) := ⟨_, rfl⟩
  have w5' : wF σ5 q 6 2 (.ref σ4.2) = some σ6 := by rw [w5, hs6]; rfl
  have d6 : σ6.1 q = some (.inr (6, [.ref σ.2, .ref σ2.2, .ref σ4.2, .int 0])) := by rw [hs6]; exact hmU_s _ _ _
  have w6 := wF_of (k := 3) d6 (by simp) (.int (0 : Int32))
  obtain ⟨σ7, hs7⟩ : ∃ σ7, σ7 = hmU σ6 q (.inr (6, [.ref σ.2, .ref σ2.2, .ref σ4.2, .int 0])) := ⟨_, rfl⟩
  have w6' : wF σ6 q 6 3 (.int (0 : Int32)) = some σ7 := by rw [w6, hs7]; rfl
  have d7 : σ7.1 q = some (.inr (6, [.ref σ.2, .ref σ2.2, .ref σ4.2, .int 0])) := by rw [hs7]; exact hmU_s _ _ _
  have l7 : σ7.2 = σ.2 + 3 := by rw [hs7, hs6]; exact l5
  have k7 : ∀ p, p ≠ q → σ7.1 p = σ5.1 p := fun p hp => by rw [hs7, hmU_n _ _ hp, hs6, hmU_n _ _ hp]
  refine ⟨σ7, ?_, ⟨by omega, fun p hp hpq => ?_⟩, l7, ?_, ?_, ?_, ?_⟩
  · simp only [fX4_init, a1, cb_some, w1', ob_some, a2, w3', a4, w5', w6']
  · rw [k7 p hpq, x5.2 p (by omega), k4 p hpq, x3.2 p (by omega), k2 p hpq, x1.2 p hp]
  · rw [← l2, show σ.2 + 2 = σ4.2 from l4.symm]; exact d7
  · rw [k7 _ (by omega), x5.2 _ (by omega), k4 _ (by omega), x3.2 _ (by omega), k2 _ (by omega)]; exact n1
  · rw [k7 _ (by omega), x5.2 _ (by omega), k4 _ (by omega), ← l2]; exact n3
  · rw [k7 _ (by omega), ← l4]; exact n5
/-- the name of a new type -/
def nmN (a : aS) (ow : Option Nat) (tw : Nat) (oc : Option Nat) : List Nat := (match ow with | some v => nmT a v ++ [36] | none => []) ++ (if tw = 0 then [] else (dig tw).reverse) ++ (match oc with | some c => [65 + c] | none => [])
section DP
variable {E : hmG} {xa ma b : Nat} {a : aS} {w : cG} {σ : hmS}
theorem nm_le (hw : Wt a) {v : Nat} (hv : v < a.1 0 0) (hn : a.1 0 0 < 12) : (nmT a v).length ≤ 44 ∧ ∀ c ∈ nmT a v, c < 128 := by
  obtain ⟨ts, t1, t2, t3⟩ := hw.oc' (o := some v) (fun x hx => by cases hx; exact hv)
  have e : och a (some v) = ts := chl_eq t1 t2
  have h11 : ts.length ≤ 11 := Nat.le_trans (nd_le (a.1 0 0) ts (isCh_nd t1) t3) (by omega)
  unfold nmT
  rw [e]
  have := revN_le a ts
  exact ⟨by rw [List.length_reverse]; omega, fun c hc => nm_lt hw t3 c (List.mem_reverse.mp hc)⟩
theorem RC.nameOf (h : RC E xa ma b a w σ) (hw : Wt a) (hn : a.1 0 0 < 12) {ow oc : Option Nat} (how : ∀ q, ow = some q → q < a.1 0 0) (hoc : ∀ c, oc = some c → c < 26) {tw : Nat} (htw : tw < 13) : ∃ σ' s f, fX6_classNameOf E (mp w.1 5 ow) (lt oc) (nI tw) σ = some (some s, σ') ∧ Ext σ σ' ∧ σ.2 ≤ s ∧ s + 1 < σ'.2 ∧ σ'.1 s = some (.inr (0, [.ref (s + 1), .int 0, .int 0, .int 0])) ∧ σ'.1 (s + 1) = some (.inl (3, (nmN a ow tw oc).length, .inl f)) ∧ ∀ i, i < (nmN a ow tw oc).length → f i = nI ((nmN a ow tw oc).getD i 0) := by
  obtain ⟨σ1, e1, h1⟩ := sb_new σ
  obtain ⟨⟨⟩, s1, e1', e1''⟩ := cb_s (show cb (fJ4_init_da8c8 σ.2 (hmN σ (.inr (1, [.null, .int 0, .int 0, .int 0])))) (fun _ σ6 => some (σ.2, σ6)) = some (σ.2, σ1) from e1)
  cases e1''
  -- the outer type's name
  obtain ⟨L1, hL1⟩ : ∃ L1, L1 = (match ow with | some v => nmT a v ++ [36] | none => []) := ⟨_, rfl⟩
  have hl1 : L1.length ≤ 45 := by
    rw [hL1]
    cases ow with
    | none => simp
    | some v => have := (nm_le hw (how v rfl) hn).1; simp; omega
  obtain ⟨σ2, m2, h2, e2⟩ : ∃ σ2 m2, SB σ σ2 σ.2 L1 m2 ∧ fX6_classNameOf E (mp w.1 5 ow) (lt oc) (nI tw) σ = fX6_classNameOf_J28 E (mp w.1 5 ow) (lt oc) (nI tw) σ.2 σ2 := by
    cases ow with
    | none =>
      refine ⟨σ1, 0, by rw [hL1]; exact h1, ?_⟩
      simp only [fX6_classNameOf, nw, e1', cb_some, mp_n, oc_none]
    | some v =>
      have hv := how v rfl
      have hnl := nm_le hw hv hn
      have g1 := h.ext h1.1
      obtain ⟨c, c1, f, rfl, c2⟩ := h.cell (vld_t (k := 15) (by decide) (by decide) hv)
      obtain ⟨σ3, e3, h3⟩ := sb_str h1 (h.sc hv) (h.lt0 (vld_t (k := 14) (by decide) (by decide) hv)) (h.lt0 (vld_t (k := 15) (by decide) (by decide) hv)) c1 c2 hnl.2 (by simp; omega)
      rw [List.nil_append] at h3
      obtain ⟨σ4, e4, h4⟩ := sb_char h3 (c := 36) (by decide) (by omega)
      refine ⟨σ4, 0, by rw [hL1]; exact h4, ?_⟩
      obtain ⟨-, -, -, p1, cap1, f1, z1, k1, -⟩ := h1
      obtain ⟨-, -, -, p3, cap3, f3, z3, k3, -⟩ := h3
      rw [show nI 36 = (36 : Int32) from rfl] at e4
      simp only [fX6_classNameOf, nw, e1', cb_some, mp_s, oc_some, g1.t6 hv, ob_some, obC_of k1, e3, obC_of k3, e4]
  -- the number
  obtain ⟨L2, hL2⟩ : ∃ L2, L2 = L1 ++ (if tw = 0 then [] else (dig tw).reverse) := ⟨_, rfl⟩
  have hl2 : L2.length ≤ 47 := by
    rw [hL2]
    split
    · simp; omega
    · have : (dig tw).length ≤ 2 := by unfold dig; split <;> simp
      simp; omega
  obtain ⟨σ3, m3, h3, e3⟩ : ∃ σ3 m3, SB σ σ3 σ.2 L2 m3 ∧ fX6_classNameOf_J28 E (mp w.1 5 ow) (lt oc) (nI tw) σ.2 σ2 = fX6_classNameOf_J38 E (mp w.1 5 ow) (lt oc) (nI tw) σ.2 σ3 := by
    have e0 : (nI tw ≤ (0 : Int32)) = (tw ≤ 0) := n_le (y := 0) (by omega) (by decide)
    by_cases ht0 : tw = 0
    · refine ⟨σ2, m2, by rw [hL2, if_pos ht0, List.append_nil]; exact h2, ?_⟩
      simp only [fX6_classNameOf_J28, e0, if_pos (show tw ≤ 0 by omega)]
    · obtain ⟨σ3, e3, h3⟩ := sb_int h2 h.2.2.2.1 (by omega) htw (by omega)
      refine ⟨σ3, 0, by rw [hL2, if_neg ht0]; exact h3, ?_⟩
      obtain ⟨-, -, -, p2, cap2, f2, z2, k2, -⟩ := h2
      simp only [fX6_classNameOf_J28, e0, if_neg (show ¬ tw ≤ 0 by omega), obC_of k2, ob_some, e3, cb_some]
  -- the letter
  obtain ⟨σ4, m4, h4, e4⟩ : ∃ σ4 m4, SB σ σ4 σ.2 (nmN a ow tw oc) m4 ∧ fX6_classNameOf_J38 E (mp w.1 5 ow) (lt oc) (nI tw) σ.2 σ3 = fX6_classNameOf_J53 E (mp w.1 5 ow) (lt oc) (nI tw) σ.2 σ4 := by
    cases oc with
    | none =>
      have eN : nmN a ow tw none = L2 ++ [] := by rw [hL2, hL1]; rfl
      refine ⟨σ3, m3, by rw [eN, List.append_nil]; exact h3, ?_⟩
      simp only [fX6_classNameOf_J38, lt, if_true]
    | some c =>
      have hc := hoc c rfl
      obtain ⟨σ4, e4, h4⟩ := sb_char h3 (c := 65 + c) (by omega) (by omega)
      have eN : nmN a ow tw (some c) = L2 ++ [65 + c] := by rw [hL2, hL1]; rfl
      refine ⟨σ4, 0, by rw [eN]; exact h4, ?_⟩
      obtain ⟨-, -, -, p3, cap3, f3, z3, k3, -⟩ := h3
      have e65 : (65 : Int32) + nI c = nI (65 + c) := by rw [show (65 : Int32) = nI 65 from rfl, nI_add]
      have hne : ¬ nI c = (-1 : Int32) := fun q => n_nn (j := c) (by omega) (by rw [q]; decide)
      simp only [fX6_classNameOf_J38, lt, if_neg hne, obC_of k3, ob_some, e65, (b_nar (65 + c) (by omega)).2.2.2, e4, cb_some]
  obtain ⟨σ5, f5, e5, x5, l5, d5, d5', hv5⟩ := sb_take h4
  refine ⟨σ5, σ4.2, f5, ?_, x5, h4.1.1, l5, d5, d5', hv5⟩
  obtain ⟨-, -, -, p4, cap4, f4, z4, k4, -⟩ := h4
  rw [e2, e3, e4]
  simp only [fX6_classNameOf_J53, obC_of k4, ob_some, e5, cb_some]
end DP
