/-! The class: levels of an object in the making. -/
section LV
variable (c : aS) (o u : Nat) (ab : Option Nat)
theorem lv18 (j : Nat) : (lvA c o u ab).2.1 18 j = if j = 12 * o + u then some (c.1 7 u) else c.2.1 18 j := by
  show (if (18 : Nat) = 19 ∧ j = 12 * o + u then ab else if (18 : Nat) = 18 ∧ j = 12 * o + u then some (c.1 7 u) else c.2.1 18 j) = _
  rw [if_neg (by omega)]
  by_cases h : j = 12 * o + u <;> simp [h]
theorem lv19 (j : Nat) : (lvA c o u ab).2.1 19 j = if j = 12 * o + u then ab else c.2.1 19 j := by
  show (if (19 : Nat) = 19 ∧ j = 12 * o + u then ab else if (19 : Nat) = 18 ∧ j = 12 * o + u then some (c.1 7 u) else c.2.1 19 j) = _
  by_cases h : j = 12 * o + u <;> simp [h]
theorem lv20 (j : Nat) : (lvA c o u ab).2.2.1 20 j = if 4 * (12 * o + u) ≤ j ∧ j < 4 * (12 * o + u) + c.1 7 u then c.2.2.1 9 (4 * u + (j - 4 * (12 * o + u))) else c.2.2.1 20 j := by
  show (if (20 : Nat) = 21 ∧ 4 * (12 * o + u) ≤ j ∧ j < 4 * (12 * o + u) + c.1 5 u then c.2.2.1 14 (4 * wo c u + (j - 4 * (12 * o + u))) else if (20 : Nat) = 20 ∧ 4 * (12 * o + u) ≤ j ∧ j < 4 * (12 * o + u) + c.1 7 u then c.2.2.1 9 (4 * u + (j - 4 * (12 * o + u))) else c.2.2.1 20 j) = _
  rw [if_neg (by omega)]
  by_cases h : 4 * (12 * o + u) ≤ j ∧ j < 4 * (12 * o + u) + c.1 7 u
  · rw [if_pos ⟨rfl, h⟩, if_pos h]
  · rw [if_neg (fun q => h q.2), if_neg h]
theorem lv21 (j : Nat) : (lvA c o u ab).2.2.1 21 j = if 4 * (12 * o + u) ≤ j ∧ j < 4 * (12 * o + u) + c.1 5 u then c.2.2.1 14 (4 * wo c u + (j - 4 * (12 * o + u))) else c.2.2.1 21 j := by
  show (if (21 : Nat) = 21 ∧ 4 * (12 * o + u) ≤ j ∧ j < 4 * (12 * o + u) + c.1 5 u then c.2.2.1 14 (4 * wo c u + (j - 4 * (12 * o + u))) else if (21 : Nat) = 20 ∧ 4 * (12 * o + u) ≤ j ∧ j < 4 * (12 * o + u) + c.1 7 u then c.2.2.1 9 (4 * u + (j - 4 * (12 * o + u))) else c.2.2.1 21 j) = _
  by_cases h : 4 * (12 * o + u) ≤ j ∧ j < 4 * (12 * o + u) + c.1 5 u
  · rw [if_pos ⟨rfl, h⟩, if_pos h]
  · rw [if_neg (fun q => h q.2), if_neg h, if_neg (by omega)]
end LV
theorem ix12 {x y o u : Nat} (hy : y < 12) (hu : u < 12) (h : 12 * x + y = 12 * o + u) : x = o ∧ y = u := by omega
theorem lvO_s (c : aS) (o u : Nat) (ab : Option Nat) : isO (lvA c o u ab) o u = true := by unfold isO; rw [lv18, if_pos rfl]; rfl
theorem lvO_n {c : aS} {o u : Nat} (ab : Option Nat) {x y : Nat} (hy : y < 12) (hu : u < 12) (h : ¬ (x = o ∧ y = u)) : isO (lvA c o u ab) x y = isO c x y := by unfold isO; rw [lv18, if_neg (fun q => h (ix12 hy hu q))]
theorem lvH_s (c : aS) (o u : Nat) (ab : Option Nat) : hs (lvA c o u ab) o u = c.1 7 u := by unfold hs; rw [lv18, if_pos rfl]; rfl
theorem lvH_n {c : aS} {o u : Nat} (ab : Option Nat) {x y : Nat} (hy : y < 12) (hu : u < 12) (h : ¬ (x = o ∧ y = u)) : hs (lvA c o u ab) x y = hs c x y := by unfold hs; rw [lv18, if_neg (fun q => h (ix12 hy hu q))]
def levG (w : cG) (o u q qc qp : Nat) : cG := (fun k x y => if k = 18 ∧ x = o ∧ y = u then q else if k = 19 ∧ x = o ∧ y = u then qc else if k = 20 ∧ x = o ∧ y = u then qp else w.1 k x y, fun p => if p = q then (18, o, u) else if p = qp then (20, o, u) else if p = qc then (19, o, u) else w.2 p)
section CY
variable {E : hmG} {xa ma b : Nat} {a : aS} {w : cG} {σ : hmS}
theorem RC.copyAhead (h : RC E xa ma b a w σ) (hw : Wt a) {u : Nat} (hu : u < a.1 0 0) : ∃ σ', fX6_copyLocalsAhead E (w.1 5 u 0) σ = some (some (zr E (cpl a u) σ.2), σ') ∧ Ext σ σ' ∧ (cpl a u ≠ 0 → σ.2 < σ'.2 ∧ ∃ c, σ'.1 σ.2 = some c ∧ rowL (cpl a u) (fun i => a.2.2.1 14 (4 * wo a u + i)) c) := by
  have hkd := hw.kd hu
  have e4 : (nI (a.1 1 u) = (4 : Int32)) = (a.1 1 u = 4) := n_eq (y := 4) (by omega) (by decide)
  simp only [fX6_copyLocalsAhead, fX6_copyLocalsAhead_J15, h.t2 hu, ob_some, h.t1 hu, e4]
  cases ho : a.2.1 2 u with
  | none =>
    have h0 : cpl a u = 0 := by
      unfold cpl
      split
      · rfl
      · by_cases hk : a.1 1 u < 3
        · exact hw.a0 hu hk
        · obtain ⟨v, -, hv⟩ := hw.o1 hu (by omega)
          rw [ho] at hv; cases hv
    exact ⟨σ, by simp [mp_n, oc_none, zr, h0], Ext.refl σ, fun q => absurd h0 q⟩
  | some v =>
    have hv := (hw.ou hu ho).1
    have hv' : v < a.1 0 0 := by omega
    have ew : wo a u = v := by simp [wo, ho]
    simp only [mp_s, oc_some]
    by_cases k4 : a.1 1 u = 4
    · have h0 : cpl a u = 0 := by unfold cpl; rw [if_pos k4]
      exact ⟨σ, by simp [k4, zr, h0], Ext.refl σ, fun q => absurd h0 q⟩
    · have h0 : cpl a u = a.1 5 u := by unfold cpl; rw [if_neg k4]
      obtain ⟨σ', e1, x1, c1⟩ := h.copyFirst hw (t := v) (m := a.1 5 u) hv' (hw.ah hu ho)
      rw [h0, ew]
      refine ⟨σ', ?_, x1, c1⟩
      simp only [if_neg k4, h.t8 hv', h.t4 hu, ob_some, h.lC hv', e1, cb_some]
set_option maxHeartbeats 1000000 in
theorem RC.level {o : Nat} (h : RC E xa ma (o + 1) a w σ) (ho : a.1 16 0 = o) (hw : Wt a) (hWo : Wo a (o + 1)) {u : Nat} (hu : u < a.1 0 0) (hno : isO a o u = false) (ab : Option Nat) : ∃ σ6 qc qp, nw σ (.inr (5, [.null, .null, .null, .null])) (fun q1 σ2 => cb (fX3_init E q1 (some (w.1 5 u 0)) (mp w.1 16 ab) σ2) fun _ σ6 => some (q1, σ6)) = some (σ.2, σ6) ∧ Ext σ σ6 ∧ σ.2 < σ6.2 ∧ RC E xa ma (o + 1) (lvA a o u ab) (levG w o u σ.2 qc qp) σ6 ∧ σ.2 < qc ∧ σ.2 < qp ∧ ∃ fs, σ6.1 σ.2 = some (.inr (5, fs)) := by
  have hn := hw.n12
  have hu12 : u < 12 := by omega
  have h7 := hw.nf hu
  have h5 := hw.a4 hu
  -- the new object, and two of its fields
  obtain ⟨σ1, hs1⟩ : ∃ σ1, σ1 = hmN σ (.inr (5, [.null, .null, .null, .null])) := ⟨_, rfl⟩
  have x1 : Ext σ σ1 := by rw [hs1]; exact Ext.new σ _
  have l1 : σ1.2 = σ.2 + 1 := by rw [hs1]; rfl
  have d1 : σ1.1 σ.2 = some (.inr (5, [.null, .null, .null, .null])) := by rw [hs1]; exact hmN_s _ _
  have w1 := wF_of (k := 0) d1 (by simp) (va_rf (some (w.1 5 u 0)))
  obtain ⟨σ2, hs2⟩ : ∃ σ2, σ2 = hmU σ1 σ.2 (.inr (5, [.ref (w.1 5 u 0), .null, .null, .null])) := ⟨_, rfl⟩
  have w1' : wF σ1 σ.2 5 0 (va_rf (some (w.1 5 u 0))) = some σ2 := by rw [w1, hs2]; rfl
  have d2 : σ2.1 σ.2 = some (.inr (5, [.ref (w.1 5 u 0), .null, .null, .null])) := by rw [hs2]; exact hmU_s _ _ _
  have w2 := wF_of (k := 1) d2 (by simp) (va_rf (mp w.1 16 ab))
  obtain ⟨σ3, hs3⟩ : ∃ σ3, σ3 = hmU σ2 σ.2 (.inr (5, [.ref (w.1 5 u 0), va_rf (mp w.1 16 ab), .null, .null])) := ⟨_, rfl⟩
  have w2' : wF σ2 σ.2 5 1 (va_rf (mp w.1 16 ab)) = some σ3 := by rw [w2, hs3]; rfl
  have d3 : σ3.1 σ.2 = some (.inr (5, [.ref (w.1 5 u 0), va_rf (mp w.1 16 ab), .null, .null])) := by rw [hs3]; exact hmU_s _ _ _
  have x3 : Ext σ σ3 := by rw [hs3, hs2]; exact (x1.up (Nat.le_refl _) _).up (Nat.le_refl _) _
  have l3 : σ3.2 = σ.2 + 1 := by rw [hs3, hs2]; exact l1
  have g3 := h.ext x3
  -- its cells
  obtain ⟨σ4, e4, x4, c4⟩ := g3.firstCells hw hu
  rw [l3] at e4 c4
  have d4 : σ4.1 σ.2 = some (.inr (5, [.ref (w.1 5 u 0), va_rf (mp w.1 16 ab), .null, .null])) := by rw [x4.2 _ (by omega)]; exact d3
  obtain ⟨z4, hz4⟩ : ∃ z4, z4 = zr E (a.1 7 u) (σ.2 + 1) := ⟨_, rfl⟩
  rw [← hz4] at e4
  have w4 := wF_of (k := 2) d4 (by simp) (va_rf (some z4))
  obtain ⟨σ5, hs5⟩ : ∃ σ5, σ5 = hmU σ4 σ.2 (.inr (5, [.ref (w.1 5 u 0), va_rf (mp w.1 16 ab), .ref z4, .null])) := ⟨_, rfl⟩
  have w4' : wF σ4 σ.2 5 2 (va_rf (some z4)) = some σ5 := by rw [w4, hs5]; rfl
  have d5 : σ5.1 σ.2 = some (.inr (5, [.ref (w.1 5 u 0), va_rf (mp w.1 16 ab), .ref z4, .null])) := by rw [hs5]; exact hmU_s _ _ _
  have x5 : Ext σ σ5 := by rw [hs5]; exact (x3.trans x4).up (Nat.le_refl _) _
  have l5 : σ5.2 = σ4.2 := by rw [hs5]; rfl
  have l45 : σ.2 < σ5.2 := by have := x4.1; rw [l5]; omega
  have g5 := h.ext x5
  -- its copies
  obtain ⟨σ7, e7, x7, c7⟩ := g5.copyAhead hw hu
  obtain ⟨z7, hz7⟩ : ∃ z7, z7 = zr E (cpl a u) σ5.2 := ⟨_, rfl⟩
  rw [← hz7] at e7
  have d7 : σ7.1 σ.2 = some (.inr (5, [.ref (w.1 5 u 0), va_rf (mp w.1 16 ab), .ref z4, .null])) := by rw [x7.2 _ l45]; exact d5
  have w7 := wF_of (k := 3) d7 (by simp) (va_rf (some z7))
  obtain ⟨σ8, hs8⟩ : ∃ σ8, σ8 = hmU σ7 σ.2 (.inr (5, [.ref (w.1 5 u 0), va_rf (mp w.1 16 ab), .ref z4, .ref z7])) := ⟨_, rfl⟩
  have w7' : wF σ7 σ.2 5 3 (va_rf (some z7)) = some σ8 := by rw [w7, hs8]; rfl
  have d8 : σ8.1 σ.2 = some (.inr (5, [.ref (w.1 5 u 0), va_rf (mp w.1 16 ab), .ref z4, .ref z7])) := by rw [hs8]; exact hmU_s _ _ _
  have x8 : Ext σ σ8 := by rw [hs8]; exact (x5.trans x7).up (Nat.le_refl _) _
  have l8 : σ8.2 = σ7.2 := by rw [hs8]; rfl
  have l58 : σ5.2 ≤ σ8.2 := by rw [l8]; exact x7.1
  have cc : a.1 7 u ≠ 0 → σ.2 + 1 < σ5.2 ∧ ∃ c, σ8.1 (σ.2 + 1) = some c ∧ rowL (a.1 7 u) (fun i => a.2.2.1 9 (4 * u + i)) c := fun hne => by
    obtain ⟨q1, c, q2, q3⟩ := c4 hne
    refine ⟨by rw [l5]; exact q1, c, ?_, q3⟩
    rw [hs8, hmU_n _ _ (by omega), x7.2 _ (by rw [l5]; exact q1), hs5, hmU_n _ _ (by omega)]
    exact q2
  have cp : cpl a u ≠ 0 → σ5.2 < σ8.2 ∧ ∃ c, σ8.1 σ5.2 = some c ∧ rowL (cpl a u) (fun i => a.2.2.1 14 (4 * wo a u + i)) c := fun hne => by
    obtain ⟨q1, c, q2, q3⟩ := c7 hne
    refine ⟨by rw [l8]; exact q1, c, ?_, q3⟩
    rw [hs8, hmU_n _ _ (by omega)]
    exact q2
  refine ⟨σ8, σ.2 + 1, σ5.2, ?_, x8, Nat.lt_of_lt_of_le l45 l58, ?_, Nat.lt_succ_self _, l45, _, d8⟩
  · simp only [nw, ← hs1, fX3_init, w1', ob_some, w2', g3.t7 hu, g3.fC hu, e4, cb_some, w4', g5.tC hu, e7, w7']
  · have key : ∀ k x y, vld (o + 1) a k x y → ¬ (x = o ∧ y = u) ∨ k < 18 ∨ 20 < k → (∀ c, okc E a w.1 k x y c → okc E (lvA a o u ab) (levG w o u σ.2 (σ.2 + 1) σ5.2).1 k x y c) → (vld (o + 1) a k x y ∧ (levG w o u σ.2 (σ.2 + 1) σ5.2).1 k x y = w.1 k x y ∧ σ8.1 (w.1 k x y) = σ.1 (w.1 k x y) ∧ ∀ c, okc E a w.1 k x y c → okc E (lvA a o u ab) (levG w o u σ.2 (σ.2 + 1) σ5.2).1 k x y c) := by
      intro k x y hv hne hok
      refine ⟨hv, ?_, x8.2 _ (h.lt0 hv), hok⟩
      show (if k = 18 ∧ x = o ∧ y = u then σ.2 else if k = 19 ∧ x = o ∧ y = u then σ.2 + 1 else if k = 20 ∧ x = o ∧ y = u then σ5.2 else w.1 k x y) = w.1 k x y
      rw [if_neg (by omega), if_neg (by omega), if_neg (by omega)]
    refine h.step (σ := σ8) x8.1 (fun p hp => x8.2 p (h.outlt hp)) (fun p hp => ?_) h.2.1 (fun k x y hv => ?_)
    · show (if p = σ.2 then _ else if p = σ5.2 then _ else if p = σ.2 + 1 then _ else w.2 p) = w.2 p
      rw [if_neg (by omega), if_neg (by omega), if_neg (by omega)]
    · have ecp : ∀ y, cpl (lvA a o u ab) y = cpl a y := fun y => rfl
      rcases hv with hv | hv | hv | hv | hv | hv | hv | hv
      · refine Or.inl (key k x y (Or.inl hv) (Or.inr (Or.inl (by omega))) (fun c hc => ?_))
        match k, hv.1, hc with
        | 0, _, hc => exact hc
        | 1, _, hc => exact hc
        | 2, _, hc => exact hc
        | 3, _, hc => exact hc
        | 4, _, hc => exact hc
        | k + 5, q, _ => omega
      · refine Or.inl (key k x y (Or.inr (Or.inl hv)) (Or.inr (Or.inl (by omega))) (fun c hc => ?_))
        match k, hv.1, hv.2.1, hc with
        | 0, q, _, _ => omega
        | 1, q, _, _ => omega
        | 2, q, _, _ => omega
        | 3, q, _, _ => omega
        | 4, q, _, _ => omega
        | 5, _, _, hc => exact hc
        | 6, _, _, hc => exact hc
        | 7, _, _, hc => exact hc
        | 8, _, _, hc => exact hc
        | 9, _, _, hc => exact hc
        | 10, _, _, hc => exact hc
        | 11, _, _, hc => exact hc
        | 12, _, _, hc => exact hc
        | 13, _, _, hc => exact hc
        | 14, _, _, hc => exact hc
        | 15, _, _, hc => exact hc
        | k + 16, _, q, _ => omega
      · obtain ⟨hk, hx, rfl⟩ := hv
        have hxo : x < o := by rw [← ho]; exact hx
        rcases hk with rfl | rfl
        · exact Or.inl (key 16 x 0 (vld_o (Or.inl rfl) hx) (Or.inr (Or.inl (by decide))) (fun c hc => hc))
        · refine Or.inl (key 17 x 0 (vld_o (Or.inr rfl) hx) (Or.inr (Or.inl (by decide))) (fun c hc => ?_))
          obtain ⟨l, ⟨f, rfl, q1⟩, q2, q3⟩ := hc
          refine ⟨l, ⟨f, rfl, fun i hi => ?_⟩, q2, fun u' => ?_⟩
          · rw [q1 i hi]
            show some (w.1 18 x (l.getD i 0)) = some (if (18 : Nat) = 18 ∧ x = o ∧ l.getD i 0 = u then σ.2 else if (18 : Nat) = 19 ∧ x = o ∧ _ then _ else if (18 : Nat) = 20 ∧ x = o ∧ _ then _ else w.1 18 x (l.getD i 0))
            rw [if_neg (by omega), if_neg (by omega), if_neg (by omega)]
          · rw [q3 u']
            constructor
            · rintro ⟨z1, z2⟩; exact ⟨z1, by rw [lvO_n ab z1 hu12 (by omega)]; exact z2⟩
            · rintro ⟨z1, z2⟩; exact ⟨z1, by rw [lvO_n ab z1 hu12 (by omega)] at z2; exact z2⟩
      · obtain ⟨rfl, hx, hy, hO⟩ := hv
        by_cases e : x = o ∧ y = u
        · obtain ⟨rfl, rfl⟩ := e
          have e18 : (levG w x y σ.2 (σ.2 + 1) σ5.2).1 18 x y = σ.2 := if_pos ⟨rfl, rfl, rfl⟩
          have d18 : σ8.1 ((levG w x y σ.2 (σ.2 + 1) σ5.2).1 18 x y) = _ := (congrArg σ8.1 e18).trans d8
          refine Or.inr ⟨?_, ?_, _, d18, ?_⟩
          · rw [e18]; exact Nat.lt_of_lt_of_le l45 l58
          · rw [e18]; exact if_pos rfl
          · have e19 : (levG w x y σ.2 (σ.2 + 1) σ5.2).1 19 x y = σ.2 + 1 := by simp [levG]
            have e20 : (levG w x y σ.2 (σ.2 + 1) σ5.2).1 20 x y = σ5.2 := by simp [levG]
            show _ = (Sum.inr (5, [.ref (w.1 5 y 0), va_rf (mp (levG w x y σ.2 (σ.2 + 1) σ5.2).1 16 ((lvA a x y ab).2.1 19 (12 * x + y))), .ref (zr E (hs (lvA a x y ab) x y) ((levG w x y σ.2 (σ.2 + 1) σ5.2).1 19 x y)), .ref (zr E (cpl a y) ((levG w x y σ.2 (σ.2 + 1) σ5.2).1 20 x y))]) : va_E)
            rw [lv19, if_pos rfl, lvH_s, e19, e20, ← hz4, ← hz7]
            cases ab <;> rfl
        · rw [lvO_n ab hy hu12 e] at hO
          refine Or.inl (key 18 x y (vld_18 hx hy hO) (Or.inl e) (fun c hc => ?_))
          show c = (Sum.inr (5, [.ref (w.1 5 y 0), va_rf (mp (levG w o u σ.2 (σ.2 + 1) σ5.2).1 16 ((lvA a o u ab).2.1 19 (12 * x + y))), .ref (zr E (hs (lvA a o u ab) x y) ((levG w o u σ.2 (σ.2 + 1) σ5.2).1 19 x y)), .ref (zr E (cpl a y) ((levG w o u σ.2 (σ.2 + 1) σ5.2).1 20 x y))]) : va_E)
          have e19 : (levG w o u σ.2 (σ.2 + 1) σ5.2).1 19 x y = w.1 19 x y := by simp [levG, e]
          have e20 : (levG w o u σ.2 (σ.2 + 1) σ5.2).1 20 x y = w.1 20 x y := by simp [levG, e]
          rw [lv19, if_neg (fun q => e (ix12 hy hu12 q)), lvH_n ab hy hu12 e, e19, e20, show c = _ from hc]
          cases a.2.1 19 (12 * x + y) <;> rfl
      · obtain ⟨rfl, hx, hy, hO, hne⟩ := hv
        by_cases e : x = o ∧ y = u
        · obtain ⟨rfl, rfl⟩ := e
          rw [lvH_s] at hne
          obtain ⟨q1, c, q2, f, rfl, q3⟩ := cc hne
          have e19 : (levG w x y σ.2 (σ.2 + 1) σ5.2).1 19 x y = σ.2 + 1 := by simp [levG]
          have d19 : σ8.1 ((levG w x y σ.2 (σ.2 + 1) σ5.2).1 19 x y) = _ := (congrArg σ8.1 e19).trans q2
          refine Or.inr ⟨?_, ?_, _, d19, ?_⟩
          · rw [e19]; omega
          · rw [e19]
            show (if σ.2 + 1 = σ.2 then _ else if σ.2 + 1 = σ5.2 then _ else if σ.2 + 1 = σ.2 + 1 then (19, x, y) else _) = _
            rw [if_neg (by omega), if_neg (by omega), if_pos rfl]
          · show rowL (hs (lvA a x y ab) x y) (fun i => (lvA a x y ab).2.2.1 20 (4 * (12 * x + y) + i)) _
            rw [lvH_s]
            refine ⟨f, rfl, fun i hi => ?_⟩
            rw [q3 i hi]
            show a.2.2.1 9 (4 * y + i) = (lvA a x y ab).2.2.1 20 (4 * (12 * x + y) + i)
            rw [lv20, if_pos ⟨by omega, by omega⟩, show 4 * (12 * x + y) + i - 4 * (12 * x + y) = i by omega]
        · rw [lvO_n ab hy hu12 e] at hO
          rw [lvH_n ab hy hu12 e] at hne
          refine Or.inl (key 19 x y (vld_19 hx hy hO hne) (Or.inl e) (fun c hc => ?_))
          show rowL (hs (lvA a o u ab) x y) (fun i => (lvA a o u ab).2.2.1 20 (4 * (12 * x + y) + i)) c
          rw [lvH_n ab hy hu12 e]
          obtain ⟨f, rfl, q3⟩ := hc
          refine ⟨f, rfl, fun i hi => ?_⟩
          have hi4 := hs_le hw hWo hx hy hO
          have hi' : i < hs a x y := hi
          rw [q3 i hi]
          show a.2.2.1 20 (4 * (12 * x + y) + i) = (lvA a o u ab).2.2.1 20 (4 * (12 * x + y) + i)
          rw [lv20, if_neg (fun q => e (by omega))]
      · obtain ⟨rfl, hx, hy, hO, hne⟩ := hv
        rw [ecp] at hne
        by_cases e : x = o ∧ y = u
        · obtain ⟨rfl, rfl⟩ := e
          obtain ⟨q1, c, q2, f, rfl, q3⟩ := cp hne
          have e20 : (levG w x y σ.2 (σ.2 + 1) σ5.2).1 20 x y = σ5.2 := by simp [levG]
          have d20 : σ8.1 ((levG w x y σ.2 (σ.2 + 1) σ5.2).1 20 x y) = _ := (congrArg σ8.1 e20).trans q2
          refine Or.inr ⟨?_, ?_, _, d20, ?_⟩
          · rw [e20]; exact q1
          · rw [e20]
            show (if σ5.2 = σ.2 then _ else if σ5.2 = σ5.2 then (20, x, y) else _) = _
            rw [if_neg (by omega), if_pos rfl]
          · show rowL (cpl a y) (fun i => (lvA a x y ab).2.2.1 21 (4 * (12 * x + y) + i)) _
            have hc5 : cpl a y ≤ a.1 5 y := by unfold cpl; split <;> omega
            refine ⟨f, rfl, fun i hi => ?_⟩
            rw [q3 i hi]
            show a.2.2.1 14 (4 * wo a y + i) = (lvA a x y ab).2.2.1 21 (4 * (12 * x + y) + i)
            rw [lv21, if_pos ⟨by omega, by omega⟩, show 4 * (12 * x + y) + i - 4 * (12 * x + y) = i by omega]
        · rw [lvO_n ab hy hu12 e] at hO
          refine Or.inl (key 20 x y (vld_20 hx hy hO hne) (Or.inl e) (fun c hc => ?_))
          show rowL (cpl a y) (fun i => (lvA a o u ab).2.2.1 21 (4 * (12 * x + y) + i)) c
          obtain ⟨f, rfl, q3⟩ := hc
          refine ⟨f, rfl, fun i hi => ?_⟩
          have hi4 := cpl_le hw (hWo x hx y hy hO).1
          have hi' : i < cpl a y := hi
          rw [q3 i hi]
          show a.2.2.1 21 (4 * (12 * x + y) + i) = (lvA a o u ab).2.2.1 21 (4 * (12 * x + y) + i)
          rw [lv21, if_neg (fun q => e (by omega))]
      · obtain ⟨rfl, hx, rfl⟩ := hv
        exact Or.inl (key 21 x 0 (vld_21 hx) (Or.inr (Or.inr (by decide))) (fun c hc => hc))
      · obtain ⟨rfl, hx, rfl, hne⟩ := hv
        exact Or.inl (key 22 x 0 (vld_22 hx hne) (Or.inr (Or.inr (by decide))) (fun c hc => hc))
end CY
