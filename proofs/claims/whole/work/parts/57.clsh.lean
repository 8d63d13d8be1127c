/-! The class: what is made new; lambdas. -/
def Ext (σ σ' : hmS) : Prop := σ.2 ≤ σ'.2 ∧ ∀ p, p < σ.2 → σ'.1 p = σ.1 p
theorem Ext.refl (σ : hmS) : Ext σ σ := ⟨Nat.le_refl _, fun _ _ => rfl⟩
theorem Ext.trans {σ σ' σ'' : hmS} (h : Ext σ σ') (h' : Ext σ' σ'') : Ext σ σ'' := ⟨Nat.le_trans h.1 h'.1, fun p hp => (h'.2 p (Nat.lt_of_lt_of_le hp h.1)).trans (h.2 p hp)⟩
theorem Ext.new (σ : hmS) (e : va_E) : Ext σ (hmN σ e) := ⟨Nat.le_succ _, fun p hp => va_up_ne _ _ (by omega)⟩
theorem Ext.up {σ0 σ : hmS} (h : Ext σ0 σ) {q : Nat} (hq : σ0.2 ≤ q) (e : va_E) : Ext σ0 (hmU σ q e) := ⟨h.1, fun p hp => by rw [hmU_n σ e (by omega)]; exact h.2 p hp⟩
theorem hmN_s (σ : hmS) (e : va_E) : (hmN σ e).1 σ.2 = some e := va_up_self _ _ _
section CX
variable {E : hmG} {xa ma b : Nat} {a : aS} {w : cG} {σ0 σ : hmS}
theorem RC.outlt (h : RC E xa ma b a w σ) {p : Nat} (hp : outS E ma p) : p < σ.2 := by
  have h1 := h.2.2.2.1.2.2.2.2
  have h2 := h.2.2.2.2
  rcases hp with hp | hp <;> omega
theorem RC.step (h : RC E xa ma b a w σ0) {b' : Nat} {a' : aS} {w' : cG} (hle : σ0.2 ≤ σ.2) (hout : ∀ p, outS E ma p → σ.1 p = σ0.1 p) (hw2 : ∀ p, p < σ0.2 → w'.2 p = w.2 p) (hw0 : w'.1 0 0 0 = xa) (hit : ∀ k x y, vld b' a' k x y → (vld b a k x y ∧ w'.1 k x y = w.1 k x y ∧ σ.1 (w.1 k x y) = σ0.1 (w.1 k x y) ∧ ∀ c, okc E a w.1 k x y c → okc E a' w'.1 k x y c) ∨ (w'.1 k x y < σ.2 ∧ w'.2 (w'.1 k x y) = (k, x, y) ∧ ∃ c, σ.1 (w'.1 k x y) = some c ∧ okc E a' w'.1 k x y c)) : RC E xa ma b' a' w' σ := by
  refine ⟨fun k x y hv => ?_, hw0, fun p hp => (hw2 p (h.outlt hp)).trans (h.2.2.1 p hp), stt_fr h.2.2.2.1 ⟨hle, hout⟩, Nat.le_trans h.2.2.2.2 hle⟩
  rcases hit k x y hv with ⟨h1, h2, h3, h4⟩ | h1
  · obtain ⟨g1, g2, c, g3, g4⟩ := h.1 k x y h1
    rw [h2]
    exact ⟨Nat.lt_of_lt_of_le g1 hle, (hw2 _ g1).trans g2, c, h3.trans g3, h4 c g4⟩
  · exact h1
theorem RC.ext (h : RC E xa ma b a w σ0) (hx : Ext σ0 σ) : RC E xa ma b a w σ := h.step hx.1 (fun p hp => hx.2 p (h.outlt hp)) (fun _ _ => rfl) h.2.1 (fun k x y hv => Or.inl ⟨hv, rfl, hx.2 _ (h.1 k x y hv).1, fun _ hc => hc⟩)
theorem RC.frx (h : RC E xa ma b a w σ0) (hx : Ext σ0 σ) : Fr E ma σ0 σ := ⟨hx.1, fun p hp => hx.2 p (h.outlt hp)⟩
/-- copies of the first n of a row of longs -/
theorem cx_copy {p m n : Nat} {f : Nat → Int64} (hc : σ.1 p = some (.inl (1, m, .inr (.inl f)))) (hp : p < σ.2) (hm : m ≤ 4) (hn : n ≤ m) : ∃ σ', fJ7_copyOf_c38d5 (some p) (nI n) σ = some (some σ.2, σ') ∧ Ext σ σ' ∧ σ.2 < σ'.2 ∧ ∃ c, σ'.1 σ.2 = some c ∧ rowL n f c := by
  unfold fJ7_copyOf_c38d5
  rw [ob_some, aN_of hc, ob_some]
  simp only [n_eq (show n < 100000 by omega) (show m < 100000 by omega)]
  by_cases e : n = m
  · subst e
    have e1 : clA σ 1 p 8 = some (σ.2, hmN σ (.inl (1, n, .inr (.inl f)))) := by
      unfold clA
      rw [hc]
      show (if (1 : Nat) = 1 ∧ ((1 : Nat) = 1 ∨ (1 : Nat) = 3) ∧ n ≤ 8 ∧ _ then _ else none) = _
      rw [if_pos ⟨rfl, Or.inl rfl, by omega, List.all_eq_true.mpr (fun i _ => rfl)⟩]
    have e2 : arK (hmN σ (.inl (1, n, .inr (.inl f)))) σ.2 1 = some () := by
      unfold arK
      rw [hmN_s]
      rfl
    refine ⟨_, ?_, Ext.new σ _, Nat.lt_succ_self _, _, hmN_s _ _, f, rfl, fun i _ => rfl⟩
    rw [if_pos rfl, e1, cb_some, e2, ob_some]
  · have e1 : nA σ 1 (.inr (.inl (fun _ => 0))) 8 (nI n) = some (σ.2, hmN σ (.inl (1, n, .inr (.inl (fun _ => 0))))) := by
      unfold nA
      rw [if_pos ⟨n_nn (by omega), by rw [nI_clamp (by omega)]; omega⟩, nI_clamp (by omega)]
    have e3 : aN (hmN σ (.inl (1, n, .inr (.inl (fun _ => 0))))) p = some (nI m) := aN_of (by rw [(Ext.new σ (.inl (1, n, .inr (.inl (fun _ => 0))))).2 p hp]; exact hc)
    have e4 : fJ9_min_7cf53 (nI m) (nI n) (hmN σ (.inl (1, n, .inr (.inl (fun _ => 0))))) = some (nI n, hmN σ (.inl (1, n, .inr (.inl (fun _ => 0))))) := by
      unfold fJ9_min_7cf53
      rw [if_pos (by rw [n_lt (by omega) (by omega)]; omega)]
    have e5 : cpL (hmN σ (.inl (1, n, .inr (.inl (fun _ => 0))))) p (0 : Int32) σ.2 (0 : Int32) (nI n) = some (hmU (hmN σ (.inl (1, n, .inr (.inl (fun _ => 0))))) σ.2 (.inl (1, n, .inr (.inl (va_cpy f (fun _ => 0) 0 0 n))))) := by
      unfold cpL
      rw [(Ext.new σ (.inl (1, n, .inr (.inl (fun _ => 0))))).2 p hp, hc, hmN_s]
      show (if hmB 1 = 1 ∧ (1 : Nat) = 1 ∧ ¬ (0 : Int32) < 0 ∧ ¬ (0 : Int32) < 0 ∧ ¬ nI n < 0 ∧ 0 + (nI n).toNatClampNeg ≤ m ∧ 0 + (nI n).toNatClampNeg ≤ n then some (hmU _ σ.2 (.inl (1, n, .inr (.inl (va_cpy f (fun _ => 0) 0 0 (nI n).toNatClampNeg))))) else none) = _
      rw [nI_clamp (show n < 2 ^ 31 by omega), if_pos ⟨rfl, rfl, by decide, by decide, n_nn (by omega), by omega, by omega⟩]
    refine ⟨hmU (hmN σ (.inl (1, n, .inr (.inl (fun _ => 0))))) σ.2 (.inl (1, n, .inr (.inl (va_cpy f (fun _ => 0) 0 0 n)))), ?_, (Ext.new σ (.inl (1, n, .inr (.inl (fun _ => 0))))).up (Nat.le_refl _) _, Nat.lt_succ_self _, _, hmU_s _ _ _, va_cpy f (fun _ => 0) 0 0 n, rfl, fun i hi => ?_⟩
    · rw [if_neg e, e1, cb_some, e3, ob_some, e4, cb_some, e5, ob_some]
    · simp [va_cpy, hi]
theorem RC.copyFirst (h : RC E xa ma b a w σ) (hw : Wt a) {t m : Nat} (ht : t < a.1 0 0) (hm : m ≤ a.1 12 t) : ∃ σ', fX4_copyOfFirst E (w.1 10 t 0) (nI m) σ = some (some (zr E m σ.2), σ') ∧ Ext σ σ' ∧ (m ≠ 0 → σ.2 < σ'.2 ∧ ∃ c, σ'.1 σ.2 = some c ∧ rowL m (fun i => a.2.2.1 14 (4 * t + i)) c) := by
  have h7 := hw.nl ht
  have hmin : fJ9_min_7cf53 (nI m) (nI (a.1 12 t)) σ = some (nI m, σ) := by
    unfold fJ9_min_7cf53
    split
    · rename_i hlt
      rw [n_lt (by omega) (by omega)] at hlt
      omega
    · rfl
  have e0 : ((0 : Int32) < nI m) = (0 < m) := n_lt (x := 0) (by decide) (by omega)
  simp only [fX4_copyOfFirst, h.l3 ht, ob_some, hmin, cb_some, e0]
  by_cases h0 : m = 0
  · refine ⟨σ, ?_, Ext.refl σ, fun q => absurd h0 q⟩
    rw [if_neg (by omega)]
    simp [zr, h0]
  · have hv : vld b a 12 t 0 := vld_t (by decide) (by decide) ht
    obtain ⟨c, g1, f, rfl, g2⟩ := h.cell hv
    obtain ⟨σ', e1, x1, l1, c, c1, f', rfl, c2⟩ := cx_copy g1 (h.1 _ _ _ hv).1 (Nat.le_refl 4) (show m ≤ 4 by omega)
    refine ⟨σ', ?_, x1, fun _ => ⟨l1, _, c1, f', rfl, fun i hi => by rw [c2 i hi, g2 i (by omega)]⟩⟩
    rw [if_pos (by omega), h.l1 ht, ob_some, e1, cb_some]
    simp [zr, h0]
theorem RC.firstCells (h : RC E xa ma b a w σ) (hw : Wt a) {t : Nat} (ht : t < a.1 0 0) : ∃ σ', fX1_firstCells E (w.1 6 t 0) σ = some (some (zr E (a.1 7 t) σ.2), σ') ∧ Ext σ σ' ∧ (a.1 7 t ≠ 0 → σ.2 < σ'.2 ∧ ∃ c, σ'.1 σ.2 = some c ∧ rowL (a.1 7 t) (fun i => a.2.2.1 9 (4 * t + i)) c) := by
  have h7 := hw.nf ht
  have e0 : ((0 : Int32) < nI (a.1 7 t)) = (0 < a.1 7 t) := n_lt (x := 0) (by decide) (by omega)
  simp only [fX1_firstCells, h.f3 ht, ob_some, e0]
  by_cases h0 : a.1 7 t = 0
  · refine ⟨σ, ?_, Ext.refl σ, fun q => absurd h0 q⟩
    rw [if_neg (by omega)]
    simp [zr, h0]
  · have hv : vld b a 8 t 0 := vld_t (by decide) (by decide) ht
    obtain ⟨c, g1, f, rfl, g2⟩ := h.cell hv
    obtain ⟨σ', e1, x1, l1, c, c1, f', rfl, c2⟩ := cx_copy g1 (h.1 _ _ _ hv).1 (Nat.le_refl 4) (show a.1 7 t ≤ 4 by omega)
    refine ⟨σ', ?_, x1, fun _ => ⟨l1, _, c1, f', rfl, fun i hi => by rw [c2 i hi, g2 i (by omega)]⟩⟩
    rw [if_pos (by omega), h.f1 ht, ob_some, e1, cb_some]
    simp [zr, h0]
theorem RC.lt0 (h : RC E xa ma b a w σ) {k x y : Nat} (hv : vld b a k x y) : w.1 k x y < σ.2 := (h.1 k x y hv).1
theorem cx_lamN (L : Nat) (n : Nat) (hn : n ≤ 4) (j i : Nat) (hj : j ≠ L) (hi : i < 4) : ¬ (4 * L ≤ 4 * j + i ∧ 4 * j + i < 4 * L + n) := by omega
def lamG (w : cG) (L q : Nat) : cG := (fun k x y => if k = 21 ∧ x = L then q else if k = 22 ∧ x = L then q + 1 else w.1 k x y, fun p => if p = q then (21, L, 0) else if p = q + 1 then (22, L, 0) else w.2 p)
set_option maxHeartbeats 1000000 in
theorem cd_lambda (hi : Iv a) (h : RC E xa ma (a.1 16 0) a w σ) (x y : Int32) : CC E xa ma (sp_lambda a x y).2 (sp_lambda a x y).1 σ (fX7_lambda E xa x y σ) := by
  obtain ⟨hbd, hw, hc, hO, hq, hz⟩ := id hi
  have hn := hw.n12
  unfold sp_lambda
  cases hx : ix x 8 with
  | none => exact CC.here h (by simp [fX7_lambda, cm_isPlace, cb_some, hx, b2])
  | some p =>
    obtain ⟨hp, rfl⟩ := ix_s hx (by decide)
    dsimp only
    cases ho : a.2.1 22 p with
    | none => exact CC.here h (by simp [fX7_lambda, cm_isPlace, cb_some, hx, b2, h.m2, ob_some, h.plA hp, ho, mp_n, oc_none])
    | some o =>
      have h1 := hq.2.2.1 p hp o ho
      obtain ⟨h2, h2'⟩ := hq.2.1 o h1
      have hnl := hw.nl h2
      have h23 := hq.2.2.2.1
      dsimp only
      cases hy : ix y (a.1 12 (a.1 17 o) + 1) with
      | none =>
        refine CC.here h ?_
        simp only [fX7_lambda, cm_isPlace, cb_some, hx, b2_0, Option.isSome_some, Bool.true_eq_false, if_false, h.m2, ob_some, h.plA hp, ho, mp_s, oc_some, h.o0 h1, h.t8 h2, h.l3 h2, reduceCtorEq]
        rcases ix_n hy (by omega) with q | q
        · rw [if_pos q]
        · split
          · rfl
          · rename_i h0
            obtain ⟨j, hj, rfl⟩ := nI_of h0
            have hj' : a.1 12 (a.1 17 o) + 1 ≤ j := (nI_leI (by omega) hj).mp q
            rw [if_neg (fun z => by have := (nI_leI hj (by omega)).mp z; omega)]
      | some n =>
        obtain ⟨hm, rfl⟩ := ix_s hy (by omega)
        have e6 : (nI (a.1 23 0) < (6 : Int32)) = (a.1 23 0 < 6) := n_lt (y := 6) (by omega) (by decide)
        have e0 : (nI (a.1 11 (a.1 17 o)) = (0 : Int32)) = (a.1 11 (a.1 17 o) = 0) := n_eq (y := 0) (Nat.lt_trans (hbd.1 11 _) (by decide)) (by decide)
        simp only [fX7_lambda, cm_isPlace, cb_some, hx, b2_0, Option.isSome_some, Bool.true_eq_false, if_false, h.m2, ob_some, h.plA hp, ho, mp_s, oc_some, h.o0 h1, h.t8 h2, h.l3 h2, reduceCtorEq, if_neg (n_nn (show n < 100000 by omega)), n_le (show n < 100000 by omega) (show a.1 12 (a.1 17 o) < 100000 by omega), if_pos (show n ≤ a.1 12 (a.1 17 o) by omega), h.m5, e6, h.t9 h2, e0]
        by_cases h6 : a.1 23 0 = 6
        · simp only [if_pos h6, if_neg (show ¬ a.1 23 0 < 6 by omega)]; exact CC.here h rfl
        · have hL : a.1 23 0 < 6 := by omega
          simp only [if_neg h6, if_pos hL]
          -- the making
          have main : ∀ ob : Option Nat, (∀ r, ob = some r → r < a.1 16 0) → CC E xa ma (lamA a (a.1 17 o) ob n) (nI (a.1 23 0)) σ (fX7_lambda_J72 E xa (nI p) (nI n) (w.1 5 (a.1 17 o) 0) (mp w.1 16 ob) σ) := by
            intro ob hob
            have x1 := Ext.new σ (.inr (4, [.null, .null, .null]))
            have g1 := h.ext x1
            obtain ⟨σ2, e2, x2, c2⟩ := g1.copyFirst hw (t := a.1 17 o) (m := n) h2 (by omega)
            have s2 : (hmN σ (.inr (4, [.null, .null, .null]))).2 = σ.2 + 1 := rfl
            have d0 : σ2.1 σ.2 = some (.inr (4, [.null, .null, .null])) := by rw [x2.2 σ.2 (Nat.lt_succ_self _)]; exact hmN_s _ _
            have hx12 : Ext σ σ2 := x1.trans x2
            obtain ⟨z, hzz⟩ : ∃ z, z = zr E n (σ.2 + 1) := ⟨_, rfl⟩
            rw [s2, ← hzz] at e2
            have w1 := wF_of (k := 0) d0 (by simp) (va_rf (some (w.1 5 (a.1 17 o) 0)))
            have w2 := wF_of (σ := hmU σ2 σ.2 (.inr (4, [.ref (w.1 5 (a.1 17 o) 0), .null, .null]))) (k := 1) (hmU_s _ _ _) (by simp) (va_rf (mp w.1 16 ob))
            have w3 := wF_of (σ := hmU (hmU σ2 σ.2 (.inr (4, [.ref (w.1 5 (a.1 17 o) 0), .null, .null]))) σ.2 (.inr (4, [.ref (w.1 5 (a.1 17 o) 0), va_rf (mp w.1 16 ob), .null]))) (k := 2) (hmU_s _ _ _) (by simp) (va_rf (some z))
            obtain ⟨σ3, hs3⟩ : ∃ σ3, σ3 = hmU (hmU (hmU σ2 σ.2 (.inr (4, [.ref (w.1 5 (a.1 17 o) 0), .null, .null]))) σ.2 (.inr (4, [.ref (w.1 5 (a.1 17 o) 0), va_rf (mp w.1 16 ob), .null]))) σ.2 (.inr (4, [.ref (w.1 5 (a.1 17 o) 0), va_rf (mp w.1 16 ob), .ref z])) := ⟨_, rfl⟩
            have ei : fX2_init σ.2 (some (w.1 5 (a.1 17 o) 0)) (mp w.1 16 ob) (some z) σ2 = some ((), σ3) := by
              unfold fX2_init
              rw [w1]
              simp only [ob_some, List.set]
              rw [show (va_rf (some (w.1 5 (a.1 17 o) 0))) = .ref (w.1 5 (a.1 17 o) 0) from rfl, w2]
              simp only [ob_some, List.set]
              rw [w3, hs3]
              rfl
            have x3 : Ext σ σ3 := by rw [hs3]; exact ((hx12.up (Nat.le_refl _) _).up (Nat.le_refl _) _).up (Nat.le_refl _) _
            have d3 : σ3.1 σ.2 = some (.inr (4, [.ref (w.1 5 (a.1 17 o) 0), va_rf (mp w.1 16 ob), .ref z])) := by rw [hs3]; exact hmU_s _ _ _
            have l3 : σ3.2 = σ2.2 := by rw [hs3]; rfl
            have cc3 : n ≠ 0 → σ.2 + 1 < σ3.2 ∧ ∃ c, σ3.1 (σ.2 + 1) = some c ∧ rowL n (fun i => a.2.2.1 14 (4 * a.1 17 o + i)) c := fun hne => by
              obtain ⟨q1, c, q2, q3⟩ := c2 hne
              refine ⟨by rw [l3]; exact q1, c, ?_, q3⟩
              rw [hs3, hmU_n _ _ (by omega), hmU_n _ _ (by omega), hmU_n _ _ (by omega)]
              exact q2
            have hl23 : σ.2 < σ3.2 := by rw [l3]; exact Nat.lt_of_lt_of_le (Nat.lt_succ_self _) x2.1
            have g3 := h.ext x3
            -- the row of lambdas
            have hv3 : vld (a.1 16 0) a 3 0 0 := vld_0 (by decide)
            obtain ⟨c, q1, f, rfl, q2⟩ := g3.cell hv3
            have hk : okR σ3 (hmC 6) (some σ.2) = true := okR_of d3
            have es := sR_of q1 (by decide) (by decide) hL (by decide) hk
            obtain ⟨σ4, hs4⟩ : ∃ σ4, σ4 = hmU σ3 (w.1 3 0 0) (.inl (6, 6, .inr (.inr (.inr (.inr (va_up f (a.1 23 0) (some σ.2))))))) := ⟨_, rfl⟩
            rw [← hs4] at es
            have g4 : RC E xa ma (a.1 16 0) a w σ4 := by
              rw [hs4]
              exact g3.one hv3 (fun _ _ _ q => q) (fun _ _ _ _ _ _ hc => hc) ⟨_, rfl, fun j hj => by
                rw [va_up_ne _ _ (by omega)]; exact q2 j hj⟩
            -- the number of them
            have em := wF_of (k := 5) g4.c0 (by simp) (.int (nI (a.1 23 0 + 1)))
            obtain ⟨σ5, hs5⟩ : ∃ σ5, σ5 = hmU σ4 xa (.inr (9, [.ref (w.1 1 0 0), .int (nI (a.1 0 0)), .ref (w.1 2 0 0), .int (nI (a.1 16 0)), .ref (w.1 3 0 0), .int (nI (a.1 23 0 + 1)), .ref (w.1 4 0 0), .int a.2.2.2])) := ⟨_, rfl⟩
            have em' : wF σ4 xa 9 5 (.int (nI (a.1 23 0 + 1))) = some σ5 := by rw [em, hs5]; rfl
            have d5 : σ5.1 xa = some (.inr (9, [.ref (w.1 1 0 0), .int (nI (a.1 0 0)), .ref (w.1 2 0 0), .int (nI (a.1 16 0)), .ref (w.1 3 0 0), .int (nI (a.1 23 0 + 1)), .ref (w.1 4 0 0), .int a.2.2.2])) := by rw [hs5]; exact hmU_s _ _ _
            have e5 : gI σ5 xa 9 5 = some (nI (a.1 23 0 + 1)) := gI_of d5 rfl
            have n3 : w.1 3 0 0 < σ.2 := h.lt0 hv3
            have n0 : xa < σ.2 := by have := h.lt0 (vld_0 (k := 0) (by decide)); rw [h.2.1] at this; exact this
            have n30 : w.1 3 0 0 ≠ xa := fun q => by
              rw [← h.2.1] at q
              have := (h.inj hv3 (vld_0 (k := 0) (by decide)) q).1
              omega
            have hkeep : ∀ q, q ≠ w.1 3 0 0 → q ≠ xa → σ5.1 q = σ3.1 q := fun q q3 q0 => by rw [hs5, hmU_n _ _ q0, hs4, hmU_n _ _ q3]
            refine ⟨lamG w (a.1 23 0) σ.2, σ5, ?_, ?_, ?_⟩
            · simp only [fX7_lambda_J72, h.m4, h.m5, ob_some, nw, g1.t8 h2, g1.lC h2, e2, cb_some, ei, es, g4.m5, n_s, em', e5, nI_pred]
            · refine h.step (σ := σ5) ?_ ?_ ?_ ?_ ?_
              · rw [hs5]; show σ.2 ≤ (hmU σ4 _ _).2; rw [hs4]; exact Nat.le_of_lt hl23
              · intro q hq'
                have hlt := h.outlt hq'
                rw [hkeep q (fun e => h.out hv3 (e ▸ hq')) (fun e => h.out (vld_0 (k := 0) (by decide)) (by rw [h.2.1, ← e]; exact hq'))]
                exact x3.2 q hlt
              · intro q hq'
                show (if q = σ.2 then _ else if q = σ.2 + 1 then _ else w.2 q) = w.2 q
                rw [if_neg (by omega), if_neg (by omega)]
              · exact h.2.1
              · intro k x y hv
                have e23 : (lamA a (a.1 17 o) ob n).1 23 0 = a.1 23 0 + 1 := by simp [lamA, aN_, aP_, blk, up2]
                have e26 : ∀ j, j ≠ a.1 23 0 → (lamA a (a.1 17 o) ob n).1 26 j = a.1 26 j := fun j hj => by simp [lamA, aN_, aP_, blk, up2, hj]
                have e24 : ∀ j, j ≠ a.1 23 0 → (lamA a (a.1 17 o) ob n).1 24 j = a.1 24 j := fun j hj => by simp [lamA, aN_, aP_, blk, up2, hj]
                have e25 : ∀ j, j ≠ a.1 23 0 → (lamA a (a.1 17 o) ob n).2.1 25 j = a.2.1 25 j := fun j hj => by simp [lamA, aN_, aP_, blk, up2, hj]
                have k26 : (lamA a (a.1 17 o) ob n).1 26 (a.1 23 0) = n := by simp [lamA, aN_, aP_, blk, up2]
                have k24 : (lamA a (a.1 17 o) ob n).1 24 (a.1 23 0) = a.1 17 o := by simp [lamA, aN_, aP_, blk, up2]
                have k25 : (lamA a (a.1 17 o) ob n).2.1 25 (a.1 23 0) = ob := by simp [lamA, aN_, aP_, blk, up2]
                have old : vld (a.1 16 0) a k x y → k ≠ 0 → k ≠ 3 → k ≠ 21 → k ≠ 22 → (vld (a.1 16 0) a k x y ∧ (lamG w (a.1 23 0) σ.2).1 k x y = w.1 k x y ∧ σ5.1 (w.1 k x y) = σ.1 (w.1 k x y) ∧ ∀ c, okc E a w.1 k x y c → okc E (lamA a (a.1 17 o) ob n) (lamG w (a.1 23 0) σ.2).1 k x y c) := fun hv' k0 k3 k21 k22 => ⟨hv', by
                    show (if k = 21 ∧ x = a.1 23 0 then σ.2 else if k = 22 ∧ x = a.1 23 0 then σ.2 + 1 else w.1 k x y) = w.1 k x y
                    rw [if_neg (fun q => k21 q.1), if_neg (fun q => k22 q.1)], by
                    rw [hkeep _ (fun e => k3 (h.inj hv' hv3 e).1) (fun e => k0 (h.inj hv' (vld_0 (k := 0) (by decide)) (e.trans h.2.1.symm)).1)]
                    exact x3.2 _ (h.lt0 hv'), fun c hc => by
                    match k, k0, k3, k21, k22, hc with
                    | 0, k0, _, _, _, _ => exact absurd rfl k0
                    | 1, _, _, _, _, hc => exact hc
                    | 2, _, _, _, _, hc => exact hc
                    | 3, _, k3, _, _, _ => exact absurd rfl k3
                    | 4, _, _, _, _, hc => exact hc
                    | 5, _, _, _, _, hc => exact hc
                    | 6, _, _, _, _, hc => exact hc
                    | 7, _, _, _, _, hc => exact hc
                    | 8, _, _, _, _, hc => exact hc
                    | 9, _, _, _, _, hc => exact hc
                    | 10, _, _, _, _, hc => exact hc
                    | 11, _, _, _, _, hc => exact hc
                    | 12, _, _, _, _, hc => exact hc
                    | 13, _, _, _, _, hc => exact hc
                    | 14, _, _, _, _, hc => exact hc
                    | 15, _, _, _, _, hc => exact hc
                    | 16, _, _, _, _, hc => exact hc
                    | 17, _, _, _, _, hc => exact hc
                    | 18, _, _, _, _, hc => exact hc
                    | 19, _, _, _, _, hc => exact hc
                    | 20, _, _, _, _, hc => exact hc
                    | 21, _, _, k21, _, _ => exact absurd rfl k21
                    | 22, _, _, _, k22, _ => exact absurd rfl k22
                    | _ + 23, _, _, _, _, hc => exact hc.elim⟩
                rcases hv with hv | hv | hv | hv | hv | hv | hv | hv
                · obtain ⟨hk5, rfl, rfl⟩ := hv
                  by_cases k0 : k = 0
                  · subst k0
                    have d5' : σ5.1 ((lamG w (a.1 23 0) σ.2).1 0 0 0) = _ := (congrArg σ5.1 h.2.1).trans d5
                    refine Or.inr ⟨?_, ?_, _, d5', ?_⟩
                    · show w.1 0 0 0 < _; rw [h.2.1, hs5]; show xa < (hmU σ4 _ _).2; rw [hs4]; exact Nat.lt_of_lt_of_le n0 (Nat.le_of_lt hl23)
                    · show (if w.1 0 0 0 = σ.2 then _ else if w.1 0 0 0 = σ.2 + 1 then _ else w.2 (w.1 0 0 0)) = _
                      rw [h.2.1, if_neg (by omega), if_neg (by omega), ← h.2.1]; exact (h.1 0 0 0 (vld_0 (by decide))).2.1
                    · show _ = (Sum.inr (9, [.ref (w.1 1 0 0), .int (nI (a.1 0 0)), .ref (w.1 2 0 0), .int (nI (a.1 16 0)), .ref (w.1 3 0 0), .int (nI ((lamA a (a.1 17 o) ob n).1 23 0)), .ref (w.1 4 0 0), .int a.2.2.2]) : va_E)
                      rw [e23]
                  · by_cases k3 : k = 3
                    · subst k3
                      refine Or.inr ⟨?_, ?_, _, ?_, va_up f (a.1 23 0) (some σ.2), rfl, fun j hj => ?_⟩
                      · show w.1 3 0 0 < _; rw [hs5]; show _ < (hmU σ4 _ _).2; rw [hs4]; exact Nat.lt_of_lt_of_le n3 (Nat.le_of_lt hl23)
                      · show (if w.1 3 0 0 = σ.2 then _ else if w.1 3 0 0 = σ.2 + 1 then _ else w.2 (w.1 3 0 0)) = _
                        rw [if_neg (by omega), if_neg (by omega)]; exact (h.1 3 0 0 hv3).2.1
                      · show σ5.1 (w.1 3 0 0) = _; rw [hs5, hmU_n _ _ n30, hs4]; exact hmU_s _ _ _
                      · rw [e23] at hj
                        show _ = some (if (21 : Nat) = 21 ∧ j = a.1 23 0 then σ.2 else if (21 : Nat) = 22 ∧ j = a.1 23 0 then σ.2 + 1 else w.1 21 j 0)
                        by_cases hj' : j = a.1 23 0
                        · rw [hj', va_up_self, if_pos ⟨rfl, rfl⟩]
                        · rw [va_up_ne _ _ hj', if_neg (fun q => hj' q.2), if_neg (fun q => hj' q.2)]
                          exact q2 j (by omega)
                    · exact Or.inl (old (Or.inl ⟨hk5, rfl, rfl⟩) k0 k3 (by omega) (by omega))
                · exact Or.inl (old (Or.inr (Or.inl hv)) (by omega) (by omega) (by omega) (by omega))
                · exact Or.inl (old (Or.inr (Or.inr (Or.inl hv))) (by omega) (by omega) (by omega) (by omega))
                · exact Or.inl (old (Or.inr (Or.inr (Or.inr (Or.inl hv)))) (by omega) (by omega) (by omega) (by omega))
                · exact Or.inl (old (Or.inr (Or.inr (Or.inr (Or.inr (Or.inl hv))))) (by omega) (by omega) (by omega) (by omega))
                · exact Or.inl (old (Or.inr (Or.inr (Or.inr (Or.inr (Or.inr (Or.inl hv)))))) (by omega) (by omega) (by omega) (by omega))
                · obtain ⟨rfl, hj, rfl⟩ := hv
                  rw [e23] at hj
                  by_cases hj' : x = a.1 23 0
                  · subst hj'
                    have e21 : (lamG w (a.1 23 0) σ.2).1 21 (a.1 23 0) 0 = σ.2 := if_pos ⟨rfl, rfl⟩
                    have d21 : σ5.1 ((lamG w (a.1 23 0) σ.2).1 21 (a.1 23 0) 0) = _ := (congrArg σ5.1 e21).trans ((hkeep _ (by omega) (by omega)).trans d3)
                    refine Or.inr ⟨?_, ?_, _, d21, ?_⟩
                    · show (if (21 : Nat) = 21 ∧ a.1 23 0 = a.1 23 0 then σ.2 else _) < _
                      rw [if_pos ⟨rfl, rfl⟩, hs5]; show _ < (hmU σ4 _ _).2; rw [hs4]; exact hl23
                    · rw [e21]; exact if_pos rfl
                    · show _ = (Sum.inr (4, [.ref (w.1 5 ((lamA a (a.1 17 o) ob n).1 24 (a.1 23 0)) 0), va_rf (mp _ 16 ((lamA a (a.1 17 o) ob n).2.1 25 (a.1 23 0))), .ref (zr E ((lamA a (a.1 17 o) ob n).1 26 (a.1 23 0)) (if (22 : Nat) = 21 ∧ a.1 23 0 = a.1 23 0 then σ.2 else if (22 : Nat) = 22 ∧ a.1 23 0 = a.1 23 0 then σ.2 + 1 else w.1 22 (a.1 23 0) 0))]) : va_E)
                      rw [k24, k25, k26, if_neg (by omega), if_pos ⟨rfl, rfl⟩, ← hzz]
                      cases ob <;> rfl
                  · have hjl : x < a.1 23 0 := by omega
                    refine Or.inl ⟨vld_21 hjl, ?_, ?_, fun c hc => ?_⟩
                    · show (if (21 : Nat) = 21 ∧ x = a.1 23 0 then σ.2 else if (21 : Nat) = 22 ∧ x = a.1 23 0 then σ.2 + 1 else w.1 21 x 0) = w.1 21 x 0
                      rw [if_neg (fun q => hj' q.2), if_neg (fun q => hj' q.2)]
                    · rw [hkeep _ (fun e => by have := (h.inj (vld_21 hjl) hv3 e).1; omega) (fun e => by have := (h.inj (vld_21 hjl) (vld_0 (k := 0) (by decide)) (e.trans h.2.1.symm)).1; omega)]
                      exact x3.2 _ (h.lt0 (vld_21 hjl))
                    · show c = (Sum.inr (4, [.ref (w.1 5 ((lamA a (a.1 17 o) ob n).1 24 x) 0), va_rf (mp _ 16 ((lamA a (a.1 17 o) ob n).2.1 25 x)), .ref (zr E ((lamA a (a.1 17 o) ob n).1 26 x) (if (22 : Nat) = 21 ∧ x = a.1 23 0 then σ.2 else if (22 : Nat) = 22 ∧ x = a.1 23 0 then σ.2 + 1 else w.1 22 x 0))]) : va_E)
                      rw [e24 x hj', e25 x hj', e26 x hj', if_neg (by omega), if_neg (fun q => hj' q.2)]
                      rw [show c = _ from hc]
                      cases a.2.1 25 x <;> rfl
                · obtain ⟨rfl, hj, rfl, hne⟩ := hv
                  rw [e23] at hj
                  by_cases hj' : x = a.1 23 0
                  · subst hj'
                    rw [k26] at hne
                    obtain ⟨q3, c, q4, f', rfl, q5⟩ := cc3 hne
                    have e22 : (lamG w (a.1 23 0) σ.2).1 22 (a.1 23 0) 0 = σ.2 + 1 := by simp [lamG]
                    have d22 : σ5.1 ((lamG w (a.1 23 0) σ.2).1 22 (a.1 23 0) 0) = _ := (congrArg σ5.1 e22).trans ((hkeep _ (by omega) (by omega)).trans q4)
                    refine Or.inr ⟨?_, ?_, _, d22, ?_⟩
                    · show (if (22 : Nat) = 21 ∧ a.1 23 0 = a.1 23 0 then σ.2 else if (22 : Nat) = 22 ∧ a.1 23 0 = a.1 23 0 then σ.2 + 1 else _) < _
                      rw [if_neg (by omega), if_pos ⟨rfl, rfl⟩, hs5]; show _ < (hmU σ4 _ _).2; rw [hs4]; exact q3
                    · rw [e22]; exact (if_neg (by omega)).trans (if_pos rfl)
                    · show rowL ((lamA a (a.1 17 o) ob n).1 26 (a.1 23 0)) (fun i => (lamA a (a.1 17 o) ob n).2.2.1 27 (4 * a.1 23 0 + i)) _
                      rw [k26]
                      refine ⟨f', rfl, fun i hi' => ?_⟩
                      rw [q5 i hi']
                      show _ = if (27 : Nat) = 27 ∧ 4 * a.1 23 0 ≤ 4 * a.1 23 0 + i ∧ 4 * a.1 23 0 + i < 4 * a.1 23 0 + n then a.2.2.1 14 (4 * a.1 17 o + (4 * a.1 23 0 + i - 4 * a.1 23 0)) else _
                      rw [if_pos ⟨rfl, by omega, by omega⟩, show 4 * a.1 23 0 + i - 4 * a.1 23 0 = i by omega]
                  · have hjl : x < a.1 23 0 := by omega
                    rw [e26 x hj'] at hne
                    refine Or.inl ⟨vld_22 hjl hne, ?_, ?_, fun c hc => ?_⟩
                    · show (if (22 : Nat) = 21 ∧ x = a.1 23 0 then σ.2 else if (22 : Nat) = 22 ∧ x = a.1 23 0 then σ.2 + 1 else w.1 22 x 0) = w.1 22 x 0
                      rw [if_neg (fun q => hj' q.2), if_neg (fun q => hj' q.2)]
                    · rw [hkeep _ (fun e => by have := (h.inj (vld_22 hjl hne) hv3 e).1; omega) (fun e => by have := (h.inj (vld_22 hjl hne) (vld_0 (k := 0) (by decide)) (e.trans h.2.1.symm)).1; omega)]
                      exact x3.2 _ (h.lt0 (vld_22 hjl hne))
                    · show rowL ((lamA a (a.1 17 o) ob n).1 26 x) (fun i => (lamA a (a.1 17 o) ob n).2.2.1 27 (4 * x + i)) c
                      rw [e26 x hj']
                      obtain ⟨f', rfl, q5⟩ := hc
                      refine ⟨f', rfl, fun i hi' => ?_⟩
                      rw [q5 i hi']
                      have hm4 := hw.nl (hq.2.2.2.2 x hjl).1
                      have hm5 := (hq.2.2.2.2 x hjl).2.1
                      show _ = if (27 : Nat) = 27 ∧ 4 * a.1 23 0 ≤ 4 * x + i ∧ 4 * x + i < 4 * a.1 23 0 + n then _ else a.2.2.1 27 (4 * x + i)
                      rw [if_neg (fun q => cx_lamN (a.1 23 0) n (by omega) x i hj' (by omega) q.2)]
            · refine ⟨?_, fun q hq' => ?_⟩
              · rw [hs5]; show σ.2 ≤ (hmU σ4 _ _).2; rw [hs4]; exact Nat.le_of_lt hl23
              · rw [hkeep q (fun e => h.out hv3 (e ▸ hq')) (fun e => h.out (vld_0 (k := 0) (by decide)) (by rw [h.2.1, ← e]; exact hq'))]
                exact x3.2 q (h.outlt hq')
          by_cases h0 : a.1 11 (a.1 17 o) = 0
          · simp only [if_pos h0]
            exact main (some o) (fun r hr => by cases hr; exact h1)
          · simp only [if_neg h0]
            exact main none (fun r hr => by cases hr)
end CX
