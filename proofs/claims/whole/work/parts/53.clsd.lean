/-! The class: simple calls. -/
/-- a call of the class: its answer, and what it leaves -/
def CC {α : Type} (E : hmG) (xa ma : Nat) (a' : aS) (r : α) (σ : hmS) (f : Option (α × hmS)) : Prop := ∃ w' σ', f = some (r, σ') ∧ RC E xa ma (a'.1 16 0) a' w' σ' ∧ Fr E ma σ σ'
section CD
variable {E : hmG} {xa ma : Nat} {a : aS} {w : cG} {σ : hmS}
theorem CC.here {α : Type} {r : α} {f : Option (α × hmS)} (h : RC E xa ma (a.1 16 0) a w σ) (e : f = some (r, σ)) : CC E xa ma a r σ f := ⟨w, σ, e, h, Fr.refl _ _ _⟩
theorem cd_share (hi : Iv a) (h : RC E xa ma (a.1 16 0) a w σ) (x y : Int32) : CC E xa ma (sp_share a x y).2 (sp_share a x y).1 σ (fX7_share xa x y σ) := by
  have hq := hi.2.2.2.2.1
  unfold sp_share
  cases hx : ix x 8 with
  | none => exact CC.here h (by simp [fX7_share, cm_isPlace, cb_some, hx, b2])
  | some p =>
    obtain ⟨hp, rfl⟩ := ix_s hx (by decide)
    cases hy : ix y 8 with
    | none => exact CC.here h (by simp [fX7_share, cm_isPlace, cb_some, hx, hy, b2])
    | some q =>
      obtain ⟨hq', rfl⟩ := ix_s hy (by decide)
      obtain ⟨σ', e1, g1, f1⟩ := h.w_pl hq' (r := a.2.1 22 p) (fun o ho => hq.2.2.1 p hp o ho)
      refine ⟨w, σ', ?_, g1, f1⟩
      have e2 : (aP_ a 22 q (a.2.1 22 p)).2.1 22 q = a.2.1 22 p := up2_s _ _ _ _
      simp only [fX7_share, cm_isPlace, cb_some, hx, hy, b2_0, Option.isSome_some, Bool.true_eq_false, if_false, h.m2, ob_some, h.plA hp, e1, g1.m2, g1.plA hq', e2, reduceCtorEq]
      cases a.2.1 22 p <;> simp [mp, oc_none, oc_some, b2]
theorem cd_free (h : RC E xa ma (a.1 16 0) a w σ) (x : Int32) : CC E xa ma (sp_free a x).2 (sp_free a x).1 σ (fX7_free xa x σ) := by
  unfold sp_free
  cases hx : ix x 8 with
  | none => exact CC.here h (by simp [fX7_free, cm_isPlace, cb_some, hx, b2])
  | some p =>
    obtain ⟨hp, rfl⟩ := ix_s hx (by decide)
    obtain ⟨σ', e1, g1, f1⟩ := h.w_pl hp (r := none) (fun o ho => by cases ho)
    refine ⟨w, σ', ?_, g1, f1⟩
    rw [mp_n] at e1
    simp only [fX7_free, fX7_free_J23, cm_isPlace, cb_some, hx, b2_0, Option.isSome_some, Bool.true_eq_false, if_false, h.m2, ob_some, h.plA hp, e1, reduceCtorEq]
    cases a.2.1 22 p <;> simp [mp, oc_none, oc_some, b2]
theorem cd_same (hi : Iv a) (h : RC E xa ma (a.1 16 0) a w σ) (x y : Int32) : CC E xa ma (sp_same a x y).2 (sp_same a x y).1 σ (fX7_same xa x y σ) := by
  have hq := hi.2.2.2.2.1
  unfold sp_same
  cases hx : ix x 8 with
  | none => exact CC.here h (by simp [fX7_same, cm_isPlace, cb_some, hx, b2])
  | some p =>
    obtain ⟨hp, rfl⟩ := ix_s hx (by decide)
    cases hy : ix y 8 with
    | none => exact CC.here h (by simp [fX7_same, cm_isPlace, cb_some, hx, hy, b2])
    | some q =>
      obtain ⟨hq', rfl⟩ := ix_s hy (by decide)
      refine CC.here h ?_
      have ee : (mp w.1 16 (a.2.1 22 p) = mp w.1 16 (a.2.1 22 q)) = (a.2.1 22 p = a.2.1 22 q) := by
        cases h1 : a.2.1 22 p with
        | none => cases h2 : a.2.1 22 q <;> simp [mp]
        | some o =>
          cases h2 : a.2.1 22 q with
          | none => simp [mp]
          | some o' => simp only [mp, Option.some.injEq, h.obE (hq.2.2.1 p hp o h1) (hq.2.2.1 q hq' o' h2)]
      simp only [fX7_same, cm_isPlace, cb_some, hx, hy, b2_0, Option.isSome_some, Bool.true_eq_false, if_false, h.m2, ob_some, h.plA hp, h.plA hq', ee, reduceCtorEq]
      by_cases e : a.2.1 22 p = a.2.1 22 q <;> simp [e, b2]
theorem cd_why (h : RC E xa ma (a.1 16 0) a w σ) : CC E xa ma a a.2.2.2 σ (fX7_why xa σ) := CC.here h (by simp only [fX7_why, h.m7, ob_some])
theorem cd_heldL (h : RC E xa ma (a.1 16 0) a w σ) : ∀ (f i c N : Nat), i + f = 8 → f < N → fX7_heldPlaces_L4 xa N (nI c) (nI i) σ = some (nI (c + cnt (fun p => (a.2.1 22 p).isSome) f i), σ) := by
  intro f
  induction f with
  | zero =>
    intro i c N hi hN
    obtain ⟨N, rfl⟩ : ∃ k, N = k + 1 := ⟨N - 1, by omega⟩
    have : i = 8 := by omega
    subst this
    simp only [fX7_heldPlaces_L4, fX7_heldPlaces_B4, show ((8 : Int32) ≤ nI 8) = True from by decide, if_true, cnt, Nat.add_zero]
  | succ f ih =>
    intro i c N hi hN
    obtain ⟨N, rfl⟩ : ∃ k, N = k + 1 := ⟨N - 1, by omega⟩
    have h8 : ((8 : Int32) ≤ nI i) = (8 ≤ i) := n_le (x := 8) (by decide) (by omega)
    simp only [fX7_heldPlaces_L4, fX7_heldPlaces_B4, fX7_heldPlaces_J22, h8, if_neg (show ¬ 8 ≤ i by omega), h.m2, ob_some, h.plA (show i < 8 by omega), n_s, ih (i + 1) _ N (by omega) (by omega)]
    cases hp : a.2.1 22 i with
    | none => simp [mp, oc_none, cnt, hp]
    | some q => simp [mp, oc_some, cnt, hp, Nat.add_assoc]
theorem cd_count (h : RC E xa ma (a.1 16 0) a w σ) (x : Int32) : CC E xa ma (sp_count a x).2 (sp_count a x).1 σ (fX7_count xa x σ) := by
  refine CC.here h ?_
  have hL : fX7_heldPlaces xa σ = some (nI (0 + cnt (fun p => (a.2.1 22 p).isSome) 8 0), σ) := cd_heldL h 8 0 0 20 rfl (by decide)
  simp only [fX7_count, sp_count, h.m1, h.m3, h.m5, h.mC, ob_some, hL, cb_some, Nat.zero_add]
  (repeat' split) <;> rfl
theorem cd_field (hi : Iv a) (h : RC E xa ma (a.1 16 0) a w σ) (x y : Int32) (v : Int64) {s : Nat} (hs : s ≤ 1) : CC E xa ma (sp_field a x y v s).2 (sp_field a x y v s).1 σ (fX7_field xa x y v (nI s) σ) := by
  obtain ⟨hbd, hw, hc, hO, hq, hz⟩ := id hi
  have hn := hw.n12
  unfold sp_field
  cases hx : ix x (a.1 0 0) with
  | none => exact CC.here h (by simp [fX7_field, h.mC, ob_some, h.typeAt hn, cb_some, hx, mp, oc_none])
  | some t =>
    obtain ⟨ht, rfl⟩ := ix_s hx (by omega)
    cases hy : ix y 8 with
    | none => exact CC.here h (by simp [fX7_field, h.mC, ob_some, h.typeAt hn, cb_some, hx, mp, oc_some, cm_isName, hy, b2])
    | some nm =>
      obtain ⟨hm, rfl⟩ := ix_s hy (by decide)
      have h7 := hw.nf ht
      have e4 : (nI (a.1 7 t) < (4 : Int32)) = (a.1 7 t < 4) := n_lt (y := 4) (by omega) (by decide)
      have eF : fX7_field xa (nI t) (nI nm) v (nI s) σ = if a.1 7 t < 4 then (if (fi (fun k => a.1 8 (4 * t + k) == nm) (a.1 7 t) 0) = none then cb (fX1_add (w.1 6 t 0) (nI nm) v (nI s) σ) fun _ σ23 => ob (gI σ23 (w.1 6 t 0) 3 3) fun f24 => some (f24, σ23) else some (-4, σ)) else some (-2, σ) := by
        simp only [fX7_field, h.mC, ob_some, h.typeAt hn, cb_some, hx, mp_s, oc_some, cm_isName, hy, b2_0, Option.isSome_some, Bool.true_eq_false, if_false, h.t7 ht, h.f3 ht, e4, h.fC ht, h.indexOf hw hbd ht hm, lt_m1 (o := fi (fun k => a.1 8 (4 * t + k) == nm) (a.1 7 t) 0) (fun q hq => by have := fi_lt hq; omega), reduceCtorEq]
      rw [eF]
      show CC E xa ma (if a.1 7 t = 4 then ((-2 : Int32), a) else _).2 (if a.1 7 t = 4 then ((-2 : Int32), a) else _).1 σ _
      by_cases h4 : a.1 7 t = 4
      · rw [if_pos h4, if_neg (by omega)]; exact CC.here h rfl
      · rw [if_neg h4, if_pos (show a.1 7 t < 4 by omega)]
        cases hf : fi (fun k => a.1 8 (4 * t + k) == nm) (a.1 7 t) 0 with
        | some k => exact CC.here h (by simp)
        | none =>
          have hk : a.1 7 t < 4 := by omega
          obtain ⟨σ1, e1, g1, f1⟩ := h.w_fn ht hk nm
          obtain ⟨σ2, e2, g2, f2⟩ := g1.w_fv ht hk v
          obtain ⟨σ3, e3, g3, f3⟩ := g2.w_fs ht hk s
          obtain ⟨σ5, e5, g5, f5⟩ := g3.w_fo ht (a.1 7 t + 1)
          refine ⟨w, σ5, ?_, g5, ((f1.trans f2).trans f3).trans f5⟩
          have k1 : gI σ1 (w.1 6 t 0) 3 3 = some (nI (a.1 7 t)) := g1.f3 ht
          have k2 : gI σ2 (w.1 6 t 0) 3 3 = some (nI (a.1 7 t)) := g2.f3 ht
          have k3 : gI σ3 (w.1 6 t 0) 3 3 = some (nI (a.1 7 t)) := g3.f3 ht
          have k5 : gI σ5 (w.1 6 t 0) 3 3 = some (nI (a.1 7 t + 1)) := by
            rw [g5.f3 ht]
            simp [aN_, up2]
          simp only [if_true, fX1_add, h.f3 ht, ob_some, e4, if_pos hk, h.f0 ht, e1, g1.f1 ht, k1, e2, g2.f2 ht, k2, nz s hs, e3, k3, n_s, e5, cb_some, k5, Option.isSome_none, Bool.false_eq_true, if_false]
theorem cd_local (hi : Iv a) (h : RC E xa ma (a.1 16 0) a w σ) (x y : Int32) (v : Int64) : CC E xa ma (sp_local a x y v).2 (sp_local a x y v).1 σ (fX7_local xa x y v σ) := by
  obtain ⟨hbd, hw, hc, hO, hq, hz⟩ := id hi
  have hn := hw.n12
  unfold sp_local
  cases hx : ix x (a.1 0 0) with
  | none => exact CC.here h (by simp [fX7_local, h.mC, ob_some, h.typeAt hn, cb_some, hx, mp, oc_none])
  | some t =>
    obtain ⟨ht, rfl⟩ := ix_s hx (by omega)
    cases hy : ix y 8 with
    | none => exact CC.here h (by simp [fX7_local, h.mC, ob_some, h.typeAt hn, cb_some, hx, mp, oc_some, cm_isName, hy, b2])
    | some nm =>
      obtain ⟨hm, rfl⟩ := ix_s hy (by decide)
      have h7 := hw.nl ht
      have e4 : (nI (a.1 12 t) < (4 : Int32)) = (a.1 12 t < 4) := n_lt (y := 4) (by omega) (by decide)
      have eF : fX7_local xa (nI t) (nI nm) v σ = if a.1 12 t < 4 then (cb (fX4_add (w.1 10 t 0) (nI nm) v σ) fun _ σ23 => ob (gI σ23 (w.1 10 t 0) 6 3) fun f24 => some (f24, σ23)) else some (-2, σ) := by
        simp only [fX7_local, h.mC, ob_some, h.typeAt hn, cb_some, hx, mp_s, oc_some, cm_isName, hy, b2_0, Option.isSome_some, Bool.true_eq_false, if_false, h.t8 ht, h.l3 ht, e4, h.lC ht, reduceCtorEq]
      rw [eF]
      show CC E xa ma (if a.1 12 t = 4 then ((-2 : Int32), a) else _).2 (if a.1 12 t = 4 then ((-2 : Int32), a) else _).1 σ _
      by_cases h4 : a.1 12 t = 4
      · rw [if_pos h4, if_neg (by omega)]; exact CC.here h rfl
      · have hk : a.1 12 t < 4 := by omega
        rw [if_neg h4, if_pos hk]
        obtain ⟨σ1, e1, g1, f1⟩ := h.w_ln ht hk nm
        obtain ⟨σ2, e2, g2, f2⟩ := g1.w_lv ht hk v
        obtain ⟨σ5, e5, g5, f5⟩ := g2.w_lo ht (a.1 12 t + 1)
        refine ⟨w, σ5, ?_, g5, (f1.trans f2).trans f5⟩
        have k1 : gI σ1 (w.1 10 t 0) 6 3 = some (nI (a.1 12 t)) := g1.l3 ht
        have k2 : gI σ2 (w.1 10 t 0) 6 3 = some (nI (a.1 12 t)) := g2.l3 ht
        have k5 : gI σ5 (w.1 10 t 0) 6 3 = some (nI (a.1 12 t + 1)) := by
          rw [g5.l3 ht]
          simp [aN_, up2]
        simp only [fX4_add, h.l3 ht, ob_some, e4, if_pos hk, h.l0 ht, e1, g1.l1 ht, k1, e2, k2, n_s, e5, cb_some, k5]
theorem cd_assign (hi : Iv a) (h : RC E xa ma (a.1 16 0) a w σ) (x y : Int32) (v : Int64) : CC E xa ma (sp_assign a x y v).2 (sp_assign a x y v).1 σ (fX7_assign xa x y v σ) := by
  obtain ⟨hbd, hw, hc, hO, hq, hz⟩ := id hi
  have hn := hw.n12
  unfold sp_assign
  cases hx : ix x (a.1 0 0) with
  | none => exact CC.here h (by simp [fX7_assign, h.mC, ob_some, h.typeAt hn, cb_some, hx, mp, oc_none])
  | some t =>
    obtain ⟨ht, rfl⟩ := ix_s hx (by omega)
    have h7 := hw.nl ht
    dsimp only
    cases hy : ix y (a.1 12 t) with
    | none => exact CC.here h (by simp [fX7_assign, h.mC, ob_some, h.typeAt hn, cb_some, hx, mp, oc_some, h.t8 ht, h.lC ht, h.has4 hw ht, hy, b2])
    | some k =>
      obtain ⟨hk, rfl⟩ := ix_s hy (by omega)
      obtain ⟨σ1, e1, g1, f1⟩ := h.w_lv ht (show k < 4 by omega) v
      obtain ⟨σ2, e2, g2, f2⟩ := g1.w_la ht (show k < 4 by omega) 1
      have hsw : aN_ (aL_ a 14 (4 * t + k) v) 15 (4 * t + k) 1 = aL_ (aN_ a 15 (4 * t + k) 1) 14 (4 * t + k) v := rfl
      rw [hsw] at g2
      refine ⟨w, σ2, ?_, g2, f1.trans f2⟩
      have h15 := hw.b15 (4 * t + k)
      simp only [fX7_assign, h.mC, ob_some, h.typeAt hn, cb_some, hx, mp_s, oc_some, h.t8 ht, h.lC ht, h.has4 hw ht, hy, b2_0, Option.isSome_some, Bool.true_eq_false, if_false, h.isAssigned hw hbd ht hk, fX4_set, h.l1 ht, e1, g1.l2 ht, nz1, e2, reduceCtorEq]
      rcases (show a.1 15 (4 * t + k) = 0 ∨ a.1 15 (4 * t + k) = 1 by omega) with e | e
      · simp [e]; rfl
      · simp [e]; rfl
theorem cd_constant (hi : Iv a) (h : RC E xa ma (a.1 16 0) a w σ) (x y : Int32) : CC E xa ma (sp_constant a x y).2 (sp_constant a x y).1 σ (fX7_constant xa x y σ) := by
  obtain ⟨hbd, hw, hc, hO, hq, hz⟩ := id hi
  have hn := hw.n12
  obtain ⟨σ1, e1, g1, f1⟩ := h.w_out (-1)
  obtain ⟨σ0, e0, g0, f0⟩ := h.w_out 0
  have hJ : ∀ x y, fX7_constant_J21 xa x y σ = some (0, σ1) := fun x y => by simp only [fX7_constant_J21, e1, ob_some]
  unfold sp_constant
  cases hx : ix x (a.1 0 0) with
  | none => exact ⟨w, σ1, by simp [fX7_constant, h.mC, ob_some, h.typeAt hn, cb_some, hx, mp, oc_none, hJ], g1, f1⟩
  | some t =>
    obtain ⟨ht, rfl⟩ := ix_s hx (by omega)
    have h7 := hw.nf ht
    dsimp only
    cases hy : ix y (a.1 7 t) with
    | none => exact ⟨w, σ1, by simp [fX7_constant, h.mC, ob_some, h.typeAt hn, cb_some, hx, mp, oc_some, h.t7 ht, h.fC ht, h.isStaticN hw ht hy, hJ], g1, f1⟩
    | some k =>
      obtain ⟨hk, rfl⟩ := ix_s hy (by omega)
      have eF : fX7_constant xa (nI t) (nI k) σ = if a.1 10 (4 * t + k) = 0 then some (0, σ1) else some (a.2.2.1 9 (4 * t + k), σ0) := by
        have k1 : gR σ0 (w.1 5 t 0) 8 7 = some (some (w.1 6 t 0)) := g0.t7 ht
        have k2 : gR σ0 (w.1 6 t 0) 3 1 = some (some (w.1 8 t 0)) := g0.f1 ht
        have k3 : aL σ0 (w.1 8 t 0) (nI k) = some (a.2.2.1 9 (4 * t + k)) := g0.fv ht (show k < 4 by omega)
        simp only [fX7_constant, h.mC, ob_some, h.typeAt hn, cb_some, hx, mp_s, oc_some, h.t7 ht, h.fC ht, h.isStatic hw hbd ht hk, b2_0, hJ, e0, k1, k2, k3]
        by_cases h0 : a.1 10 (4 * t + k) = 0 <;> simp [h0]
      rw [eF]
      by_cases h0 : a.1 10 (4 * t + k) = 0
      · simp only [if_pos h0]; exact ⟨w, σ1, rfl, g1, f1⟩
      · simp only [if_neg h0]; exact ⟨w, σ0, rfl, g0, f0⟩
end CD
