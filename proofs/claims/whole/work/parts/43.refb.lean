/-! The reference: fields, locals, methods. -/
/-- the first of f numbers from i on that has P -/
def fi (P : Nat → Bool) : Nat → Nat → Option Nat
  | 0, _ => none
  | f + 1, i => if P i then some i else fi P f (i + 1)
/-- the last number below c that has P -/
def las (P : Nat → Bool) : Nat → Option Nat
  | 0 => none
  | c + 1 => if P c then some c else las P c
theorem fi_lt {P : Nat → Bool} : ∀ {f i j : Nat}, fi P f i = some j → i ≤ j ∧ j < i + f ∧ P j = true := by
  intro f
  induction f with
  | zero => intro i j h; cases h
  | succ f ih =>
    intro i j h
    unfold fi at h
    split at h
    · rename_i hp; cases h; exact ⟨Nat.le_refl _, by omega, hp⟩
    · have := ih h; exact ⟨by omega, by omega, this.2.2⟩
theorem las_lt {P : Nat → Bool} : ∀ {c j : Nat}, las P c = some j → j < c ∧ P j = true := by
  intro c
  induction c with
  | zero => intro j h; cases h
  | succ c ih =>
    intro j h
    unfold las at h
    split at h
    · rename_i hp; cases h; exact ⟨by omega, hp⟩
    · have := ih h; exact ⟨by omega, this.2⟩
/-- what holds of types, as the reference keeps them -/
def Wt (a : aS) : Prop := a.1 0 0 ≤ 12 ∧ (∀ j, a.1 10 j ≤ 1 ∧ a.1 11 j ≤ 1 ∧ a.1 15 j ≤ 1) ∧ ∀ t, t < a.1 0 0 → a.1 1 t ≤ 5 ∧ (a.1 1 t = 0 → a.2.1 2 t = none) ∧ (a.1 1 t ≠ 0 → ∃ o, o < t ∧ a.2.1 2 t = some o) ∧ (a.1 1 t = 5 → a.2.1 3 t = none) ∧ (a.1 1 t ≠ 5 → ∃ c, c < 26 ∧ a.2.1 3 t = some c) ∧ a.1 7 t ≤ 4 ∧ a.1 12 t ≤ 4 ∧ (a.1 1 t < 3 → a.1 5 t = 0) ∧ (∀ o, 3 ≤ a.1 1 t → a.2.1 2 t = some o → a.1 5 t ≤ a.1 12 o) ∧ (∀ p, a.2.1 6 t = some p → p < a.1 0 0) ∧ 1 ≤ a.1 4 t ∧ a.1 4 t ≤ 12
theorem nz (s : Nat) (h : s ≤ 1) : vp_nar .boolean (nI s) = nI s := by
  rcases (show s = 0 ∨ s = 1 by omega) with rfl | rfl <;> decide
theorem nz1 : vp_nar .boolean (1 : Int32) = nI 1 := by decide
section RG
variable (ρ : hmS) (ma : Nat) (a : aS) (X : Nat → Nat → Int32)
theorem rg_fieldOfL (hw : Wt a) {t nm : Nat} (ht : t < a.1 0 0) (hnm : nm < 8) (hbd : Wb a) : ∀ (f i N : Nat), i + f = a.1 7 t → f < N → fX8_fieldOf_L2 ma (nI t) (nI nm) N (nI i) (rSt ρ ma (mkS a X)) = some (pv (fi (fun k => a.1 8 (4 * t + k) == nm) f i), rSt ρ ma (mkS a X)) := by
  have h7 := (hw.2.2 t ht).2.2.2.2.2.1
  have hn := hw.1
  intro f
  induction f with
  | zero =>
    intro i N hi hN
    obtain ⟨N, rfl⟩ : ∃ k, N = k + 1 := ⟨N - 1, by omega⟩
    simp only [fX8_fieldOf_L2, fX8_fieldOf_B2, q_r7, ob_some, q_a7 ρ ma a X (show t < 12 by omega), n_le (show a.1 7 t < 100000 by omega) (show i < 100000 by omega), if_pos (show a.1 7 t ≤ i by omega)]
    rfl
  | succ f ih =>
    intro i N hi hN
    obtain ⟨N, rfl⟩ : ∃ k, N = k + 1 := ⟨N - 1, by omega⟩
    simp only [fX8_fieldOf_L2, fX8_fieldOf_B2, q_r7, q_r8, ob_some, q_a7 ρ ma a X (show t < 12 by omega), n_le (show a.1 7 t < 100000 by omega) (show i < 100000 by omega), if_neg (show ¬ a.1 7 t ≤ i by omega), n_i4, q_a8 ρ ma a X (show 4 * t + i < 48 by omega), n_eq (Nat.lt_trans (hbd.1 8 (4 * t + i)) (by decide)) (show nm < 100000 by omega), n_s]
    rw [ih (i + 1) N (by omega) (by omega)]
    by_cases h : a.1 8 (4 * t + i) = nm <;> simp [fi, h, pv]
theorem rg_fieldOf (hw : Wt a) (hbd : Wb a) {t nm : Nat} (ht : t < a.1 0 0) (hnm : nm < 8) : fX8_fieldOf ma (nI t) (nI nm) (rSt ρ ma (mkS a X)) = some (pv (fi (fun k => a.1 8 (4 * t + k) == nm) (a.1 7 t) 0), rSt ρ ma (mkS a X)) := by
  have h7 := (hw.2.2 t ht).2.2.2.2.2.1
  unfold fX8_fieldOf
  rw [show (0 : Int32) = nI 0 from rfl]
  exact rg_fieldOfL ρ ma a X hw ht hnm hbd (a.1 7 t) 0 20 (by omega) (by omega)
theorem pv_lt0 {o : Option Nat} (h : ∀ q, o = some q → q < 100000) : (pv o < 0) = (o = none) := by
  cases o with
  | none => exact propext ⟨fun _ => rfl, fun _ => show (-3 : Int32) < 0 by decide⟩
  | some j => simp only [pv]; exact propext ⟨fun e => absurd e (n_nn (h j rfl)), fun e => by cases e⟩
theorem pv_ge0 {o : Option Nat} (h : ∀ q, o = some q → q < 100000) : ((0 : Int32) ≤ pv o) = (o ≠ none) := by
  cases o with
  | none => simp only [pv]; exact propext ⟨fun e => absurd e (by decide), fun e => absurd rfl e⟩
  | some j => simp only [pv]; exact propext ⟨fun _ => by simp, fun _ => Int32.not_lt.mp (n_nn (h j rfl))⟩
def sp_field (a : aS) (x y : Int32) (v : Int64) (s : Nat) : Int32 × aS := match ix x (a.1 0 0), ix y 8 with
  | some t, some nm => if a.1 7 t = 4 then (-2, a) else if (fi (fun k => a.1 8 (4 * t + k) == nm) (a.1 7 t) 0).isSome then (-4, a) else (nI (a.1 7 t + 1), aN_ (aN_ (aL_ (aN_ a 8 (4 * t + a.1 7 t) nm) 9 (4 * t + a.1 7 t) v) 10 (4 * t + a.1 7 t) s) 7 t (a.1 7 t + 1))
  | _, _ => (-1, a)
theorem rg_field (hw : Wt a) (hbd : Wb a) (x y : Int32) (v : Int64) {s : Nat} (hs : s ≤ 1) : fX8_field ma x y v (nI s) (rSt ρ ma (mkS a X)) = some ((sp_field a x y v s).1, rSt ρ ma (mkS (sp_field a x y v s).2 X)) := by
  unfold sp_field
  have hn := hw.1
  cases hx : ix x (a.1 0 0) with
  | none => simp [fX8_field, rf_obC, ob_some, rf_isType ρ ma a X hbd, cb_some, hx, b2]
  | some t =>
    obtain ⟨ht, rfl⟩ := ix_s hx (by omega)
    cases hy : ix y 8 with
    | none => simp [fX8_field, rf_obC, ob_some, rf_isType ρ ma a X hbd, rf_isName, cb_some, hx, hy, b2]
    | some nm =>
      obtain ⟨hm, rfl⟩ := ix_s hy (by decide)
      have h7 := (hw.2.2 t ht).2.2.2.2.2.1
      have ht12 : t < 12 := by omega
      simp only [fX8_field, rf_obC, ob_some, rf_isType ρ ma a X hbd, rf_isName, cb_some, hx, hy, b2_0, Option.isSome_some, Bool.true_eq_false, if_false, q_r7, q_a7 ρ ma a X ht12, reduceCtorEq]
      have e4 : (nI (a.1 7 t) = (4 : Int32)) = (a.1 7 t = 4) := n_eq (y := 4) (show a.1 7 t < 100000 by omega) (by decide)
      simp only [e4]
      by_cases h4 : a.1 7 t = 4
      · simp only [if_pos h4]
      · simp only [if_neg h4, rg_fieldOf ρ ma a X hw hbd ht hm, cb_some, pv_lt0 (o := fi (fun k => a.1 8 (4 * t + k) == nm) (a.1 7 t) 0) (fun q hq => by have := fi_lt hq; omega)]
        cases hf : fi (fun k => a.1 8 (4 * t + k) == nm) (a.1 7 t) 0 with
        | some k => simp
        | none =>
          have hk : 4 * t + a.1 7 t < 48 := by omega
          simp only [n_i4, if_true, q_r7, q_r8, q_r9, q_r10, ob_some, q_a7 ρ ma _ X ht12, q_s8 ρ ma _ X hk, q_s9 ρ ma _ X hk, nz s hs, q_s10 ρ ma _ X hk, n_s, q_s7 ρ ma _ X ht12, Option.isSome_none, Bool.false_eq_true, if_false]
          simp [aN_, aL_, up2]
def sp_local (a : aS) (x y : Int32) (v : Int64) : Int32 × aS := match ix x (a.1 0 0), ix y 8 with
  | some t, some nm => if a.1 12 t = 4 then (-2, a) else (nI (a.1 12 t + 1), aN_ (aL_ (aN_ a 13 (4 * t + a.1 12 t) nm) 14 (4 * t + a.1 12 t) v) 12 t (a.1 12 t + 1))
  | _, _ => (-1, a)
theorem rg_local (hw : Wt a) (hbd : Wb a) (x y : Int32) (v : Int64) : fX8_local ma x y v (rSt ρ ma (mkS a X)) = some ((sp_local a x y v).1, rSt ρ ma (mkS (sp_local a x y v).2 X)) := by
  unfold sp_local
  have hn := hw.1
  cases hx : ix x (a.1 0 0) with
  | none => simp [fX8_local, rf_obC, ob_some, rf_isType ρ ma a X hbd, cb_some, hx, b2]
  | some t =>
    obtain ⟨ht, rfl⟩ := ix_s hx (by omega)
    cases hy : ix y 8 with
    | none => simp [fX8_local, rf_obC, ob_some, rf_isType ρ ma a X hbd, rf_isName, cb_some, hx, hy, b2]
    | some nm =>
      obtain ⟨hm, rfl⟩ := ix_s hy (by decide)
      have h7 := (hw.2.2 t ht).2.2.2.2.2.2.1
      have ht12 : t < 12 := by omega
      simp only [fX8_local, rf_obC, ob_some, rf_isType ρ ma a X hbd, rf_isName, cb_some, hx, hy, b2_0, Option.isSome_some, Bool.true_eq_false, if_false, q_r12, q_a12 ρ ma a X ht12, reduceCtorEq]
      have e4 : (nI (a.1 12 t) = (4 : Int32)) = (a.1 12 t = 4) := n_eq (y := 4) (show a.1 12 t < 100000 by omega) (by decide)
      simp only [e4]
      by_cases h4 : a.1 12 t = 4
      · simp only [if_pos h4]
      · have hk : 4 * t + a.1 12 t < 48 := by omega
        simp only [n_i4, if_neg h4, q_r12, q_r13, q_r14, ob_some, q_a12 ρ ma _ X ht12, q_s13 ρ ma _ X hk, q_s14 ρ ma _ X hk, n_s, q_s12 ρ ma _ X ht12]
        simp [aN_, aL_, up2]
def sp_assign (a : aS) (x y : Int32) (v : Int64) : Int32 × aS := match ix x (a.1 0 0) with
  | some t => match ix y (a.1 12 t) with
    | some k => (nI (a.1 15 (4 * t + k)), aL_ (aN_ a 15 (4 * t + k) 1) 14 (4 * t + k) v)
    | none => (-1, a)
  | none => (-1, a)
theorem rg_assign (hw : Wt a) (hbd : Wb a) (x y : Int32) (v : Int64) : fX8_assign ma x y v (rSt ρ ma (mkS a X)) = some ((sp_assign a x y v).1, rSt ρ ma (mkS (sp_assign a x y v).2 X)) := by
  unfold sp_assign
  have hn := hw.1
  cases hx : ix x (a.1 0 0) with
  | none => simp [fX8_assign, rf_obC, ob_some, rf_isType ρ ma a X hbd, cb_some, hx, b2]
  | some t =>
    obtain ⟨ht, rfl⟩ := ix_s hx (by omega)
    have h7 := (hw.2.2 t ht).2.2.2.2.2.2.1
    have ht12 : t < 12 := by omega
    cases hy : ix y (a.1 12 t) with
    | none => simp [fX8_assign, rf_obC, ob_some, rf_isType ρ ma a X hbd, cb_some, hx, hy, b2, q_r12, q_a12 ρ ma a X ht12, rf_in y (a.1 12 t) (by omega)]
    | some k =>
      obtain ⟨hm, rfl⟩ := ix_s hy (by omega)
      have hk : 4 * t + k < 48 := by omega
      have h15 := (hw.2.1 (4 * t + k)).2.2
      simp only [fX8_assign, fX8_assign_J48, rf_obC, ob_some, rf_isType ρ ma a X hbd, cb_some, hx, b2_0, Option.isSome_some, Bool.true_eq_false, if_false, q_r12, q_a12 ρ ma a X ht12, reduceCtorEq, rf_in (nI k) (a.1 12 t) (by omega), hy, q_r15, n_i4, q_a15 ρ ma a X hk, nz1, q_s15 ρ ma a X hk, q_r14, q_s14 ρ ma _ X hk]
      rcases (show a.1 15 (4 * t + k) = 0 ∨ a.1 15 (4 * t + k) = 1 by omega) with h | h <;> rw [h]
      · rw [if_pos (show nI 0 = 0 from rfl)]; rfl
      · rw [if_neg (show ¬ nI 1 = 0 by decide)]; rfl
def sp_constant (a : aS) (x y : Int32) : Int64 × aS := match ix x (a.1 0 0) with
  | some t => match ix y (a.1 7 t) with
    | some k => if a.1 10 (4 * t + k) = 0 then (0, aW_ a (-1)) else (a.2.2.1 9 (4 * t + k), aW_ a 0)
    | none => (0, aW_ a (-1))
  | none => (0, aW_ a (-1))
theorem rg_told (w : Int32) : fX8_told ma w (rSt ρ ma (mkS a X)) = some (0, rSt ρ ma (mkS (aW_ a w) X)) := by
  simp only [fX8_told, q_w28, ob_some]
/-- the chain of outer types: in a method of type t -/
def inM (a : aS) (t u : Nat) : Bool := decide (3 ≤ a.1 1 u) && (a.2.1 2 u == some t)
def sp_method (a : aS) (x : Int32) (s : Nat) : Int32 × aS := match ix x (a.1 0 0) with
  | some t => if (fi (inM a t) (a.1 0 0) 0).isSome then (-4, a) else (nI (a.1 11 t), aN_ a 11 t s)
  | none => (-1, a)
theorem rg_isInMethod (k : Nat) (hk : k < 100000) (σ : hmS) : fX8_isInMethod (nI k) σ = some (b2 (decide (3 ≤ k)), σ) := by
  unfold fX8_isInMethod
  rw [show (3 : Int32) = nI 3 from rfl]
  simp only [n_lt hk (show 3 < 100000 by decide)]
  by_cases h : 3 ≤ k
  · rw [if_neg (by omega)]; simp [h, b2]
  · rw [if_pos (by omega)]; simp [h, b2]
end RG
