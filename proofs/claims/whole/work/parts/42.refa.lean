/-! The reference's simple calls, over the abstract state. -/
def Wb (a : aS) : Prop := (∀ k j, a.1 k j < 10000) ∧ ∀ k j q, a.2.1 k j = some q → q < 10000
def b2 (b : Bool) : Int32 := if b then 1 else 0
theorem n_le {x y : Nat} (hx : x < 100000) (hy : y < 100000) : (nI x ≤ nI y) = (x ≤ y) := propext (nI_leI (by omega) (by omega))
theorem n_lt {x y : Nat} (hx : x < 100000) (hy : y < 100000) : (nI x < nI y) = (x < y) := propext (nI_ltI (by omega) (by omega))
theorem n_eq {x y : Nat} (hx : x < 100000) (hy : y < 100000) : (nI x = nI y) = (x = y) := propext (nI_eq (by omega) (by omega))
theorem n_i4 (t k : Nat) : (4 : Int32) * nI t + nI k = nI (4 * t + k) := by rw [show (4 : Int32) = nI 4 from rfl, pk_mul, nI_add]
theorem n_i12 (t k : Nat) : (12 : Int32) * nI t + nI k = nI (12 * t + k) := by rw [show (12 : Int32) = nI 12 from rfl, pk_mul, nI_add]
theorem n_s (k : Nat) : nI k + (1 : Int32) = nI (k + 1) := nI_1 k
theorem n_ne3 {j : Nat} (h : j < 100000) : nI j ≠ (-3 : Int32) := fun e => nI_pos (n := j) (by omega) (by rw [e]; decide)
theorem n_nn {j : Nat} (h : j < 100000) : ¬ nI j < 0 := nI_pos (by omega)
theorem pv_3 {o : Option Nat} (h : ∀ q, o = some q → q < 100000) : (pv o = (-3 : Int32)) = (o = none) := by
  cases o with
  | none => simp [pv]
  | some j => simp [pv, n_ne3 (h j rfl)]
theorem pv_eq {o o' : Option Nat} (h : ∀ q, o = some q → q < 100000) (h' : ∀ q, o' = some q → q < 100000) : (pv o = pv o') = (o = o') := by
  cases o with
  | none => cases o' with
    | none => simp
    | some j => simp only [pv]; exact propext ⟨fun e => absurd e.symm (n_ne3 (h' j rfl)), fun e => by cases e⟩
  | some i => cases o' with
    | none => simp only [pv]; exact propext ⟨fun e => absurd e (n_ne3 (h i rfl)), fun e => by cases e⟩
    | some j => simp only [pv, n_eq (h i rfl) (h' j rfl), Option.some.injEq]
theorem rf_in (x : Int32) (n : Nat) (hn : n < 10000) (σ : hmS) : fX8_in x (0 : Int32) (nI n - (1 : Int32)) σ = some (b2 (ix x n).isSome, σ) := by
  unfold fX8_in
  cases h : ix x n with
  | none =>
    rcases ix_n h (by omega) with h1 | h1
    · rw [if_pos h1]; rfl
    · split
      · rfl
      · rename_i h0
        obtain ⟨j, hj, rfl⟩ := nI_of h0
        have hnj : n ≤ j := (nI_leI (by omega) hj).mp h1
        have hlt : nI n - (1 : Int32) < nI j := by
          cases n with
          | zero => 
            have : (nI 0 - 1 : Int32) = -1 := by decide
            rw [this]
            exact Int32.lt_iff_toInt_lt.mpr (by rw [nI_toInt hj]; show (-1 : Int) < _; omega)
          | succ n => rw [nI_pred]; exact (nI_ltI (by omega) hj).mpr (by omega)
        rw [if_pos hlt]
        rfl
  | some j =>
    obtain ⟨hj, rfl⟩ := ix_s h (by omega)
    rw [if_neg (nI_pos (by omega))]
    have : ¬ nI n - (1 : Int32) < nI j := by
      cases n with
      | zero => omega
      | succ n => rw [nI_pred]; exact fun q => absurd ((nI_ltI (by omega) (by omega)).mp q) (by omega)
    rw [if_neg this]
    rfl
theorem rf_in7 (x : Int32) (σ : hmS) : fX8_in x (0 : Int32) (7 : Int32) σ = some (b2 (ix x 8).isSome, σ) := rf_in x 8 (by decide) σ
theorem okZ_b2 (b : Bool) : okZ (b2 b) = some () := by cases b <;> rfl
theorem b2_0 (b : Bool) : (b2 b = 0) = (b = false) := by cases b <;> simp [b2]
theorem rf_isPlace (x : Int32) (σ : hmS) : fX8_isPlace x σ = some (b2 (ix x 8).isSome, σ) := by
  simp only [fX8_isPlace, rf_in7, cb_some, okZ_b2, ob_some]
theorem rf_isName (x : Int32) (σ : hmS) : fX8_isName x σ = some (b2 (ix x 8).isSome, σ) := by
  simp only [fX8_isName, rf_in7, cb_some, okZ_b2, ob_some]
section RF
variable (ρ : hmS) (ma : Nat) (a : aS) (X : Nat → Nat → Int32)
theorem rf_obC : obC (rSt ρ ma (mkS a X)) ma 10 = some () := r_obC ρ ma (mkS a X)
theorem rf_isType (hb : Wb a) (x : Int32) : fX8_isType ma x (rSt ρ ma (mkS a X)) = some (b2 (ix x (a.1 0 0)).isSome, rSt ρ ma (mkS a X)) := by
  simp only [fX8_isType, q_g0, ob_some, rf_in x (a.1 0 0) (hb.1 0 0), cb_some, okZ_b2]
def sp_share (a : aS) (x y : Int32) : Int32 × aS := match ix x 8, ix y 8 with
  | some p, some q => (b2 (a.2.1 22 p).isSome, aP_ a 22 q (a.2.1 22 p))
  | _, _ => (-1, a)
def sp_free (a : aS) (x : Int32) : Int32 × aS := match ix x 8 with
  | some p => (b2 (a.2.1 22 p).isSome, aP_ a 22 p none)
  | none => (-1, a)
def sp_same (a : aS) (x y : Int32) : Int32 × aS := match ix x 8, ix y 8 with
  | some p, some q => (b2 (a.2.1 22 p == a.2.1 22 q), a)
  | _, _ => (-1, a)
theorem rf_share (hb : Wb a) (x y : Int32) : fX8_share ma x y (rSt ρ ma (mkS a X)) = some ((sp_share a x y).1, rSt ρ ma (mkS (sp_share a x y).2 X)) := by
  unfold sp_share
  cases hx : ix x 8 with
  | none => simp [fX8_share, rf_isPlace, cb_some, hx, b2]
  | some p =>
    obtain ⟨hp, rfl⟩ := ix_s hx (by decide)
    cases hy : ix y 8 with
    | none => simp [fX8_share, rf_isPlace, cb_some, hx, hy, b2]
    | some q =>
      obtain ⟨hq, rfl⟩ := ix_s hy (by decide)
      simp only [fX8_share, rf_isPlace, cb_some, hx, hy, b2_0, Option.isSome_some, Bool.true_eq_false, if_false, q_r22, ob_some, q_a22 ρ ma a X hp, q_s22 ρ ma a X hq, q_a22 ρ ma (aP_ a 22 q (a.2.1 22 p)) X hq, reduceCtorEq]
      have e : (aP_ a 22 q (a.2.1 22 p)).2.1 22 q = a.2.1 22 p := up2_s _ _ _ _
      simp only [e, pv_3 (o := a.2.1 22 p) (fun r hr => Nat.lt_trans (hb.2 _ _ _ hr) (by decide))]
      cases h : a.2.1 22 p <;> simp [b2]
theorem rf_free (hb : Wb a) (x : Int32) : fX8_free ma x (rSt ρ ma (mkS a X)) = some ((sp_free a x).1, rSt ρ ma (mkS (sp_free a x).2 X)) := by
  unfold sp_free
  cases hx : ix x 8 with
  | none => simp [fX8_free, rf_isPlace, cb_some, hx, b2]
  | some p =>
    obtain ⟨hp, rfl⟩ := ix_s hx (by decide)
    simp only [fX8_free, fX8_free_J25, rf_isPlace, cb_some, hx, b2_0, Option.isSome_some, Bool.true_eq_false, if_false, q_r22, ob_some, q_a22 ρ ma a X hp, reduceCtorEq]
    have e : sI (rSt ρ ma (mkS a X)) 0 (ma + 21) (nI p) (-3 : Int32) = some (rSt ρ ma (mkS (aP_ a 22 p none) X)) := q_s22 ρ ma a X hp none
    simp only [pv_3 (o := a.2.1 22 p) (fun r hr => Nat.lt_trans (hb.2 _ _ _ hr) (by decide)), e, ob_some]
    cases h : a.2.1 22 p <;> simp [b2]
theorem rf_same (hb : Wb a) (x y : Int32) : fX8_same ma x y (rSt ρ ma (mkS a X)) = some ((sp_same a x y).1, rSt ρ ma (mkS (sp_same a x y).2 X)) := by
  unfold sp_same
  cases hx : ix x 8 with
  | none => simp [fX8_same, fX8_same_J14, rf_isPlace, cb_some, hx, b2]
  | some p =>
    obtain ⟨hp, rfl⟩ := ix_s hx (by decide)
    cases hy : ix y 8 with
    | none => simp [fX8_same, fX8_same_J14, rf_isPlace, cb_some, hx, hy, b2]
    | some q =>
      obtain ⟨hq, rfl⟩ := ix_s hy (by decide)
      simp only [fX8_same, rf_isPlace, cb_some, hx, hy, b2_0, Option.isSome_some, Bool.true_eq_false, if_false, q_r22, ob_some, q_a22 ρ ma a X hp, q_a22 ρ ma a X hq, reduceCtorEq]
      simp only [pv_eq (o := a.2.1 22 p) (o' := a.2.1 22 q) (fun r hr => Nat.lt_trans (hb.2 _ _ _ hr) (by decide)) (fun r hr => Nat.lt_trans (hb.2 _ _ _ hr) (by decide))]
      by_cases h : a.2.1 22 p = a.2.1 22 q <;> simp [h, b2]
theorem rf_why : fX8_why ma (rSt ρ ma (mkS a X)) = some (a.2.2.2, rSt ρ ma (mkS a X)) := by
  simp only [fX8_why, q_g28, ob_some]
/-- how many j from i on, f of them, have P -/
def cnt (P : Nat → Bool) : Nat → Nat → Nat
  | 0, _ => 0
  | f + 1, i => (if P i then 1 else 0) + cnt P f (i + 1)
def sp_count (a : aS) (x : Int32) : Int32 × aS := (if x = 0 then nI (a.1 0 0) else if x = 1 then nI (a.1 16 0) else if x = 2 then nI (a.1 23 0) else if x = 3 then nI (cnt (fun p => (a.2.1 22 p).isSome) 8 0) else -1, a)
theorem rf_countL (hb : Wb a) (x : Int32) : ∀ (f i c n : Nat), i + f = 8 → f < n → c ≤ i → fX8_count_L4 ma x n (nI c) (nI i) (rSt ρ ma (mkS a X)) = some (if x = 0 then nI (a.1 0 0) else if x = 1 then nI (a.1 16 0) else if x = 2 then nI (a.1 23 0) else if x = 3 then nI (c + cnt (fun p => (a.2.1 22 p).isSome) f i) else -1, rSt ρ ma (mkS a X)) := by
  intro f
  induction f with
  | zero =>
    intro i c n hi hn hc
    obtain ⟨n, rfl⟩ : ∃ k, n = k + 1 := ⟨n - 1, by omega⟩
    have : i = 8 := by omega
    subst this
    simp only [fX8_count_L4, fX8_count_B4, show ((8 : Int32) ≤ nI 8) = True from by decide, if_true, q_g0, q_g16, q_g23, ob_some, cnt, Nat.add_zero]
    (repeat' split) <;> rfl
  | succ f ih =>
    intro i c n hi hn hc
    obtain ⟨n, rfl⟩ : ∃ k, n = k + 1 := ⟨n - 1, by omega⟩
    have hi8 : i < 8 := by omega
    have h8 : ((8 : Int32) ≤ nI i) = (8 ≤ i) := n_le (x := 8) (by decide) (by omega)
    simp only [fX8_count_L4, fX8_count_B4, h8, if_neg (Nat.not_le.mpr hi8), q_r22, ob_some, q_a22 ρ ma a X hi8, fX8_count_J27, n_s]
    simp only [pv_3 (o := a.2.1 22 i) (fun r hr => Nat.lt_trans (hb.2 _ _ _ hr) (by decide))]
    cases h : a.2.1 22 i with
    | none =>
      simp only [if_true]
      rw [show nI c + (0 : Int32) = nI c from by rw [show (0 : Int32) = nI 0 from rfl, nI_add]; rfl, ih (i + 1) c n (by omega) (by omega) (by omega)]
      simp [cnt, h]
    | some q =>
      simp only [reduceCtorEq, if_false, n_s]
      rw [ih (i + 1) (c + 1) n (by omega) (by omega) (by omega)]
      simp [cnt, h, Nat.add_assoc]
theorem rf_count (hb : Wb a) (x : Int32) : fX8_count ma x (rSt ρ ma (mkS a X)) = some ((sp_count a x).1, rSt ρ ma (mkS (sp_count a x).2 X)) := by
  unfold fX8_count
  have := rf_countL ρ ma a X hb x 8 0 0 20 rfl (by decide) (Nat.le_refl 0)
  rw [show (0 : Int32) = nI 0 from rfl, this]
  simp [sp_count]
end RF
