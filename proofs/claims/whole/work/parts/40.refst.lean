/-! The reference's state S: S.1 k j is place j of the int or boolean array in field k (an int field k is S.1 k 0), S.2 k j that of a long array. -/
abbrev rS : Type := (Nat → Nat → Int32) × (Nat → Nat → Int64)
def rInt (k : Nat) : Bool := k == 0 || k == 16 || k == 23 || k == 28 || k == 30 || k == 31 || k == 32
def rPos (k : Nat) : Nat := if k ≤ 15 then k else if k ≤ 22 then k - 1 else if k ≤ 27 then k - 2 else 26
/-- field number of the array at place i behind the object -/
def rFld (i : Nat) : Nat := if i ≤ 15 then i else if i ≤ 21 then i + 1 else if i ≤ 25 then i + 2 else 29
def rKd (k : Nat) : Nat := if k = 9 ∨ k = 14 ∨ k = 20 ∨ k = 21 ∨ k = 27 then 1 else if k = 10 ∨ k = 11 ∨ k = 15 then 2 else 0
def rLen (k : Nat) : Nat := match k with
  | 8 => 48 | 9 => 48 | 10 => 48 | 13 => 48 | 14 => 48 | 15 => 48
  | 17 => 520 | 18 => 6240 | 19 => 6240 | 20 => 24960 | 21 => 24960
  | 22 => 8 | 24 => 6 | 25 => 6 | 26 => 6 | 27 => 24 | 29 => 64
  | _ => 12
def rFs (S : rS) (ma : Nat) : List Value := (List.range 33).map fun k => if rInt k then .int (S.1 k 0) else .ref (ma + rPos k)
def rCell (S : rS) (ma i : Nat) : va_E := if i = 0 then .inr (10, rFs S ma) else .inl (rKd (rFld i), rLen (rFld i), if rKd (rFld i) = 1 then .inr (.inl (S.2 (rFld i))) else .inl (S.1 (rFld i)))
/-- a store with the reference at ma -/
def rSt (ρ : hmS) (ma : Nat) (S : rS) : hmS := (fun a => if ma ≤ a ∧ a < ma + 27 then some (rCell S ma (a - ma)) else ρ.1 a, ρ.2)
def RepR (S : rS) (ma : Nat) (σ : hmS) : Prop := ∀ i, i < 27 → σ.1 (ma + i) = some (rCell S ma i)
theorem rSt_of {S : rS} {ma : Nat} {σ : hmS} (h : RepR S ma σ) : σ = rSt σ ma S := by
  refine Prod.ext (funext fun a => ?_) rfl
  show σ.1 a = if ma ≤ a ∧ a < ma + 27 then some (rCell S ma (a - ma)) else σ.1 a
  split
  · rename_i hc
    have := h (a - ma) (by omega)
    rw [show ma + (a - ma) = a by omega] at this
    exact this
  · rfl
theorem rSt_rep (ρ : hmS) (ma : Nat) (S : rS) : RepR S ma (rSt ρ ma S) := by
  intro i hi
  show (if ma ≤ ma + i ∧ ma + i < ma + 27 then some (rCell S ma (ma + i - ma)) else _) = _
  rw [if_pos ⟨by omega, by omega⟩, show ma + i - ma = i by omega]
theorem rSt_at (ρ : hmS) (ma : Nat) (S : rS) {i : Nat} (hi : i < 27) : (rSt ρ ma S).1 (ma + i) = some (rCell S ma i) := rSt_rep ρ ma S i hi
theorem rSt_out (ρ : hmS) (ma : Nat) (S : rS) {a : Nat} (h : ¬ (ma ≤ a ∧ a < ma + 27)) : (rSt ρ ma S).1 a = ρ.1 a := by
  show (if ma ≤ a ∧ a < ma + 27 then _ else ρ.1 a) = ρ.1 a
  rw [if_neg h]
/-- S with another number at a place -/
def rU (S : rS) (k j : Nat) (x : Int32) : rS := (va_up S.1 k (upd (S.1 k) j x), S.2)
def rUL (S : rS) (k j : Nat) (x : Int64) : rS := (S.1, va_up S.2 k (vp_updL (S.2 k) j x))
theorem r_fs_at (S : rS) (ma : Nat) {k : Nat} (hk : k < 33) : (rFs S ma)[k]? = some (if rInt k then .int (S.1 k 0) else .ref (ma + rPos k)) := by
  unfold rFs
  rw [List.getElem?_map, List.getElem?_range hk]
  rfl
theorem r_hmF (ρ : hmS) (ma : Nat) (S : rS) {k : Nat} (hk : k < 33) : hmF (rSt ρ ma S) ma 10 k = some (if rInt k then .int (S.1 k 0) else .ref (ma + rPos k)) := by
  unfold hmF
  have h := rSt_at ρ ma S (i := 0) (by decide)
  rw [Nat.add_zero] at h
  rw [h]
  show (if (10 : Nat) = 10 then (rFs S ma)[k]? else none) = _
  rw [if_pos rfl, r_fs_at S ma hk]
theorem r_gI (ρ : hmS) (ma : Nat) (S : rS) {k : Nat} (hk : k < 33) (hi : rInt k = true) : gI (rSt ρ ma S) ma 10 k = some (S.1 k 0) := by
  unfold gI
  rw [r_hmF ρ ma S hk, if_pos hi]
theorem r_gR (ρ : hmS) (ma : Nat) (S : rS) {k : Nat} (hk : k < 33) (hi : rInt k = false) : gR (rSt ρ ma S) ma 10 k = some (some (ma + rPos k)) := by
  unfold gR
  rw [r_hmF ρ ma S hk, if_neg (by rw [hi]; decide)]
def rArr (k : Nat) : Bool := decide (k < 33) && !rInt k
theorem r_pos : ∀ k, k < 33 → rInt k = false → 0 < rPos k ∧ rPos k < 27 ∧ rFld (rPos k) = k := by decide +kernel
theorem r_pinj : ∀ k, k < 33 → rInt k = false → ∀ j, j < 33 → rInt j = false → rPos k = rPos j → k = j := by decide +kernel
theorem r_fld : ∀ i, i < 27 → 0 < i → rFld i < 33 ∧ rInt (rFld i) = false ∧ rPos (rFld i) = i := by decide +kernel
theorem r_cell (S : rS) (ma : Nat) {k : Nat} (hk : k < 33) (hi : rInt k = false) : rCell S ma (rPos k) = .inl (rKd k, rLen k, if rKd k = 1 then .inr (.inl (S.2 k)) else .inl (S.1 k)) := by
  obtain ⟨h1, h2, h3⟩ := r_pos k hk hi
  unfold rCell
  rw [if_neg (by omega), h3]
theorem r_at (ρ : hmS) (ma : Nat) (S : rS) {k : Nat} (hk : k < 33) (hi : rInt k = false) : (rSt ρ ma S).1 (ma + rPos k) = some (.inl (rKd k, rLen k, if rKd k = 1 then .inr (.inl (S.2 k)) else .inl (S.1 k))) := by
  rw [rSt_at ρ ma S (r_pos k hk hi).2.1, r_cell S ma hk hi]
theorem r_kdB : ∀ k, k < 33 → hmB (rKd k) = rKd k := by decide +kernel
theorem r_aI (ρ : hmS) (ma : Nat) (S : rS) {k j bk : Nat} (hk : k < 33) (hi : rInt k = false) (hb : rKd k = bk) (hn : bk ≠ 1) (hj : j < rLen k) (hs : rLen k < 2 ^ 31) : aI (rSt ρ ma S) bk (ma + rPos k) (nI j) = some (S.1 k j) := by
  unfold aI
  rw [r_at ρ ma S hk hi, if_neg (by rw [hb]; exact hn)]
  have h1 : hmB (rKd k) = bk := (r_kdB k hk).trans hb
  show (if hmB (rKd k) = bk ∧ ¬ (nI j < 0 ∨ rLen k ≤ (nI j).toNatClampNeg) then some (S.1 k (nI j).toNatClampNeg) else none) = _
  rw [if_pos ⟨h1, vp_in_nI hj hs⟩, nI_clamp (by omega)]
theorem r_aL (ρ : hmS) (ma : Nat) (S : rS) {k j : Nat} (hk : k < 33) (hi : rInt k = false) (hb : rKd k = 1) (hj : j < rLen k) (hs : rLen k < 2 ^ 31) : aL (rSt ρ ma S) (ma + rPos k) (nI j) = some (S.2 k j) := by
  unfold aL
  rw [r_at ρ ma S hk hi, if_pos hb]
  show (if hmB (rKd k) = 1 ∧ ¬ (nI j < 0 ∨ rLen k ≤ (nI j).toNatClampNeg) then some (S.2 k (nI j).toNatClampNeg) else none) = _
  rw [if_pos ⟨by rw [hb]; rfl, vp_in_nI hj hs⟩, nI_clamp (by omega)]
theorem r_fs_set (S : rS) (ma : Nat) {k : Nat} (hk : k < 33) (hi : rInt k = true) (v : Int32) : (rFs S ma).set k (.int v) = rFs (rU S k 0 v) ma := by
  apply List.ext_getElem?
  intro j
  by_cases hj : j < 33
  · by_cases hjk : j = k
    · subst hjk
      rw [List.getElem?_set_self (by unfold rFs; simp; exact hk), r_fs_at _ _ hj, if_pos hi]
      simp [rU, va_up, upd]
    · rw [List.getElem?_set_ne (Ne.symm hjk), r_fs_at _ _ hj, r_fs_at _ _ hj]
      simp [rU, va_up, hjk]
  · rw [List.getElem?_eq_none (by unfold rFs; simp; omega), List.getElem?_eq_none (by unfold rFs; simp; omega)]
theorem rSt_set (ρ : hmS) (ma : Nat) (S S' : rS) {i : Nat} (hi : i < 27) (h : ∀ j, j < 27 → j ≠ i → rCell S' ma j = rCell S ma j) : hmU (rSt ρ ma S) (ma + i) (rCell S' ma i) = rSt ρ ma S' := by
  refine Prod.ext (funext fun a => ?_) rfl
  show va_up (rSt ρ ma S).1 (ma + i) (some (rCell S' ma i)) a = (rSt ρ ma S').1 a
  by_cases ha : a = ma + i
  · subst ha
    rw [va_up_self, rSt_at ρ ma S' hi]
  · rw [va_up_ne _ _ ha]
    show (if ma ≤ a ∧ a < ma + 27 then some (rCell S ma (a - ma)) else ρ.1 a) = (if ma ≤ a ∧ a < ma + 27 then some (rCell S' ma (a - ma)) else ρ.1 a)
    split
    · rw [h (a - ma) (by omega) (by omega)]
    · rfl
theorem r_wF (ρ : hmS) (ma : Nat) (S : rS) {k : Nat} (hk : k < 33) (hi : rInt k = true) (v : Int32) : wF (rSt ρ ma S) ma 10 k (.int v) = some (rSt ρ ma (rU S k 0 v)) := by
  unfold wF
  have h := rSt_at ρ ma S (i := 0) (by decide)
  rw [Nat.add_zero] at h
  rw [h]
  show (if (10 : Nat) = 10 ∧ k < (rFs S ma).length then some (hmU (rSt ρ ma S) ma (.inr (10, (rFs S ma).set k (.int v)))) else none) = _
  rw [if_pos ⟨rfl, by unfold rFs; simp; exact hk⟩, r_fs_set S ma hk hi]
  have := rSt_set ρ ma S (rU S k 0 v) (i := 0) (by decide) (fun j hj hj0 => by
    obtain ⟨h1, h2, h3⟩ := r_fld j hj (by omega)
    unfold rCell
    rw [if_neg hj0, if_neg hj0]
    have hne : rFld j ≠ k := fun e => by rw [e, hi] at h2; cases h2
    show (_ : va_E) = _
    simp [rU, va_up, hne])
  rw [Nat.add_zero] at this
  exact congrArg some this
theorem r_sI (ρ : hmS) (ma : Nat) (S : rS) {k j bk : Nat} (hk : k < 33) (hi : rInt k = false) (hb : rKd k = bk) (hn : bk ≠ 1) (h8 : bk < 8) (hj : j < rLen k) (hs : rLen k < 2 ^ 31) (x : Int32) : sI (rSt ρ ma S) bk (ma + rPos k) (nI j) x = some (rSt ρ ma (rU S k j x)) := by
  unfold sI
  rw [r_at ρ ma S hk hi, if_neg (by rw [hb]; exact hn)]
  show (if (rKd k = bk ∧ rKd k < 8) ∧ ¬ (nI j < 0 ∨ rLen k ≤ (nI j).toNatClampNeg) then some (hmU (rSt ρ ma S) (ma + rPos k) (.inl (rKd k, rLen k, .inl (upd (S.1 k) (nI j).toNatClampNeg x)))) else none) = _
  rw [if_pos ⟨⟨hb, by rw [hb]; exact h8⟩, vp_in_nI hj hs⟩, nI_clamp (by omega)]
  obtain ⟨p1, p2, p3⟩ := r_pos k hk hi
  have := rSt_set ρ ma S (rU S k j x) (i := rPos k) p2 (fun i hi2 hne => by
    unfold rCell
    by_cases h0 : i = 0
    · subst h0
      rw [if_pos rfl, if_pos rfl]
      have : rFs (rU S k j x) ma = rFs S ma := by
        apply List.ext_getElem?
        intro q
        by_cases hq : q < 33
        · rw [r_fs_at _ _ hq, r_fs_at _ _ hq]
          by_cases hqk : q = k
          · subst hqk; rw [hi]; rfl
          · simp [rU, va_up, hqk]
        · rw [List.getElem?_eq_none (by unfold rFs; simp; omega), List.getElem?_eq_none (by unfold rFs; simp; omega)]
      rw [this]
    · rw [if_neg h0, if_neg h0]
      obtain ⟨f1, f2, f3⟩ := r_fld i hi2 (by omega)
      have hnk : rFld i ≠ k := fun e => hne (by rw [← f3, e])
      show (_ : va_E) = _
      simp [rU, va_up, hnk])
  rw [r_cell _ ma hk hi, if_neg (by rw [hb]; exact hn)] at this
  rw [show (rU S k j x).1 k = upd (S.1 k) j x by simp [rU, va_up]] at this
  exact congrArg some this
theorem r_sL (ρ : hmS) (ma : Nat) (S : rS) {k j : Nat} (hk : k < 33) (hi : rInt k = false) (hb : rKd k = 1) (hj : j < rLen k) (hs : rLen k < 2 ^ 31) (x : Int64) : sL (rSt ρ ma S) (ma + rPos k) (nI j) x = some (rSt ρ ma (rUL S k j x)) := by
  unfold sL
  rw [r_at ρ ma S hk hi, if_pos hb]
  show (if rKd k = 1 ∧ ¬ (nI j < 0 ∨ rLen k ≤ (nI j).toNatClampNeg) then some (hmU (rSt ρ ma S) (ma + rPos k) (.inl (rKd k, rLen k, .inr (.inl (vp_updL (S.2 k) (nI j).toNatClampNeg x))))) else none) = _
  rw [if_pos ⟨hb, vp_in_nI hj hs⟩, nI_clamp (by omega)]
  obtain ⟨p1, p2, p3⟩ := r_pos k hk hi
  have := rSt_set ρ ma S (rUL S k j x) (i := rPos k) p2 (fun i hi2 hne => by
    unfold rCell
    by_cases h0 : i = 0
    · subst h0
      rw [if_pos rfl, if_pos rfl]
      rfl
    · rw [if_neg h0, if_neg h0]
      obtain ⟨f1, f2, f3⟩ := r_fld i hi2 (by omega)
      have hnk : rFld i ≠ k := fun e => hne (by rw [← f3, e])
      show (_ : va_E) = _
      simp [rUL, va_up, hnk])
  rw [r_cell _ ma hk hi, if_pos hb] at this
  rw [show (rUL S k j x).2 k = vp_updL (S.2 k) j x by simp [rUL, va_up]] at this
  exact congrArg some this
theorem r_obC (ρ : hmS) (ma : Nat) (S : rS) : obC (rSt ρ ma S) ma 10 = some () := by
  unfold obC
  have h := rSt_at ρ ma S (i := 0) (by decide)
  rw [Nat.add_zero] at h
  rw [h]
  rfl
