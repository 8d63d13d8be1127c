/-! The class's objects as items (k, x, y): 0 the object itself, 1 2 3 its rows, 4 the place of what was found; of type x: 5 itself, 6 its fields with rows 7 8 9, 10 its locals with rows 11 12 13, 14 its name with bytes 15; of object x: 16 itself, 17 its levels, 18 level of type y with 19 cells and 20 copies; of lambda x: 21 itself, 22 copies. -/
abbrev cG : Type := (Nat → Nat → Nat → Nat) × (Nat → Nat × Nat × Nat)
def cpl (a : aS) (u : Nat) : Nat := if a.1 1 u = 4 then 0 else a.1 5 u
def hs (a : aS) (o u : Nat) : Nat := (a.2.1 18 (12 * o + u)).getD 0
def lt (o : Option Nat) : Int32 := match o with
  | none => -1
  | some c => nI c
def mp (g : Nat → Nat → Nat → Nat) (k : Nat) (o : Option Nat) : Option Nat := match o with
  | none => none
  | some x => some (g k x 0)
def zr (E : hmG) (n q : Nat) : Nat := if n = 0 then hmZ E 0 else q
def vld (b : Nat) (a : aS) (k x y : Nat) : Prop := (k < 5 ∧ x = 0 ∧ y = 0) ∨ (5 ≤ k ∧ k < 16 ∧ x < a.1 0 0 ∧ y = 0) ∨ ((k = 16 ∨ k = 17) ∧ x < a.1 16 0 ∧ y = 0) ∨ (k = 18 ∧ x < b ∧ y < 12 ∧ isO a x y = true) ∨ (k = 19 ∧ x < b ∧ y < 12 ∧ isO a x y = true ∧ hs a x y ≠ 0) ∨ (k = 20 ∧ x < b ∧ y < 12 ∧ isO a x y = true ∧ cpl a y ≠ 0) ∨ (k = 21 ∧ x < a.1 23 0 ∧ y = 0) ∨ (k = 22 ∧ x < a.1 23 0 ∧ y = 0 ∧ a.1 26 x ≠ 0)
def rowI (kd n : Nat) (s : Nat → Int32) (c : va_E) : Prop := ∃ f : Nat → Int32, c = .inl (kd, n, .inl f) ∧ ∀ i, i < n → f i = s i
def rowL (n : Nat) (s : Nat → Int64) (c : va_E) : Prop := ∃ f : Nat → Int64, c = .inl (1, n, .inr (.inl f)) ∧ ∀ i, i < n → f i = s i
def rowR (kd n m : Nat) (s : Nat → Option Nat) (c : va_E) : Prop := ∃ f : Nat → Option Nat, c = .inl (kd, n, .inr (.inr (.inr (.inr f)))) ∧ ∀ i, i < m → f i = s i
def okc (E : hmG) (a : aS) (g : Nat → Nat → Nat → Nat) (k x y : Nat) (c : va_E) : Prop := match k with
  | 0 => c = .inr (9, [.ref (g 1 0 0), .int (nI (a.1 0 0)), .ref (g 2 0 0), .int (nI (a.1 16 0)), .ref (g 3 0 0), .int (nI (a.1 23 0)), .ref (g 4 0 0), .int a.2.2.2])
  | 1 => rowR 4 12 (a.1 0 0) (fun t => some (g 5 t 0)) c
  | 2 => rowR 5 8 8 (fun p => mp g 16 (a.2.1 22 p)) c
  | 3 => rowR 6 6 (a.1 23 0) (fun j => some (g 21 j 0)) c
  | 4 => ∃ (r : Option Nat) (i z : Int32), c = .inr (2, [va_rf r, .int i, .int z])
  | 5 => c = .inr (8, [.int (nI x), .int (nI (a.1 1 x)), va_rf (mp g 5 (a.2.1 2 x)), .int (lt (a.2.1 3 x)), .int (nI (a.1 5 x)), .int (b2 (bd a x)), .ref (g 14 x 0), .ref (g 6 x 0), .ref (g 10 x 0), .int (nI (a.1 11 x)), va_rf (mp g 5 (a.2.1 6 x))])
  | 6 => c = .inr (3, [.ref (g 7 x 0), .ref (g 8 x 0), .ref (g 9 x 0), .int (nI (a.1 7 x))])
  | 7 => rowI 0 4 (fun i => nI (a.1 8 (4 * x + i))) c
  | 8 => rowL 4 (fun i => a.2.2.1 9 (4 * x + i)) c
  | 9 => rowI 2 4 (fun i => nI (a.1 10 (4 * x + i))) c
  | 10 => c = .inr (6, [.ref (g 11 x 0), .ref (g 12 x 0), .ref (g 13 x 0), .int (nI (a.1 12 x))])
  | 11 => rowI 0 4 (fun i => nI (a.1 13 (4 * x + i))) c
  | 12 => rowL 4 (fun i => a.2.2.1 14 (4 * x + i)) c
  | 13 => rowI 2 4 (fun i => nI (a.1 15 (4 * x + i))) c
  | 14 => c = .inr (0, [.ref (g 15 x 0), .int 0, .int 0, .int 0])
  | 15 => rowI 3 (nmT a x).length (fun i => nI ((nmT a x).getD i 0)) c
  | 16 => c = .inr (7, [.ref (g 5 (a.1 17 x) 0), .ref (g 17 x 0)])
  | 17 => ∃ l : List Nat, rowR 7 l.length l.length (fun i => some (g 18 x (l.getD i 0))) c ∧ l.Nodup ∧ ∀ u, u ∈ l ↔ u < 12 ∧ isO a x u = true
  | 18 => c = .inr (5, [.ref (g 5 y 0), va_rf (mp g 16 (a.2.1 19 (12 * x + y))), .ref (zr E (hs a x y) (g 19 x y)), .ref (zr E (cpl a y) (g 20 x y))])
  | 19 => rowL (hs a x y) (fun i => a.2.2.1 20 (4 * (12 * x + y) + i)) c
  | 20 => rowL (cpl a y) (fun i => a.2.2.1 21 (4 * (12 * x + y) + i)) c
  | 21 => c = .inr (4, [.ref (g 5 (a.1 24 x) 0), va_rf (mp g 16 (a.2.1 25 x)), .ref (zr E (a.1 26 x) (g 22 x 0))])
  | 22 => rowL (a.1 26 x) (fun i => a.2.2.1 27 (4 * x + i)) c
  | _ => False
/-- what is not the class's own: what was there before, and the reference -/
def outS (E : hmG) (ma p : Nat) : Prop := p < hmL E ∨ (ma ≤ p ∧ p < ma + 27)
def stt (E : hmG) (σ : hmS) : Prop := σ.1 (hmZ E 0) = some (.inl (8, 0, .inr (.inl (fun _ => 0)))) ∧ σ.1 (hmZ E 1) = some (.inl (10, 100, .inl dgO)) ∧ σ.1 (hmZ E 2) = some (.inl (11, 100, .inl dgT)) ∧ (hmZ E 0 < hmL E ∧ hmZ E 1 < hmL E ∧ hmZ E 2 < hmL E) ∧ hmL E ≤ σ.2
def RC (E : hmG) (xa ma b : Nat) (a : aS) (w : cG) (σ : hmS) : Prop := (∀ k x y, vld b a k x y → w.1 k x y < σ.2 ∧ w.2 (w.1 k x y) = (k, x, y) ∧ ∃ c, σ.1 (w.1 k x y) = some c ∧ okc E a w.1 k x y c) ∧ w.1 0 0 0 = xa ∧ (∀ p, outS E ma p → w.2 p = (99, 0, 0)) ∧ stt E σ ∧ ma + 27 ≤ σ.2
def Fr (E : hmG) (ma : Nat) (σ σ' : hmS) : Prop := σ.2 ≤ σ'.2 ∧ ∀ p, outS E ma p → σ'.1 p = σ.1 p
theorem Fr.refl (E : hmG) (ma : Nat) (σ : hmS) : Fr E ma σ σ := ⟨Nat.le_refl _, fun _ _ => rfl⟩
theorem Fr.trans {E : hmG} {ma : Nat} {σ σ' σ'' : hmS} (h : Fr E ma σ σ') (h' : Fr E ma σ' σ'') : Fr E ma σ σ'' := ⟨Nat.le_trans h.1 h'.1, fun p hp => (h'.2 p hp).trans (h.2 p hp)⟩
theorem stt_fr {E : hmG} {ma : Nat} {σ σ' : hmS} (h : stt E σ) (hf : Fr E ma σ σ') : stt E σ' := by
  obtain ⟨h1, h2, h3, ⟨h4, h5, h6⟩, h7⟩ := h
  exact ⟨by rw [hf.2 _ (Or.inl h4)]; exact h1, by rw [hf.2 _ (Or.inl h5)]; exact h2, by rw [hf.2 _ (Or.inl h6)]; exact h3, ⟨h4, h5, h6⟩, Nat.le_trans h7 hf.1⟩
theorem hmU_s (σ : hmS) (p : Nat) (c : va_E) : (hmU σ p c).1 p = some c := va_up_self _ _ _
theorem hmU_n (σ : hmS) {p q : Nat} (c : va_E) (h : q ≠ p) : (hmU σ p c).1 q = σ.1 q := va_up_ne _ _ h
theorem vld_k {b : Nat} {a : aS} {k x y : Nat} (h : vld b a k x y) : k < 23 := by
  rcases h with h | h | h | h | h | h | h | h <;> omega
section RC
variable {E : hmG} {xa ma b : Nat} {a : aS} {w : cG} {σ : hmS}
theorem RC.out (h : RC E xa ma b a w σ) {k x y : Nat} (hv : vld b a k x y) : ¬ outS E ma (w.1 k x y) := fun q => by
  have h1 := (h.1 k x y hv).2.1
  rw [h.2.2.1 _ q] at h1
  have h2 : 99 = k := congrArg Prod.fst h1
  have := vld_k hv
  omega
theorem RC.fr (h : RC E xa ma b a w σ) {k x y : Nat} (hv : vld b a k x y) (c : va_E) : Fr E ma σ (hmU σ (w.1 k x y) c) := ⟨Nat.le_refl _, fun p hp => hmU_n σ c (fun e => h.out hv (e ▸ hp))⟩
theorem RC.one (h : RC E xa ma b a w σ) {k x y : Nat} (hv : vld b a k x y) {c : va_E} {a' : aS} (hvl : ∀ k x y, vld b a' k x y → vld b a k x y) (ho : ∀ k' x' y', vld b a k' x' y' → ¬ (k' = k ∧ x' = x ∧ y' = y) → ∀ c, okc E a w.1 k' x' y' c → okc E a' w.1 k' x' y' c) (hn : okc E a' w.1 k x y c) : RC E xa ma b a' w (hmU σ (w.1 k x y) c) := by
  refine ⟨fun k' x' y' hv' => ?_, h.2.1, h.2.2.1, stt_fr h.2.2.2.1 (h.fr hv c), h.2.2.2.2⟩
  obtain ⟨h1, h2, c', h3, h4⟩ := h.1 k' x' y' (hvl _ _ _ hv')
  refine ⟨h1, h2, ?_⟩
  by_cases e : k' = k ∧ x' = x ∧ y' = y
  · obtain ⟨rfl, rfl, rfl⟩ := e
    exact ⟨c, hmU_s _ _ _, hn⟩
  · refine ⟨c', ?_, ho k' x' y' (hvl _ _ _ hv') e c' h4⟩
    rw [hmU_n σ c (fun q => e ?_)]
    · exact h3
    · have h5 := (h.1 k x y hv).2.1
      rw [← q, h2] at h5
      cases h5
      exact ⟨rfl, rfl, rfl⟩
theorem RC.cell (h : RC E xa ma b a w σ) {k x y : Nat} (hv : vld b a k x y) : ∃ c, σ.1 (w.1 k x y) = some c ∧ okc E a w.1 k x y c := (h.1 k x y hv).2.2
end RC
theorem vld_0 {b : Nat} {a : aS} {k : Nat} (h : k < 5) : vld b a k 0 0 := Or.inl ⟨h, rfl, rfl⟩
theorem vld_t {b : Nat} {a : aS} {k x : Nat} (h1 : 5 ≤ k) (h2 : k < 16) (h : x < a.1 0 0) : vld b a k x 0 := Or.inr (Or.inl ⟨h1, h2, h, rfl⟩)
theorem vld_o {b : Nat} {a : aS} {k x : Nat} (h1 : k = 16 ∨ k = 17) (h : x < a.1 16 0) : vld b a k x 0 := Or.inr (Or.inr (Or.inl ⟨h1, h, rfl⟩))
theorem vld_18 {b : Nat} {a : aS} {x y : Nat} (h1 : x < b) (h2 : y < 12) (h : isO a x y = true) : vld b a 18 x y := Or.inr (Or.inr (Or.inr (Or.inl ⟨rfl, h1, h2, h⟩)))
theorem vld_19 {b : Nat} {a : aS} {x y : Nat} (h1 : x < b) (h2 : y < 12) (h : isO a x y = true) (h0 : hs a x y ≠ 0) : vld b a 19 x y := Or.inr (Or.inr (Or.inr (Or.inr (Or.inl ⟨rfl, h1, h2, h, h0⟩))))
theorem vld_20 {b : Nat} {a : aS} {x y : Nat} (h1 : x < b) (h2 : y < 12) (h : isO a x y = true) (h0 : cpl a y ≠ 0) : vld b a 20 x y := Or.inr (Or.inr (Or.inr (Or.inr (Or.inr (Or.inl ⟨rfl, h1, h2, h, h0⟩)))))
theorem vld_21 {b : Nat} {a : aS} {x : Nat} (h : x < a.1 23 0) : vld b a 21 x 0 := Or.inr (Or.inr (Or.inr (Or.inr (Or.inr (Or.inr (Or.inl ⟨rfl, h, rfl⟩))))))
theorem vld_22 {b : Nat} {a : aS} {x : Nat} (h : x < a.1 23 0) (h0 : a.1 26 x ≠ 0) : vld b a 22 x 0 := Or.inr (Or.inr (Or.inr (Or.inr (Or.inr (Or.inr (Or.inr ⟨rfl, h, rfl, h0⟩))))))
-- reading a cell
theorem gI_of {σ : hmS} {p ci k : Nat} {fs : List Value} {v : Int32} (h : σ.1 p = some (.inr (ci, fs))) (hk : fs[k]? = some (.int v)) : gI σ p ci k = some v := by
  unfold gI hmF
  rw [h]
  show (match (if ci = ci then fs[k]? else none) with | some (.int v) => some v | _ => none) = _
  rw [if_pos rfl, hk]
theorem gR_of {σ : hmS} {p ci k : Nat} {fs : List Value} {r : Option Nat} (h : σ.1 p = some (.inr (ci, fs))) (hk : fs[k]? = some (va_rf r)) : gR σ p ci k = some r := by
  unfold gR hmF
  rw [h]
  simp only [if_true, hk]
  cases r <;> rfl
theorem obC_of {σ : hmS} {p ci : Nat} {fs : List Value} (h : σ.1 p = some (.inr (ci, fs))) : obC σ p ci = some () := by
  unfold obC
  rw [h]
  simp
theorem wF_of {σ : hmS} {p ci k : Nat} {fs : List Value} (h : σ.1 p = some (.inr (ci, fs))) (hk : k < fs.length) (v : Value) : wF σ p ci k v = some (hmU σ p (.inr (ci, fs.set k v))) := by
  unfold wF
  rw [h]
  simp [hk]
theorem aN_of {σ : hmS} {p : Nat} {x : Nat × Nat × hmX} (h : σ.1 p = some (.inl x)) : aN σ p = some (nI x.2.1) := by
  unfold aN
  rw [h]
  rfl
theorem aI_of {σ : hmS} {p kd n i bk : Nat} {f : Nat → Int32} (h : σ.1 p = some (.inl (kd, n, .inl f))) (hb : hmB kd = bk) (hi : i < n) (hn : n < 2 ^ 31) : aI σ bk p (nI i) = some (f i) := by
  unfold aI
  rw [h]
  show (if hmB kd = bk ∧ ¬ (nI i < 0 ∨ n ≤ (nI i).toNatClampNeg) then some (f (nI i).toNatClampNeg) else none) = _
  rw [if_pos ⟨hb, vp_in_nI hi hn⟩, nI_clamp (by omega)]
theorem aL_of {σ : hmS} {p kd n i : Nat} {f : Nat → Int64} (h : σ.1 p = some (.inl (kd, n, .inr (.inl f)))) (hb : hmB kd = 1) (hi : i < n) (hn : n < 2 ^ 31) : aL σ p (nI i) = some (f i) := by
  unfold aL
  rw [h]
  show (if hmB kd = 1 ∧ ¬ (nI i < 0 ∨ n ≤ (nI i).toNatClampNeg) then some (f (nI i).toNatClampNeg) else none) = _
  rw [if_pos ⟨hb, vp_in_nI hi hn⟩, nI_clamp (by omega)]
theorem aR_of {σ : hmS} {p kd n i : Nat} {f : Nat → Option Nat} (h : σ.1 p = some (.inl (kd, n, .inr (.inr (.inr (.inr f)))))) (h1 : 4 ≤ kd) (h2 : kd < 8) (hi : i < n) (hn : n < 2 ^ 31) : aR σ p (nI i) = some (f i) := by
  unfold aR
  rw [h]
  have hin : ¬ (nI i < 0 ∨ n ≤ i) := by have this : ¬ (nI i < 0 ∨ n ≤ (nI i).toNatClampNeg) := vp_in_nI hi hn; rwa [nI_clamp (by omega)] at this
  simp only [h1, h2, true_and, nI_clamp (show i < 2 ^ 31 by omega), hin, not_false_eq_true, if_true]
theorem sI_of {σ : hmS} {p kd n i : Nat} {f : Nat → Int32} (h : σ.1 p = some (.inl (kd, n, .inl f))) (h8 : kd < 8) (hi : i < n) (hn : n < 2 ^ 31) (v : Int32) : sI σ kd p (nI i) v = some (hmU σ p (.inl (kd, n, .inl (upd f i v)))) := by
  unfold sI
  rw [h]
  show (if (kd = kd ∧ kd < 8) ∧ ¬ (nI i < 0 ∨ n ≤ (nI i).toNatClampNeg) then some (hmU σ p (.inl (kd, n, .inl (upd f (nI i).toNatClampNeg v)))) else none) = _
  rw [if_pos ⟨⟨rfl, h8⟩, vp_in_nI hi hn⟩, nI_clamp (by omega)]
theorem sL_of {σ : hmS} {p n i : Nat} {f : Nat → Int64} (h : σ.1 p = some (.inl (1, n, .inr (.inl f)))) (hi : i < n) (hn : n < 2 ^ 31) (v : Int64) : sL σ p (nI i) v = some (hmU σ p (.inl (1, n, .inr (.inl (vp_updL f i v))))) := by
  unfold sL
  rw [h]
  show (if (1 : Nat) = 1 ∧ ¬ (nI i < 0 ∨ n ≤ (nI i).toNatClampNeg) then some (hmU σ p (.inl (1, n, .inr (.inl (vp_updL f (nI i).toNatClampNeg v))))) else none) = _
  rw [if_pos ⟨rfl, vp_in_nI hi hn⟩, nI_clamp (by omega)]
theorem sR_of {σ : hmS} {p kd n i : Nat} {f : Nat → Option Nat} (h : σ.1 p = some (.inl (kd, n, .inr (.inr (.inr (.inr f)))))) (h1 : 4 ≤ kd) (h2 : kd < 8) (hi : i < n) (hn : n < 2 ^ 31) {r : Option Nat} (hr : okR σ (hmC kd) r = true) : sR σ p (nI i) r = some (hmU σ p (.inl (kd, n, .inr (.inr (.inr (.inr (va_up f i r))))))) := by
  unfold sR
  rw [h]
  have hin : ¬ (nI i < 0 ∨ n ≤ i) := by have this : ¬ (nI i < 0 ∨ n ≤ (nI i).toNatClampNeg) := vp_in_nI hi hn; rwa [nI_clamp (by omega)] at this
  simp only [h1, h2, true_and, and_true, nI_clamp (show i < 2 ^ 31 by omega), hin, not_false_eq_true, hr, if_true]
section CR
variable {E : hmG} {xa ma b : Nat} {a : aS} {w : cG} {σ : hmS}
theorem RC.c0 (h : RC E xa ma b a w σ) : σ.1 xa = some (.inr (9, [.ref (w.1 1 0 0), .int (nI (a.1 0 0)), .ref (w.1 2 0 0), .int (nI (a.1 16 0)), .ref (w.1 3 0 0), .int (nI (a.1 23 0)), .ref (w.1 4 0 0), .int a.2.2.2])) := by
  obtain ⟨c, h1, h2⟩ := h.cell (vld_0 (k := 0) (by decide))
  rw [h.2.1] at h1
  rw [h1, show c = _ from h2]

theorem RC.m0 (h : RC E xa ma b a w σ) : gR σ xa 9 0 = some (some (w.1 1 0 0)) := gR_of h.c0 rfl
theorem RC.m1 (h : RC E xa ma b a w σ) : gI σ xa 9 1 = some (nI (a.1 0 0)) := gI_of h.c0 rfl
theorem RC.m2 (h : RC E xa ma b a w σ) : gR σ xa 9 2 = some (some (w.1 2 0 0)) := gR_of h.c0 rfl
theorem RC.m3 (h : RC E xa ma b a w σ) : gI σ xa 9 3 = some (nI (a.1 16 0)) := gI_of h.c0 rfl
theorem RC.m4 (h : RC E xa ma b a w σ) : gR σ xa 9 4 = some (some (w.1 3 0 0)) := gR_of h.c0 rfl
theorem RC.m5 (h : RC E xa ma b a w σ) : gI σ xa 9 5 = some (nI (a.1 23 0)) := gI_of h.c0 rfl
theorem RC.m6 (h : RC E xa ma b a w σ) : gR σ xa 9 6 = some (some (w.1 4 0 0)) := gR_of h.c0 rfl
theorem RC.m7 (h : RC E xa ma b a w σ) : gI σ xa 9 7 = some a.2.2.2 := gI_of h.c0 rfl
theorem RC.mC (h : RC E xa ma b a w σ) : obC σ xa 9 = some () := obC_of h.c0
theorem RC.tyA (h : RC E xa ma b a w σ) (hn : a.1 0 0 ≤ 12) {t : Nat} (ht : t < a.1 0 0) : aR σ (w.1 1 0 0) (nI t) = some (some (w.1 5 t 0)) := by
  obtain ⟨c, h1, f, rfl, h2⟩ := h.cell (vld_0 (k := 1) (by decide))
  rw [aR_of h1 (by decide) (by decide) (show t < 12 by omega) (by decide), h2 t ht]
theorem RC.plA (h : RC E xa ma b a w σ) {p : Nat} (hp : p < 8) : aR σ (w.1 2 0 0) (nI p) = some (mp w.1 16 (a.2.1 22 p)) := by
  obtain ⟨c, h1, f, rfl, h2⟩ := h.cell (vld_0 (k := 2) (by decide))
  rw [aR_of h1 (by decide) (by decide) hp (by decide), h2 p hp]
theorem RC.laA (h : RC E xa ma b a w σ) (hn : a.1 23 0 ≤ 6) {j : Nat} (hj : j < a.1 23 0) : aR σ (w.1 3 0 0) (nI j) = some (some (w.1 21 j 0)) := by
  obtain ⟨c, h1, f, rfl, h2⟩ := h.cell (vld_0 (k := 3) (by decide))
  rw [aR_of h1 (by decide) (by decide) (show j < 6 by omega) (by decide), h2 j hj]
theorem RC.tc (h : RC E xa ma b a w σ) {t : Nat} (ht : t < a.1 0 0) : σ.1 (w.1 5 t 0) = some (.inr (8, [.int (nI t), .int (nI (a.1 1 t)), va_rf (mp w.1 5 (a.2.1 2 t)), .int (lt (a.2.1 3 t)), .int (nI (a.1 5 t)), .int (b2 (bd a t)), .ref (w.1 14 t 0), .ref (w.1 6 t 0), .ref (w.1 10 t 0), .int (nI (a.1 11 t)), va_rf (mp w.1 5 (a.2.1 6 t))])) := by
  obtain ⟨c, h1, h2⟩ := h.cell (vld_t (k := 5) (by decide) (by decide) ht)
  rw [h1, show c = _ from h2]
theorem RC.t0 (h : RC E xa ma b a w σ) {t : Nat} (ht : t < a.1 0 0) : gI σ (w.1 5 t 0) 8 0 = some (nI t) := gI_of (h.tc ht) rfl
theorem RC.t1 (h : RC E xa ma b a w σ) {t : Nat} (ht : t < a.1 0 0) : gI σ (w.1 5 t 0) 8 1 = some (nI (a.1 1 t)) := gI_of (h.tc ht) rfl
theorem RC.t2 (h : RC E xa ma b a w σ) {t : Nat} (ht : t < a.1 0 0) : gR σ (w.1 5 t 0) 8 2 = some (mp w.1 5 (a.2.1 2 t)) := gR_of (h.tc ht) rfl
theorem RC.t3 (h : RC E xa ma b a w σ) {t : Nat} (ht : t < a.1 0 0) : gI σ (w.1 5 t 0) 8 3 = some (lt (a.2.1 3 t)) := gI_of (h.tc ht) rfl
theorem RC.t4 (h : RC E xa ma b a w σ) {t : Nat} (ht : t < a.1 0 0) : gI σ (w.1 5 t 0) 8 4 = some (nI (a.1 5 t)) := gI_of (h.tc ht) rfl
theorem RC.t5 (h : RC E xa ma b a w σ) {t : Nat} (ht : t < a.1 0 0) : gI σ (w.1 5 t 0) 8 5 = some (b2 (bd a t)) := gI_of (h.tc ht) rfl
theorem RC.t6 (h : RC E xa ma b a w σ) {t : Nat} (ht : t < a.1 0 0) : gR σ (w.1 5 t 0) 8 6 = some (some (w.1 14 t 0)) := gR_of (h.tc ht) rfl
theorem RC.t7 (h : RC E xa ma b a w σ) {t : Nat} (ht : t < a.1 0 0) : gR σ (w.1 5 t 0) 8 7 = some (some (w.1 6 t 0)) := gR_of (h.tc ht) rfl
theorem RC.t8 (h : RC E xa ma b a w σ) {t : Nat} (ht : t < a.1 0 0) : gR σ (w.1 5 t 0) 8 8 = some (some (w.1 10 t 0)) := gR_of (h.tc ht) rfl
theorem RC.t9 (h : RC E xa ma b a w σ) {t : Nat} (ht : t < a.1 0 0) : gI σ (w.1 5 t 0) 8 9 = some (nI (a.1 11 t)) := gI_of (h.tc ht) rfl
theorem RC.t10 (h : RC E xa ma b a w σ) {t : Nat} (ht : t < a.1 0 0) : gR σ (w.1 5 t 0) 8 10 = some (mp w.1 5 (a.2.1 6 t)) := gR_of (h.tc ht) rfl
theorem RC.tC (h : RC E xa ma b a w σ) {t : Nat} (ht : t < a.1 0 0) : obC σ (w.1 5 t 0) 8 = some () := obC_of (h.tc ht)
theorem RC.fc (h : RC E xa ma b a w σ) {t : Nat} (ht : t < a.1 0 0) : σ.1 (w.1 6 t 0) = some (.inr (3, [.ref (w.1 7 t 0), .ref (w.1 8 t 0), .ref (w.1 9 t 0), .int (nI (a.1 7 t))])) := by
  obtain ⟨c, h1, h2⟩ := h.cell (vld_t (k := 6) (by decide) (by decide) ht)
  rw [h1, show c = _ from h2]
theorem RC.f0 (h : RC E xa ma b a w σ) {t : Nat} (ht : t < a.1 0 0) : gR σ (w.1 6 t 0) 3 0 = some (some (w.1 7 t 0)) := gR_of (h.fc ht) rfl
theorem RC.f1 (h : RC E xa ma b a w σ) {t : Nat} (ht : t < a.1 0 0) : gR σ (w.1 6 t 0) 3 1 = some (some (w.1 8 t 0)) := gR_of (h.fc ht) rfl
theorem RC.f2 (h : RC E xa ma b a w σ) {t : Nat} (ht : t < a.1 0 0) : gR σ (w.1 6 t 0) 3 2 = some (some (w.1 9 t 0)) := gR_of (h.fc ht) rfl
theorem RC.f3 (h : RC E xa ma b a w σ) {t : Nat} (ht : t < a.1 0 0) : gI σ (w.1 6 t 0) 3 3 = some (nI (a.1 7 t)) := gI_of (h.fc ht) rfl
theorem RC.fC (h : RC E xa ma b a w σ) {t : Nat} (ht : t < a.1 0 0) : obC σ (w.1 6 t 0) 3 = some () := obC_of (h.fc ht)
theorem RC.lc (h : RC E xa ma b a w σ) {t : Nat} (ht : t < a.1 0 0) : σ.1 (w.1 10 t 0) = some (.inr (6, [.ref (w.1 11 t 0), .ref (w.1 12 t 0), .ref (w.1 13 t 0), .int (nI (a.1 12 t))])) := by
  obtain ⟨c, h1, h2⟩ := h.cell (vld_t (k := 10) (by decide) (by decide) ht)
  rw [h1, show c = _ from h2]
theorem RC.l0 (h : RC E xa ma b a w σ) {t : Nat} (ht : t < a.1 0 0) : gR σ (w.1 10 t 0) 6 0 = some (some (w.1 11 t 0)) := gR_of (h.lc ht) rfl
theorem RC.l1 (h : RC E xa ma b a w σ) {t : Nat} (ht : t < a.1 0 0) : gR σ (w.1 10 t 0) 6 1 = some (some (w.1 12 t 0)) := gR_of (h.lc ht) rfl
theorem RC.l2 (h : RC E xa ma b a w σ) {t : Nat} (ht : t < a.1 0 0) : gR σ (w.1 10 t 0) 6 2 = some (some (w.1 13 t 0)) := gR_of (h.lc ht) rfl
theorem RC.l3 (h : RC E xa ma b a w σ) {t : Nat} (ht : t < a.1 0 0) : gI σ (w.1 10 t 0) 6 3 = some (nI (a.1 12 t)) := gI_of (h.lc ht) rfl
theorem RC.lC (h : RC E xa ma b a w σ) {t : Nat} (ht : t < a.1 0 0) : obC σ (w.1 10 t 0) 6 = some () := obC_of (h.lc ht)
theorem RC.sc (h : RC E xa ma b a w σ) {t : Nat} (ht : t < a.1 0 0) : σ.1 (w.1 14 t 0) = some (.inr (0, [.ref (w.1 15 t 0), .int 0, .int 0, .int 0])) := by
  obtain ⟨c, h1, h2⟩ := h.cell (vld_t (k := 14) (by decide) (by decide) ht)
  rw [h1, show c = _ from h2]
theorem RC.s0 (h : RC E xa ma b a w σ) {t : Nat} (ht : t < a.1 0 0) : gR σ (w.1 14 t 0) 0 0 = some (some (w.1 15 t 0)) := gR_of (h.sc ht) rfl
theorem RC.s1 (h : RC E xa ma b a w σ) {t : Nat} (ht : t < a.1 0 0) : gI σ (w.1 14 t 0) 0 1 = some 0 := gI_of (h.sc ht) rfl
theorem RC.s2 (h : RC E xa ma b a w σ) {t : Nat} (ht : t < a.1 0 0) : gI σ (w.1 14 t 0) 0 2 = some 0 := gI_of (h.sc ht) rfl
theorem RC.s3 (h : RC E xa ma b a w σ) {t : Nat} (ht : t < a.1 0 0) : gI σ (w.1 14 t 0) 0 3 = some 0 := gI_of (h.sc ht) rfl
theorem RC.sC (h : RC E xa ma b a w σ) {t : Nat} (ht : t < a.1 0 0) : obC σ (w.1 14 t 0) 0 = some () := obC_of (h.sc ht)
theorem RC.oc (h : RC E xa ma b a w σ) {o : Nat} (ho : o < a.1 16 0) : σ.1 (w.1 16 o 0) = some (.inr (7, [.ref (w.1 5 (a.1 17 o) 0), .ref (w.1 17 o 0)])) := by
  obtain ⟨c, h1, h2⟩ := h.cell (vld_o (k := 16) (Or.inl rfl) ho)
  rw [h1, show c = _ from h2]
theorem RC.o0 (h : RC E xa ma b a w σ) {o : Nat} (ho : o < a.1 16 0) : gR σ (w.1 16 o 0) 7 0 = some (some (w.1 5 (a.1 17 o) 0)) := gR_of (h.oc ho) rfl
theorem RC.o1 (h : RC E xa ma b a w σ) {o : Nat} (ho : o < a.1 16 0) : gR σ (w.1 16 o 0) 7 1 = some (some (w.1 17 o 0)) := gR_of (h.oc ho) rfl
theorem RC.oC (h : RC E xa ma b a w σ) {o : Nat} (ho : o < a.1 16 0) : obC σ (w.1 16 o 0) 7 = some () := obC_of (h.oc ho)
theorem RC.vc (h : RC E xa ma b a w σ) {o u : Nat} (h1 : o < b) (h2 : u < 12) (h3 : isO a o u = true) : σ.1 (w.1 18 o u) = some (.inr (5, [.ref (w.1 5 u 0), va_rf (mp w.1 16 (a.2.1 19 (12 * o + u))), .ref (zr E (hs a o u) (w.1 19 o u)), .ref (zr E (cpl a u) (w.1 20 o u))])) := by
  obtain ⟨c, h1, h2⟩ := h.cell (vld_18 h1 h2 h3)
  rw [h1, show c = _ from h2]
theorem RC.v0 (h : RC E xa ma b a w σ) {o u : Nat} (h1 : o < b) (h2 : u < 12) (h3 : isO a o u = true) : gR σ (w.1 18 o u) 5 0 = some (some (w.1 5 u 0)) := gR_of (h.vc h1 h2 h3) rfl
theorem RC.v1 (h : RC E xa ma b a w σ) {o u : Nat} (h1 : o < b) (h2 : u < 12) (h3 : isO a o u = true) : gR σ (w.1 18 o u) 5 1 = some (mp w.1 16 (a.2.1 19 (12 * o + u))) := gR_of (h.vc h1 h2 h3) rfl
theorem RC.v2 (h : RC E xa ma b a w σ) {o u : Nat} (h1 : o < b) (h2 : u < 12) (h3 : isO a o u = true) : gR σ (w.1 18 o u) 5 2 = some (some (zr E (hs a o u) (w.1 19 o u))) := gR_of (h.vc h1 h2 h3) rfl
theorem RC.v3 (h : RC E xa ma b a w σ) {o u : Nat} (h1 : o < b) (h2 : u < 12) (h3 : isO a o u = true) : gR σ (w.1 18 o u) 5 3 = some (some (zr E (cpl a u) (w.1 20 o u))) := gR_of (h.vc h1 h2 h3) rfl
theorem RC.vC (h : RC E xa ma b a w σ) {o u : Nat} (h1 : o < b) (h2 : u < 12) (h3 : isO a o u = true) : obC σ (w.1 18 o u) 5 = some () := obC_of (h.vc h1 h2 h3)
theorem RC.kc (h : RC E xa ma b a w σ) {j : Nat} (hj : j < a.1 23 0) : σ.1 (w.1 21 j 0) = some (.inr (4, [.ref (w.1 5 (a.1 24 j) 0), va_rf (mp w.1 16 (a.2.1 25 j)), .ref (zr E (a.1 26 j) (w.1 22 j 0))])) := by
  obtain ⟨c, h1, h2⟩ := h.cell (vld_21 hj)
  rw [h1, show c = _ from h2]
theorem RC.k0 (h : RC E xa ma b a w σ) {j : Nat} (hj : j < a.1 23 0) : gR σ (w.1 21 j 0) 4 0 = some (some (w.1 5 (a.1 24 j) 0)) := gR_of (h.kc hj) rfl
theorem RC.k1 (h : RC E xa ma b a w σ) {j : Nat} (hj : j < a.1 23 0) : gR σ (w.1 21 j 0) 4 1 = some (mp w.1 16 (a.2.1 25 j)) := gR_of (h.kc hj) rfl
theorem RC.k2 (h : RC E xa ma b a w σ) {j : Nat} (hj : j < a.1 23 0) : gR σ (w.1 21 j 0) 4 2 = some (some (zr E (a.1 26 j) (w.1 22 j 0))) := gR_of (h.kc hj) rfl
theorem RC.kC (h : RC E xa ma b a w σ) {j : Nat} (hj : j < a.1 23 0) : obC σ (w.1 21 j 0) 4 = some () := obC_of (h.kc hj)
theorem RC.fn (h : RC E xa ma b a w σ) {t : Nat} (ht : t < a.1 0 0) {i : Nat} (hi : i < 4) : aI σ 0 (w.1 7 t 0) (nI i) = some (nI (a.1 8 (4 * t + i))) := by
  obtain ⟨c, h1, f, rfl, h2⟩ := h.cell (vld_t (k := 7) (by decide) (by decide) ht)
  rw [aI_of (bk := 0) h1 rfl hi (by decide), h2 i hi]
theorem RC.fv (h : RC E xa ma b a w σ) {t : Nat} (ht : t < a.1 0 0) {i : Nat} (hi : i < 4) : aL σ (w.1 8 t 0) (nI i) = some (a.2.2.1 9 (4 * t + i)) := by
  obtain ⟨c, h1, f, rfl, h2⟩ := h.cell (vld_t (k := 8) (by decide) (by decide) ht)
  rw [aL_of h1 rfl hi (by decide), h2 i hi]
theorem RC.fs (h : RC E xa ma b a w σ) {t : Nat} (ht : t < a.1 0 0) {i : Nat} (hi : i < 4) : aI σ 2 (w.1 9 t 0) (nI i) = some (nI (a.1 10 (4 * t + i))) := by
  obtain ⟨c, h1, f, rfl, h2⟩ := h.cell (vld_t (k := 9) (by decide) (by decide) ht)
  rw [aI_of (bk := 2) h1 rfl hi (by decide), h2 i hi]
theorem RC.ln (h : RC E xa ma b a w σ) {t : Nat} (ht : t < a.1 0 0) {i : Nat} (hi : i < 4) : aI σ 0 (w.1 11 t 0) (nI i) = some (nI (a.1 13 (4 * t + i))) := by
  obtain ⟨c, h1, f, rfl, h2⟩ := h.cell (vld_t (k := 11) (by decide) (by decide) ht)
  rw [aI_of (bk := 0) h1 rfl hi (by decide), h2 i hi]
theorem RC.lv (h : RC E xa ma b a w σ) {t : Nat} (ht : t < a.1 0 0) {i : Nat} (hi : i < 4) : aL σ (w.1 12 t 0) (nI i) = some (a.2.2.1 14 (4 * t + i)) := by
  obtain ⟨c, h1, f, rfl, h2⟩ := h.cell (vld_t (k := 12) (by decide) (by decide) ht)
  rw [aL_of h1 rfl hi (by decide), h2 i hi]
theorem RC.la (h : RC E xa ma b a w σ) {t : Nat} (ht : t < a.1 0 0) {i : Nat} (hi : i < 4) : aI σ 2 (w.1 13 t 0) (nI i) = some (nI (a.1 15 (4 * t + i))) := by
  obtain ⟨c, h1, f, rfl, h2⟩ := h.cell (vld_t (k := 13) (by decide) (by decide) ht)
  rw [aI_of (bk := 2) h1 rfl hi (by decide), h2 i hi]
theorem RC.inj (h : RC E xa ma b a w σ) {k x y k' x' y' : Nat} (h1 : vld b a k x y) (h2 : vld b a k' x' y') (e : w.1 k x y = w.1 k' x' y') : k = k' ∧ x = x' ∧ y = y' := by
  have e1 := (h.1 k x y h1).2.1
  have e2 := (h.1 k' x' y' h2).2.1
  rw [e, e2] at e1
  cases e1
  exact ⟨rfl, rfl, rfl⟩
theorem RC.tyE (h : RC E xa ma b a w σ) {t u : Nat} (ht : t < a.1 0 0) (hu : u < a.1 0 0) : (w.1 5 t 0 = w.1 5 u 0) = (t = u) := propext ⟨fun e => (h.inj (vld_t (k := 5) (by decide) (by decide) ht) (vld_t (k := 5) (by decide) (by decide) hu) e).2.1, fun e => by rw [e]⟩
theorem RC.obE (h : RC E xa ma b a w σ) {t u : Nat} (ht : t < a.1 16 0) (hu : u < a.1 16 0) : (w.1 16 t 0 = w.1 16 u 0) = (t = u) := propext ⟨fun e => (h.inj (vld_o (Or.inl rfl) ht) (vld_o (Or.inl rfl) hu) e).2.1, fun e => by rw [e]⟩
end CR
theorem okc_N8 {E : hmG} {a : aS} {g : Nat → Nat → Nat → Nat} {k x y : Nat} {c : va_E} (j v : Nat) (h : k ≠ 7) (hc : okc E a g k x y c) : okc E (aN_ a 8 j v) g k x y c := by
  match k, h, hc with
  | 0, _, hc => exact hc
  | 1, _, hc => exact hc
  | 2, _, hc => exact hc
  | 3, _, hc => exact hc
  | 4, _, hc => exact hc
  | 5, _, hc => exact hc
  | 6, _, hc => exact hc
  | 7, h, _ => exact absurd rfl h
  | 8, _, hc => exact hc
  | 9, _, hc => exact hc
  | 10, _, hc => exact hc
  | 11, _, hc => exact hc
  | 12, _, hc => exact hc
  | 13, _, hc => exact hc
  | 14, _, hc => exact hc
  | 15, _, hc => exact hc
  | 16, _, hc => exact hc
  | 17, _, hc => exact hc
  | 18, _, hc => exact hc
  | 19, _, hc => exact hc
  | 20, _, hc => exact hc
  | 21, _, hc => exact hc
  | 22, _, hc => exact hc
  | _ + 23, _, hc => exact hc.elim
theorem okc_L9 {E : hmG} {a : aS} {g : Nat → Nat → Nat → Nat} {k x y : Nat} {c : va_E} (j : Nat) (v : Int64) (h : k ≠ 8) (hc : okc E a g k x y c) : okc E (aL_ a 9 j v) g k x y c := by
  match k, h, hc with
  | 0, _, hc => exact hc
  | 1, _, hc => exact hc
  | 2, _, hc => exact hc
  | 3, _, hc => exact hc
  | 4, _, hc => exact hc
  | 5, _, hc => exact hc
  | 6, _, hc => exact hc
  | 7, _, hc => exact hc
  | 8, h, _ => exact absurd rfl h
  | 9, _, hc => exact hc
  | 10, _, hc => exact hc
  | 11, _, hc => exact hc
  | 12, _, hc => exact hc
  | 13, _, hc => exact hc
  | 14, _, hc => exact hc
  | 15, _, hc => exact hc
  | 16, _, hc => exact hc
  | 17, _, hc => exact hc
  | 18, _, hc => exact hc
  | 19, _, hc => exact hc
  | 20, _, hc => exact hc
  | 21, _, hc => exact hc
  | 22, _, hc => exact hc
  | _ + 23, _, hc => exact hc.elim
theorem okc_N10 {E : hmG} {a : aS} {g : Nat → Nat → Nat → Nat} {k x y : Nat} {c : va_E} (j v : Nat) (h : k ≠ 9) (hc : okc E a g k x y c) : okc E (aN_ a 10 j v) g k x y c := by
  match k, h, hc with
  | 0, _, hc => exact hc
  | 1, _, hc => exact hc
  | 2, _, hc => exact hc
  | 3, _, hc => exact hc
  | 4, _, hc => exact hc
  | 5, _, hc => exact hc
  | 6, _, hc => exact hc
  | 7, _, hc => exact hc
  | 8, _, hc => exact hc
  | 9, h, _ => exact absurd rfl h
  | 10, _, hc => exact hc
  | 11, _, hc => exact hc
  | 12, _, hc => exact hc
  | 13, _, hc => exact hc
  | 14, _, hc => exact hc
  | 15, _, hc => exact hc
  | 16, _, hc => exact hc
  | 17, _, hc => exact hc
  | 18, _, hc => exact hc
  | 19, _, hc => exact hc
  | 20, _, hc => exact hc
  | 21, _, hc => exact hc
  | 22, _, hc => exact hc
  | _ + 23, _, hc => exact hc.elim
theorem okc_N7 {E : hmG} {a : aS} {g : Nat → Nat → Nat → Nat} {k x y : Nat} {c : va_E} (j v : Nat) (h : k ≠ 6) (hc : okc E a g k x y c) : okc E (aN_ a 7 j v) g k x y c := by
  match k, h, hc with
  | 0, _, hc => exact hc
  | 1, _, hc => exact hc
  | 2, _, hc => exact hc
  | 3, _, hc => exact hc
  | 4, _, hc => exact hc
  | 5, _, hc => exact hc
  | 6, h, _ => exact absurd rfl h
  | 7, _, hc => exact hc
  | 8, _, hc => exact hc
  | 9, _, hc => exact hc
  | 10, _, hc => exact hc
  | 11, _, hc => exact hc
  | 12, _, hc => exact hc
  | 13, _, hc => exact hc
  | 14, _, hc => exact hc
  | 15, _, hc => exact hc
  | 16, _, hc => exact hc
  | 17, _, hc => exact hc
  | 18, _, hc => exact hc
  | 19, _, hc => exact hc
  | 20, _, hc => exact hc
  | 21, _, hc => exact hc
  | 22, _, hc => exact hc
  | _ + 23, _, hc => exact hc.elim
theorem okc_N13 {E : hmG} {a : aS} {g : Nat → Nat → Nat → Nat} {k x y : Nat} {c : va_E} (j v : Nat) (h : k ≠ 11) (hc : okc E a g k x y c) : okc E (aN_ a 13 j v) g k x y c := by
  match k, h, hc with
  | 0, _, hc => exact hc
  | 1, _, hc => exact hc
  | 2, _, hc => exact hc
  | 3, _, hc => exact hc
  | 4, _, hc => exact hc
  | 5, _, hc => exact hc
  | 6, _, hc => exact hc
  | 7, _, hc => exact hc
  | 8, _, hc => exact hc
  | 9, _, hc => exact hc
  | 10, _, hc => exact hc
  | 11, h, _ => exact absurd rfl h
  | 12, _, hc => exact hc
  | 13, _, hc => exact hc
  | 14, _, hc => exact hc
  | 15, _, hc => exact hc
  | 16, _, hc => exact hc
  | 17, _, hc => exact hc
  | 18, _, hc => exact hc
  | 19, _, hc => exact hc
  | 20, _, hc => exact hc
  | 21, _, hc => exact hc
  | 22, _, hc => exact hc
  | _ + 23, _, hc => exact hc.elim
theorem okc_L14 {E : hmG} {a : aS} {g : Nat → Nat → Nat → Nat} {k x y : Nat} {c : va_E} (j : Nat) (v : Int64) (h : k ≠ 12) (hc : okc E a g k x y c) : okc E (aL_ a 14 j v) g k x y c := by
  match k, h, hc with
  | 0, _, hc => exact hc
  | 1, _, hc => exact hc
  | 2, _, hc => exact hc
  | 3, _, hc => exact hc
  | 4, _, hc => exact hc
  | 5, _, hc => exact hc
  | 6, _, hc => exact hc
  | 7, _, hc => exact hc
  | 8, _, hc => exact hc
  | 9, _, hc => exact hc
  | 10, _, hc => exact hc
  | 11, _, hc => exact hc
  | 12, h, _ => exact absurd rfl h
  | 13, _, hc => exact hc
  | 14, _, hc => exact hc
  | 15, _, hc => exact hc
  | 16, _, hc => exact hc
  | 17, _, hc => exact hc
  | 18, _, hc => exact hc
  | 19, _, hc => exact hc
  | 20, _, hc => exact hc
  | 21, _, hc => exact hc
  | 22, _, hc => exact hc
  | _ + 23, _, hc => exact hc.elim
theorem okc_N15 {E : hmG} {a : aS} {g : Nat → Nat → Nat → Nat} {k x y : Nat} {c : va_E} (j v : Nat) (h : k ≠ 13) (hc : okc E a g k x y c) : okc E (aN_ a 15 j v) g k x y c := by
  match k, h, hc with
  | 0, _, hc => exact hc
  | 1, _, hc => exact hc
  | 2, _, hc => exact hc
  | 3, _, hc => exact hc
  | 4, _, hc => exact hc
  | 5, _, hc => exact hc
  | 6, _, hc => exact hc
  | 7, _, hc => exact hc
  | 8, _, hc => exact hc
  | 9, _, hc => exact hc
  | 10, _, hc => exact hc
  | 11, _, hc => exact hc
  | 12, _, hc => exact hc
  | 13, h, _ => exact absurd rfl h
  | 14, _, hc => exact hc
  | 15, _, hc => exact hc
  | 16, _, hc => exact hc
  | 17, _, hc => exact hc
  | 18, _, hc => exact hc
  | 19, _, hc => exact hc
  | 20, _, hc => exact hc
  | 21, _, hc => exact hc
  | 22, _, hc => exact hc
  | _ + 23, _, hc => exact hc.elim
theorem okc_N12 {E : hmG} {a : aS} {g : Nat → Nat → Nat → Nat} {k x y : Nat} {c : va_E} (j v : Nat) (h : k ≠ 10) (hc : okc E a g k x y c) : okc E (aN_ a 12 j v) g k x y c := by
  match k, h, hc with
  | 0, _, hc => exact hc
  | 1, _, hc => exact hc
  | 2, _, hc => exact hc
  | 3, _, hc => exact hc
  | 4, _, hc => exact hc
  | 5, _, hc => exact hc
  | 6, _, hc => exact hc
  | 7, _, hc => exact hc
  | 8, _, hc => exact hc
  | 9, _, hc => exact hc
  | 10, h, _ => exact absurd rfl h
  | 11, _, hc => exact hc
  | 12, _, hc => exact hc
  | 13, _, hc => exact hc
  | 14, _, hc => exact hc
  | 15, _, hc => exact hc
  | 16, _, hc => exact hc
  | 17, _, hc => exact hc
  | 18, _, hc => exact hc
  | 19, _, hc => exact hc
  | 20, _, hc => exact hc
  | 21, _, hc => exact hc
  | 22, _, hc => exact hc
  | _ + 23, _, hc => exact hc.elim
theorem okc_N11 {E : hmG} {a : aS} {g : Nat → Nat → Nat → Nat} {k x y : Nat} {c : va_E} (j v : Nat) (h : k ≠ 5) (hc : okc E a g k x y c) : okc E (aN_ a 11 j v) g k x y c := by
  match k, h, hc with
  | 0, _, hc => exact hc
  | 1, _, hc => exact hc
  | 2, _, hc => exact hc
  | 3, _, hc => exact hc
  | 4, _, hc => exact hc
  | 5, h, _ => exact absurd rfl h
  | 6, _, hc => exact hc
  | 7, _, hc => exact hc
  | 8, _, hc => exact hc
  | 9, _, hc => exact hc
  | 10, _, hc => exact hc
  | 11, _, hc => exact hc
  | 12, _, hc => exact hc
  | 13, _, hc => exact hc
  | 14, _, hc => exact hc
  | 15, _, hc => exact hc
  | 16, _, hc => exact hc
  | 17, _, hc => exact hc
  | 18, _, hc => exact hc
  | 19, _, hc => exact hc
  | 20, _, hc => exact hc
  | 21, _, hc => exact hc
  | 22, _, hc => exact hc
  | _ + 23, _, hc => exact hc.elim
theorem okc_P6 {E : hmG} {a : aS} {g : Nat → Nat → Nat → Nat} {k x y : Nat} {c : va_E} (j : Nat) (v : Option Nat) (h : k ≠ 5) (hc : okc E a g k x y c) : okc E (aP_ a 6 j v) g k x y c := by
  match k, h, hc with
  | 0, _, hc => exact hc
  | 1, _, hc => exact hc
  | 2, _, hc => exact hc
  | 3, _, hc => exact hc
  | 4, _, hc => exact hc
  | 5, h, _ => exact absurd rfl h
  | 6, _, hc => exact hc
  | 7, _, hc => exact hc
  | 8, _, hc => exact hc
  | 9, _, hc => exact hc
  | 10, _, hc => exact hc
  | 11, _, hc => exact hc
  | 12, _, hc => exact hc
  | 13, _, hc => exact hc
  | 14, _, hc => exact hc
  | 15, _, hc => exact hc
  | 16, _, hc => exact hc
  | 17, _, hc => exact hc
  | 18, _, hc => exact hc
  | 19, _, hc => exact hc
  | 20, _, hc => exact hc
  | 21, _, hc => exact hc
  | 22, _, hc => exact hc
  | _ + 23, _, hc => exact hc.elim
theorem okc_P22 {E : hmG} {a : aS} {g : Nat → Nat → Nat → Nat} {k x y : Nat} {c : va_E} (j : Nat) (v : Option Nat) (h : k ≠ 2) (hc : okc E a g k x y c) : okc E (aP_ a 22 j v) g k x y c := by
  match k, h, hc with
  | 0, _, hc => exact hc
  | 1, _, hc => exact hc
  | 2, h, _ => exact absurd rfl h
  | 3, _, hc => exact hc
  | 4, _, hc => exact hc
  | 5, _, hc => exact hc
  | 6, _, hc => exact hc
  | 7, _, hc => exact hc
  | 8, _, hc => exact hc
  | 9, _, hc => exact hc
  | 10, _, hc => exact hc
  | 11, _, hc => exact hc
  | 12, _, hc => exact hc
  | 13, _, hc => exact hc
  | 14, _, hc => exact hc
  | 15, _, hc => exact hc
  | 16, _, hc => exact hc
  | 17, _, hc => exact hc
  | 18, _, hc => exact hc
  | 19, _, hc => exact hc
  | 20, _, hc => exact hc
  | 21, _, hc => exact hc
  | 22, _, hc => exact hc
  | _ + 23, _, hc => exact hc.elim
theorem okc_W {E : hmG} {a : aS} {g : Nat → Nat → Nat → Nat} {k x y : Nat} {c : va_E} (v : Int32) (h : k ≠ 0) (hc : okc E a g k x y c) : okc E (aW_ a v) g k x y c := by
  match k, h, hc with
  | 0, h, _ => exact absurd rfl h
  | 1, _, hc => exact hc
  | 2, _, hc => exact hc
  | 3, _, hc => exact hc
  | 4, _, hc => exact hc
  | 5, _, hc => exact hc
  | 6, _, hc => exact hc
  | 7, _, hc => exact hc
  | 8, _, hc => exact hc
  | 9, _, hc => exact hc
  | 10, _, hc => exact hc
  | 11, _, hc => exact hc
  | 12, _, hc => exact hc
  | 13, _, hc => exact hc
  | 14, _, hc => exact hc
  | 15, _, hc => exact hc
  | 16, _, hc => exact hc
  | 17, _, hc => exact hc
  | 18, _, hc => exact hc
  | 19, _, hc => exact hc
  | 20, _, hc => exact hc
  | 21, _, hc => exact hc
  | 22, _, hc => exact hc
  | _ + 23, _, hc => exact hc.elim
theorem okc_L20 {E : hmG} {a : aS} {g : Nat → Nat → Nat → Nat} {k x y : Nat} {c : va_E} (j : Nat) (v : Int64) (h : k ≠ 19) (hc : okc E a g k x y c) : okc E (aL_ a 20 j v) g k x y c := by
  match k, h, hc with
  | 0, _, hc => exact hc
  | 1, _, hc => exact hc
  | 2, _, hc => exact hc
  | 3, _, hc => exact hc
  | 4, _, hc => exact hc
  | 5, _, hc => exact hc
  | 6, _, hc => exact hc
  | 7, _, hc => exact hc
  | 8, _, hc => exact hc
  | 9, _, hc => exact hc
  | 10, _, hc => exact hc
  | 11, _, hc => exact hc
  | 12, _, hc => exact hc
  | 13, _, hc => exact hc
  | 14, _, hc => exact hc
  | 15, _, hc => exact hc
  | 16, _, hc => exact hc
  | 17, _, hc => exact hc
  | 18, _, hc => exact hc
  | 19, h, _ => exact absurd rfl h
  | 20, _, hc => exact hc
  | 21, _, hc => exact hc
  | 22, _, hc => exact hc
  | _ + 23, _, hc => exact hc.elim
