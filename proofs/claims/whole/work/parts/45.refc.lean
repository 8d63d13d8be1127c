/-! The reference: what is found. -/
def wo (a : aS) (t : Nat) : Nat := (a.2.1 2 t).getD 0
def pch (a : aS) (t : Nat) : List Nat := chl (a.2.1 6) 12 (some t)
def och (a : aS) (o : Option Nat) : List Nat := chl (a.2.1 2) 12 o
def own (a : aS) (nm : Nat) : List Nat → Option (Nat × Nat)
  | [] => none
  | u :: us => match fi (fun k => a.1 8 (4 * u + k) == nm) (a.1 7 u) 0 with
    | some k => some (u, k)
    | none => own a nm us
def lcl (a : aS) (nm t : Nat) : Option Nat := match a.2.1 2 t with
  | some w => las (fun k => a.1 13 (4 * w + k) == nm) (a.1 5 t)
  | none => none
def nxt (a : aS) (t : Nat) (o : Option Nat) : Option Nat := match o with
  | some q => if bd a t then a.2.1 19 (12 * q + t) else none
  | none => none
def sp_ofField (a : aS) (u k : Nat) (o : Option Nat) : Int32 × Nat × Nat := if a.1 10 (4 * u + k) = 0 then (match o with
  | none => (4, 0, 0)
  | some o => match a.2.1 18 (12 * o + u) with
    | none => (5, 0, 0)
    | some h => if k < h then (0, 20, 4 * (12 * o + u) + k) else (5, 0, 0)) else (0, 9, 4 * u + k)
def sp_ofLocal (a : aS) (t l : Nat) (o : Option Nat) : Int32 × Nat × Nat := if a.1 1 t = 4 then (6, 0, 0) else if a.1 15 (4 * wo a t + l) = 0 then (match o with
  | none => (4, 0, 0)
  | some o => if isO a o t then (0, 21, 4 * (12 * o + t) + l) else (5, 0, 0)) else (7, 0, 0)
def fndL (a : aS) (nm : Nat) : List Nat → Option Nat → Int32 × Nat × Nat
  | [], _ => (8, 0, 0)
  | t :: ts, o => match own a nm (pch a t) with
    | some uk => sp_ofField a uk.1 uk.2 o
    | none => match lcl a nm t with
      | some l => sp_ofLocal a t l o
      | none => fndL a nm ts (nxt a t o)
/-- what comes of it; p is 1 where it is to be put -/
def pw (p : Nat) (r : Int32 × Nat × Nat) : Int32 := if p = 1 ∧ r.1 = 0 ∧ r.2.1 = 21 then 7 else r.1
def rv (a : aS) (p : Nat) (r : Int32 × Nat × Nat) : Int64 := if pw p r = 0 then a.2.2.1 r.2.1 r.2.2 else 0
def fdX (r : Int32 × Nat × Nat) (X : Nat → Nat → Int32) : Prop := r.1 = 0 → (r.2.1 = 9 → r.2.2 < 48 ∧ X 31 0 = nI r.2.2 ∧ X 32 0 = -3) ∧ (r.2.1 = 20 → ∃ o u k, o < 520 ∧ u < 12 ∧ k < 4 ∧ r.2.2 = 4 * (12 * o + u) + k ∧ X 31 0 = nI (4 * u + k) ∧ X 32 0 = nI o) ∧ (r.2.1 = 9 ∨ r.2.1 = 20 ∨ r.2.1 = 21)
section RH
variable (ρ : hmS) (ma : Nat) (a : aS) (X : Nat → Nat → Int32)
theorem rh_constant (hw : Wt a) (hbd : Wb a) (x y : Int32) : fX8_constant ma x y (rSt ρ ma (mkS a X)) = some ((sp_constant a x y).1, rSt ρ ma (mkS (sp_constant a x y).2 X)) := by
  unfold sp_constant
  have hn := hw.n12
  have hJ : ∀ x y, fX8_constant_J37 ma x y (rSt ρ ma (mkS a X)) = some (0, rSt ρ ma (mkS (aW_ a (-1)) X)) := fun x y => by
    simp only [fX8_constant_J37, rf_obC, ob_some, rg_told, cb_some]
  cases hx : ix x (a.1 0 0) with
  | none => simp [fX8_constant, rf_obC, ob_some, rf_isType ρ ma a X hbd, cb_some, hx, b2, hJ]
  | some t =>
    obtain ⟨ht, rfl⟩ := ix_s hx (by omega)
    have h7 := hw.nf ht
    have ht12 : t < 12 := by omega
    cases hy : ix y (a.1 7 t) with
    | none => simp [fX8_constant, rf_obC, ob_some, rf_isType ρ ma a X hbd, cb_some, hx, hy, b2, q_r7, q_a7 ρ ma a X ht12, rf_in y (a.1 7 t) (by omega), hJ]
    | some k =>
      obtain ⟨hm, rfl⟩ := ix_s hy (by omega)
      have hk : 4 * t + k < 48 := by omega
      have e0 : (nI (a.1 10 (4 * t + k)) = (0 : Int32)) = (a.1 10 (4 * t + k) = 0) := n_eq (y := 0) (Nat.lt_trans (hbd.1 10 _) (by decide)) (by decide)
      simp only [fX8_constant, rf_obC, ob_some, rf_isType ρ ma a X hbd, cb_some, hx, b2_0, Option.isSome_some, Bool.true_eq_false, if_false, q_r7, q_a7 ρ ma a X ht12, reduceCtorEq, rf_in (nI k) (a.1 7 t) (by omega), hy, q_r10, n_i4, q_a10 ρ ma a X hk, e0, q_w28, q_r9, q_a9 ρ ma _ X hk, hJ]
      (repeat' split) <;> rfl
theorem rh_isBound (hw : Wt a) {t : Nat} (ht : t < a.1 0 0) : fX8_isBound ma (nI t) (rSt ρ ma (mkS a X)) = some (b2 (bd a t), rSt ρ ma (mkS a X)) := by
  have hn := hw.n12
  have ht12 : t < 12 := by omega
  have hk := hw.kd ht
  have e2 : (nI (a.1 1 t) = (2 : Int32)) = (a.1 1 t = 2) := n_eq (y := 2) (by omega) (by decide)
  have e3 : (nI (a.1 1 t) = (3 : Int32)) = (a.1 1 t = 3) := n_eq (y := 3) (by omega) (by decide)
  have e5 : (nI (a.1 1 t) = (5 : Int32)) = (a.1 1 t = 5) := n_eq (y := 5) (by omega) (by decide)
  simp only [fX8_isBound, fX8_isBound_J44, q_r1, ob_some, q_a1 ρ ma a X ht12, e2, e3, e5]
  by_cases h2 : a.1 1 t = 2
  · simp [h2, bd, b2]
  · by_cases h35 : a.1 1 t = 3 ∨ a.1 1 t = 5
    · obtain ⟨o, ho1, ho2⟩ := hw.o1 ht (by omega)
      have hJ : fX8_isBound_J30 ma (nI t) (rSt ρ ma (mkS a X)) = some (b2 (a.1 11 o == 0), rSt ρ ma (mkS a X)) := by
        simp only [fX8_isBound_J30, fX8_isBound_J44, q_r11, q_r2, ob_some, q_a2 ρ ma a X ht12, ho2, pv, q_a11 ρ ma a X (show o < 12 by omega)]
        have := hw.b11 o
        rcases (show a.1 11 o = 0 ∨ a.1 11 o = 1 by omega) with h | h
        · simp [h, b2, show nI 0 = (0 : Int32) from rfl]
        · simp [h, b2, show ¬ nI 1 = (0 : Int32) by decide]
      simp only [hJ]
      rcases h35 with h | h <;> simp [h, bd, ho2]
    · have h3 : ¬ a.1 1 t = 3 := fun e => h35 (Or.inl e)
      have h5 : ¬ a.1 1 t = 5 := fun e => h35 (Or.inr e)
      simp [bd, h2, h3, h5, b2]
theorem rh_isOf (hbd : Wb a) {o t : Nat} (h : 12 * o + t < 6240) : fX8_isOf ma (nI o) (nI t) (rSt ρ ma (mkS a X)) = some (b2 (isO a o t), rSt ρ ma (mkS a X)) := by
  simp only [fX8_isOf, q_r18, ob_some, n_i12, q_a18 ρ ma a X h, pv_3 (o := a.2.1 18 (12 * o + t)) (fun r hr => Nat.lt_trans (hbd.2 _ _ _ hr) (by decide))]
  cases h : a.2.1 18 (12 * o + t) <;> simp [isO, h, b2]
theorem rh_localOfL (hbd : Wb a) {t nm many : Nat} (ht : t < 12) (hnm : nm < 8) (hm : many ≤ 4) : ∀ (f i N : Nat), i + f = many → f < N → fX8_localOf_L7 ma (nI t) (nI many) (nI nm) N (pv (las (fun k => a.1 13 (4 * t + k) == nm) i)) (nI i) (rSt ρ ma (mkS a X)) = some (pv (las (fun k => a.1 13 (4 * t + k) == nm) many), rSt ρ ma (mkS a X)) := by
  intro f
  induction f with
  | zero =>
    intro i N hi hN
    obtain ⟨N, rfl⟩ : ∃ k, N = k + 1 := ⟨N - 1, by omega⟩
    simp only [fX8_localOf_L7, fX8_localOf_B7, n_le (show many < 100000 by omega) (show i < 100000 by omega), if_pos (show many ≤ i by omega)]
    rw [show i = many by omega]
  | succ f ih =>
    intro i N hi hN
    obtain ⟨N, rfl⟩ : ∃ k, N = k + 1 := ⟨N - 1, by omega⟩
    have ih' := ih (i + 1) N (by omega) (by omega)
    simp only [fX8_localOf_L7, fX8_localOf_B7, fX8_localOf_J35, n_le (show many < 100000 by omega) (show i < 100000 by omega), if_neg (show ¬ many ≤ i by omega), q_r13, ob_some, n_i4, q_a13 ρ ma a X (show 4 * t + i < 48 by omega), n_eq (Nat.lt_trans (hbd.1 13 (4 * t + i)) (by decide)) (show nm < 100000 by omega), n_s]
    by_cases h : a.1 13 (4 * t + i) = nm
    · simp only [if_pos h]
      rw [show las (fun k => a.1 13 (4 * t + k) == nm) (i + 1) = some i by simp [las, h]] at ih'
      exact ih'
    · simp only [if_neg h]
      rw [show las (fun k => a.1 13 (4 * t + k) == nm) (i + 1) = las (fun k => a.1 13 (4 * t + k) == nm) i by simp [las, h]] at ih'
      exact ih'
theorem rh_localOf (hbd : Wb a) {t nm many : Nat} (ht : t < 12) (hnm : nm < 8) (hm : many ≤ 4) : fX8_localOf ma (nI t) (nI many) (nI nm) (rSt ρ ma (mkS a X)) = some (pv (las (fun k => a.1 13 (4 * t + k) == nm) many), rSt ρ ma (mkS a X)) :=
  rh_localOfL ρ ma a X hbd ht hnm hm many 0 20 (by omega) (by omega)
theorem pw_F (p u k : Nat) (o : Option Nat) : pw p (sp_ofField a u k o) = (sp_ofField a u k o).1 := by
  unfold pw
  split
  · rename_i h
    exfalso
    revert h
    unfold sp_ofField
    (repeat' split) <;> simp
  · rfl
theorem n_412 (o u k : Nat) : (4 : Int32) * ((12 : Int32) * nI o + nI u) + nI k = nI (4 * (12 * o + u) + k) := by rw [n_i12, n_i4]
theorem rh_ofField (hw : Wt a) (hbd : Wb a) (p : Nat) {u k : Nat} {o : Option Nat} (hu : u < a.1 0 0) (hk : k < 4) (ho : ∀ q, o = some q → q < 520) : ∃ X', fX8_ofField ma (nI u) (nI k) (pv o) (rSt ρ ma (mkS a X)) = some (rv a p (sp_ofField a u k o), rSt ρ ma (mkS (aW_ a (pw p (sp_ofField a u k o))) X')) ∧ fdX (sp_ofField a u k o) X' := by
  have hn := hw.n12
  have hk' : 4 * u + k < 48 := by omega
  have e0 : (nI (a.1 10 (4 * u + k)) = (0 : Int32)) = (a.1 10 (4 * u + k) = 0) := n_eq (y := 0) (Nat.lt_trans (hbd.1 10 _) (by decide)) (by decide)
  unfold rv
  rw [pw_F]
  simp only [fX8_ofField, n_i4, q_w31, ob_some, q_w32, q_r10, q_a10 ρ ma _ _ hk', e0]
  by_cases hs : a.1 10 (4 * u + k) = 0
  · simp only [if_pos hs, sp_ofField]
    cases o with
    | none =>
      refine ⟨up2 (up2 X 31 0 (nI (4 * u + k))) 32 0 (-3), ?_, ?_⟩
      · simp only [pv, if_true, rf_obC, ob_some, rg_told, cb_some]
        rfl
      · intro h; exact absurd (show (4 : Int32) = 0 from h) (by decide)
    | some o =>
      have hO := ho o rfl
      have ho6 : 12 * o + u < 6240 := by omega
      have ho2 : 4 * (12 * o + u) + k < 24960 := by omega
      simp only [pv, if_neg (n_ne3 (show o < 100000 by omega)), q_r18, ob_some, n_i12, q_a18 ρ ma _ _ ho6]
      cases hh : a.2.1 18 (12 * o + u) with
      | none =>
        refine ⟨up2 (up2 X 31 0 (nI (4 * u + k))) 32 0 (-3), ?_, ?_⟩
        · have : ¬ nI k < (-3 : Int32) := fun q => n_nn (j := k) (by omega) (Int32.lt_trans q (by decide))
          simp only [pv, if_neg this, rf_obC, ob_some, rg_told, cb_some]
          rfl
        · intro h; exact absurd (show (5 : Int32) = 0 from h) (by decide)
      | some q =>
        have hq := hbd.2 _ _ _ hh
        by_cases hkq : k < q
        · refine ⟨up2 (up2 (up2 X 31 0 (nI (4 * u + k))) 32 0 (-3)) 32 0 (nI o), ?_, ?_⟩
          · simp only [pv, n_lt (show k < 100000 by omega) (show q < 100000 by omega), if_pos hkq, q_w32, ob_some, q_w28, q_r20, n_i4, q_a20 ρ ma _ _ ho2]
            rfl
          · intro _
            simp only [if_pos hkq]
            exact ⟨fun h => absurd h (by decide), fun _ => ⟨o, u, k, hO, by omega, hk, rfl, by simp [up2], by simp [up2]⟩, by simp⟩
        · refine ⟨up2 (up2 X 31 0 (nI (4 * u + k))) 32 0 (-3), ?_, ?_⟩
          · simp only [pv, n_lt (show k < 100000 by omega) (show q < 100000 by omega), if_neg hkq, rf_obC, ob_some, rg_told, cb_some]
            rfl
          · intro h
            simp only [if_neg hkq] at h
            exact absurd h (by decide)
  · refine ⟨up2 (up2 X 31 0 (nI (4 * u + k))) 32 0 (-3), ?_, ?_⟩
    · simp only [if_neg hs, sp_ofField, q_w28, ob_some, q_r9, q_a9 ρ ma _ _ hk']
      rfl
    · intro _
      simp only [sp_ofField, if_neg hs]
      exact ⟨fun _ => ⟨hk', by simp [up2], by simp [up2]⟩, fun h => absurd h (by decide), by simp⟩
theorem rh_ofLocal (hw : Wt a) (hbd : Wb a) {p : Nat} (hp : p ≤ 1) {t l w : Nat} {o : Option Nat} (ht : t < a.1 0 0) (hwo : a.2.1 2 t = some w) (hl : l < 4) (ho : ∀ q, o = some q → q < 520) : fX8_ofLocal ma (nI t) (nI l) (pv o) (nI p) (rSt ρ ma (mkS a X)) = some (rv a p (sp_ofLocal a t l o), rSt ρ ma (mkS (aW_ a (pw p (sp_ofLocal a t l o))) X)) := by
  have hn := hw.n12
  have hkd := hw.kd ht
  have hwt := (hw.ou ht hwo).1
  have hk' : 4 * w + l < 48 := by omega
  have ew : wo a t = w := by simp [wo, hwo]
  have e0 : (nI (a.1 15 (4 * w + l)) = (0 : Int32)) = (a.1 15 (4 * w + l) = 0) := n_eq (y := 0) (Nat.lt_trans (hbd.1 15 _) (by decide)) (by decide)
  have e4 : (nI (a.1 1 t) = (4 : Int32)) = (a.1 1 t = 4) := n_eq (y := 4) (by omega) (by decide)
  simp only [fX8_ofLocal, q_r2, ob_some, q_a2 ρ ma a X (show t < 12 by omega), hwo, pv, q_r1, q_a1 ρ ma a X (show t < 12 by omega), e4, rf_obC, rg_told, cb_some, q_r15, n_i4, q_a15 ρ ma a X hk', e0]
  unfold rv pw sp_ofLocal
  rw [ew]
  by_cases h4 : a.1 1 t = 4
  · simp [h4]
  · simp only [if_neg h4]
    by_cases h0 : a.1 15 (4 * w + l) = 0
    · simp only [if_pos h0]
      cases o with
      | none => simp [pv]
      | some o =>
        have hO := ho o rfl
        have ho6 : 12 * o + t < 6240 := by omega
        have ho2 : 4 * (12 * o + t) + l < 24960 := by omega
        simp only [pv, if_neg (n_ne3 (show o < 100000 by omega)), rh_isOf ρ ma a X hbd ho6, cb_some, b2_0, n_i12, n_i4]
        by_cases hi : isO a o t = true
        · rcases (show p = 0 ∨ p = 1 by omega) with rfl | rfl
          · simp [hi, show nI 0 = (0 : Int32) from rfl, q_w28, ob_some, q_r21, q_a21 ρ ma _ X ho2, aW_]
          · simp [hi, show ¬ nI 1 = (0 : Int32) by decide, rf_obC, ob_some, rg_told, cb_some]
        · simp [hi, rf_obC, ob_some, rg_told, cb_some]
    · simp [h0, rf_obC, ob_some, rg_told, cb_some]
theorem own_s {nm : Nat} : ∀ {l : List Nat} {uk : Nat × Nat}, own a nm l = some uk → uk.1 ∈ l ∧ uk.2 < a.1 7 uk.1 ∧ fi (fun k => a.1 8 (4 * uk.1 + k) == nm) (a.1 7 uk.1) 0 = some uk.2 := by
  intro l
  induction l with
  | nil => intro uk h; cases h
  | cons u us ih =>
    intro uk h
    unfold own at h
    cases hf : fi (fun k => a.1 8 (4 * u + k) == nm) (a.1 7 u) 0 with
    | some k =>
      rw [hf] at h
      cases h
      have := fi_lt hf
      exact ⟨List.mem_cons_self, by simpa using this.2.1, hf⟩
    | none =>
      rw [hf] at h
      obtain ⟨h1, h2⟩ := ih h
      exact ⟨List.mem_cons_of_mem _ h1, h2⟩
theorem fi_b {P : Nat → Bool} {f j m : Nat} (h : fi P f 0 = some j) (hm : f ≤ m) : j < m := by have := fi_lt h; omega
theorem pv_n : pv none = -3 := rfl
theorem pv_s (j : Nat) : pv (some j) = nI j := rfl
theorem fdX_L (t l : Nat) (o : Option Nat) : fdX (sp_ofLocal a t l o) X := by
  unfold sp_ofLocal
  by_cases h4 : a.1 1 t = 4
  · rw [if_pos h4]; exact fun h => absurd (show (6 : Int32) = 0 from h) (by decide)
  · rw [if_neg h4]
    by_cases h0 : a.1 15 (4 * wo a t + l) = 0
    · rw [if_pos h0]
      cases o with
      | none => exact fun h => absurd (show (4 : Int32) = 0 from h) (by decide)
      | some o =>
        by_cases hi : isO a o t = true
        · simp only [hi, if_true]
          exact fun _ => ⟨fun h => by simp at h, fun h => by simp at h, by simp⟩
        · simp only [hi]
          exact fun h => absurd (show (5 : Int32) = 0 from h) (by decide)
    · rw [if_neg h0]; exact fun h => absurd (show (7 : Int32) = 0 from h) (by decide)
theorem rh_find23 (hw : Wt a) (hbd : Wb a) {nm : Nat} (hnm : nm < 8) (x1 x2 x4 : Int32) (K : Int32 → Int32 → hmS → Option (Int64 × hmS)) (v5 v6 : Int32) : ∀ (l : List Nat) (o : Option Nat) (N : Nat), isCh (a.2.1 6) o l → (∀ x ∈ l, x < a.1 0 0) → l.length < N → fX8_find_L23 ma x1 x2 (nI nm) x4 K N v5 v6 (pv o) (rSt ρ ma (mkS a X)) = match own a nm l with
    | some uk => fX8_ofField ma (nI uk.1) (nI uk.2) v6 (rSt ρ ma (mkS a X))
    | none => fX8_find_B23 ma x1 x2 (nI nm) x4 K (fun _ _ _ _ => none) v5 v6 (-3) (rSt ρ ma (mkS a X)) := by
  have hn := hw.n12
  intro l
  induction l with
  | nil =>
    intro o N h _ hN
    obtain ⟨N, rfl⟩ : ∃ k, N = k + 1 := ⟨N - 1, by omega⟩
    cases o with
    | some t => exact h.elim
    | none =>
      simp only [fX8_find_L23, own, pv_n, pv_s]
      simp only [fX8_find_B23, if_true]
  | cons u us ih =>
    intro o N h hl hN
    obtain ⟨N, rfl⟩ : ∃ k, N = k + 1 := ⟨N - 1, by omega⟩
    cases o with
    | none => exact h.elim
    | some t =>
      obtain ⟨rfl, h2⟩ := h
      have hu := hl u List.mem_cons_self
      have hnf := hw.nf hu
      have ih' := ih (a.2.1 6 u) N h2 (fun x hx => hl x (List.mem_cons_of_mem _ hx)) (by simpa using hN)
      rw [show fX8_find_L23 ma x1 x2 (nI nm) x4 K (N + 1) v5 v6 (pv (some u)) (rSt ρ ma (mkS a X)) = fX8_find_B23 ma x1 x2 (nI nm) x4 K (fX8_find_L23 ma x1 x2 (nI nm) x4 K N) v5 v6 (nI u) (rSt ρ ma (mkS a X)) from rfl]
      unfold own
      cases hf : fi (fun k => a.1 8 (4 * u + k) == nm) (a.1 7 u) 0 with
      | some k =>
        have hk := fi_b hf hnf
        simp only [fX8_find_B23, if_neg (n_ne3 (show u < 100000 by omega)), rf_obC, ob_some, rg_fieldOf ρ ma a X hw hbd hu hnm, cb_some, hf, pv_n, pv_s, if_neg (n_nn (show k < 100000 by omega))]
        cases fX8_ofField ma (nI u) (nI k) v6 (rSt ρ ma (mkS a X)) with
        | none => rfl
        | some q => rfl
      | none =>
        rw [← ih']
        simp only [fX8_find_B23, if_neg (n_ne3 (show u < 100000 by omega)), rf_obC, ob_some, rg_fieldOf ρ ma a X hw hbd hu hnm, cb_some, hf, pv_n, pv_s, if_pos (show (-3 : Int32) < 0 by decide), q_r6, q_a6 ρ ma a X (show u < 12 by omega)]
theorem lcl_s {nm t l : Nat} (h : lcl a nm t = some l) : ∃ w, a.2.1 2 t = some w ∧ l < a.1 5 t ∧ las (fun k => a.1 13 (4 * w + k) == nm) (a.1 5 t) = some l := by
  unfold lcl at h
  cases hw : a.2.1 2 t with
  | none => rw [hw] at h; cases h
  | some w => rw [hw] at h; exact ⟨w, rfl, (las_lt h).1, h⟩
theorem rh_findL (hi : Iv a) {p : Nat} (hp : p ≤ 1) {nm : Nat} (hnm : nm < 8) (x1 x2 : Int32) : ∀ (ts : List Nat) (o q : Option Nat) (N : Nat), isCh (a.2.1 2) o ts → (∀ x ∈ ts, x < a.1 0 0) → ts.length < N → (∀ r, q = some r → r < a.1 16 0 ∧ ∀ t, o = some t → isO a r t = true) → ∃ X', fX8_find_L12 ma x1 x2 (nI nm) (nI p) N (pv o) (pv q) (rSt ρ ma (mkS a X)) = some (rv a p (fndL a nm ts q), rSt ρ ma (mkS (aW_ a (pw p (fndL a nm ts q))) X')) ∧ fdX (fndL a nm ts q) X' := by
  obtain ⟨hbd, hw, hc, hO, hq, hz⟩ := hi
  have hn := hw.n12
  intro ts
  induction ts with
  | nil =>
    intro o q N h _ hN _
    obtain ⟨N, rfl⟩ : ∃ k, N = k + 1 := ⟨N - 1, by omega⟩
    cases o with
    | some t => exact h.elim
    | none =>
      refine ⟨X, ?_, fun h => absurd (show (8 : Int32) = 0 from h) (by decide)⟩
      simp only [fX8_find_L12, fX8_find_B12, pv_n, pv_s, if_true, rf_obC, ob_some, rg_told, cb_some]
      unfold rv pw
      simp [fndL]
  | cons t ts ih =>
    intro o q N h hl hN hob
    obtain ⟨N, rfl⟩ : ∃ k, N = k + 1 := ⟨N - 1, by omega⟩
    cases o with
    | none => exact h.elim
    | some t' =>
      obtain ⟨rfl, h2⟩ := h
      have ht := hl t List.mem_cons_self
      have hkd := hw.kd ht
      have hq520 : ∀ r, q = some r → r < 520 := fun r hr => Nat.lt_trans (hob r hr).1 hq.1
      obtain ⟨pl, p1, p2, p3⟩ := hc.ch hw (o := some t) (fun x hx => by cases hx; exact ht)
      have epl : pch a t = pl := chl_eq p1 p2
      have eL : fX8_find_L12 ma x1 x2 (nI nm) (nI p) (N + 1) (pv (some t)) (pv q) (rSt ρ ma (mkS a X)) = fX8_find_L23 ma x1 x2 (nI nm) (nI p) (fX8_find_L12 ma x1 x2 (nI nm) (nI p) N) 20 (nI t) (pv q) (pv (some t)) (rSt ρ ma (mkS a X)) := by
        show fX8_find_B12 ma x1 x2 (nI nm) (nI p) (fX8_find_L12 ma x1 x2 (nI nm) (nI p) N) (nI t) (pv q) (rSt ρ ma (mkS a X)) = _
        unfold fX8_find_B12
        rw [if_neg (n_ne3 (show t < 100000 by omega))]
        rfl
      rw [eL, rh_find23 ρ ma a X hw hbd hnm x1 x2 (nI p) _ (nI t) (pv q) pl (some t) 20 p1 p3 (by omega)]
      unfold fndL
      rw [epl]
      cases hown : own a nm pl with
      | some uk =>
        obtain ⟨u1, u2, -⟩ := own_s a hown
        have := hw.nf (p3 _ u1)
        exact rh_ofField ρ ma a X hw hbd p (p3 _ u1) (by omega) hq520
      | none =>
        have eB : fX8_find_B23 ma x1 x2 (nI nm) (nI p) (fX8_find_L12 ma x1 x2 (nI nm) (nI p) N) (fun _ _ _ _ => none) (nI t) (pv q) (-3) (rSt ρ ma (mkS a X)) = fX8_find_J104 ma x1 x2 (nI nm) (nI p) (fX8_find_L12 ma x1 x2 (nI nm) (nI p) N) (nI t) (pv q) (pv (lcl a nm t)) (rSt ρ ma (mkS a X)) := by
          simp only [fX8_find_B23, if_true, q_r1, ob_some, q_a1 ρ ma a X (show t < 12 by omega), rg_isInMethod (a.1 1 t) (by omega), cb_some, b2_0]
          by_cases h3 : 3 ≤ a.1 1 t
          · obtain ⟨w, w1, w2⟩ := hw.o1 ht (by omega)
            have h5 := hw.a4 ht
            simp only [h3, decide_true, Bool.true_eq_false, if_false, q_r2, ob_some, q_a2 ρ ma a X (show t < 12 by omega), w2, pv_n, pv_s, q_r5, q_a5 ρ ma a X (show t < 12 by omega), rf_obC, rh_localOf ρ ma a X hbd (show w < 12 by omega) hnm h5, cb_some]
            simp only [lcl, w2]
          · have hl0 : lcl a nm t = none := by
              unfold lcl
              rw [hw.a0 ht (by omega)]
              cases a.2.1 2 t <;> rfl
            simp only [h3, decide_false, if_true, hl0, pv_n, pv_s]
        show ∃ X', fX8_find_B23 ma x1 x2 (nI nm) (nI p) (fX8_find_L12 ma x1 x2 (nI nm) (nI p) N) (fun _ _ _ _ => none) (nI t) (pv q) (-3) (rSt ρ ma (mkS a X)) = _ ∧ _
        rw [eB]
        cases hlc : lcl a nm t with
        | some l =>
          obtain ⟨w, w1, w2, -⟩ := lcl_s a hlc
          have h5 := hw.a4 ht
          refine ⟨X, ?_, ?_⟩
          · simp only [fX8_find_J104, pv_n, pv_s, if_neg (n_nn (show l < 100000 by omega)), rf_obC, ob_some]
            rw [rh_ofLocal ρ ma a X hw hbd hp ht w1 (by omega) hq520]
            rfl
          · exact fdX_L a X t l q
        | none =>
          have hnx : ∀ r, nxt a t q = some r → r < a.1 16 0 ∧ ∀ t', a.2.1 2 t = some t' → isO a r t' = true := by
            intro r hr
            cases q with
            | none => cases hr
            | some qo =>
              obtain ⟨c1, c2⟩ := hob qo rfl
              rw [show nxt a t (some qo) = if bd a t then a.2.1 19 (12 * qo + t) else none from rfl] at hr
              split at hr
              · have := (hO qo c1 t (by omega) (c2 t rfl)).2.2 r hr
                exact ⟨this.2.1, fun w hw' => this.2.2 w hw'⟩
              · cases hr
          obtain ⟨X', e1, e2⟩ := ih (a.2.1 2 t) (nxt a t q) N h2 (fun x hx => hl x (List.mem_cons_of_mem _ hx)) (by simpa using hN) hnx
          refine ⟨X', ?_, e2⟩
          rw [← e1]
          simp only [fX8_find_J104, pv_n, pv_s, if_pos (show (-3 : Int32) < 0 by decide), rf_obC, ob_some]
          cases q with
          | none => simp only [pv_n, pv_s, if_true, fX8_find_J140, fX8_find_J158, q_r2, ob_some, q_a2 ρ ma a X (show t < 12 by omega), nxt]
          | some qo =>
            have := (hob qo rfl).1
            have := hq.1
            simp only [pv_n, pv_s, if_neg (n_ne3 (show qo < 100000 by omega)), rh_isBound ρ ma a X hw ht, cb_some, b2_0, nxt]
            cases hb : bd a t with
            | false => simp only [if_true, fX8_find_J140, fX8_find_J158, q_r2, ob_some, q_a2 ρ ma a X (show t < 12 by omega), Bool.false_eq_true, if_false, pv_n, pv_s]
            | true => simp only [Bool.true_eq_false, if_false, if_true, q_r19, ob_some, n_i12, q_a19 ρ ma a X (show 12 * qo + t < 6240 by omega), fX8_find_J158, q_r2, q_a2 ρ ma a X (show t < 12 by omega)]
def tyO (a : aS) (o : Nat) : List Nat := och a (some (a.1 17 o))
theorem rh_find (hi : Iv a) {p : Nat} (hp : p ≤ 1) {nm : Nat} (hnm : nm < 8) {t : Nat} (ht : t < a.1 0 0) {q : Option Nat} (hob : ∀ r, q = some r → r < a.1 16 0 ∧ isO a r t = true) : ∃ X', fX8_find ma (nI t) (pv q) (nI nm) (nI p) (rSt ρ ma (mkS a X)) = some (rv a p (fndL a nm (och a (some t)) q), rSt ρ ma (mkS (aW_ a (pw p (fndL a nm (och a (some t)) q))) X')) ∧ fdX (fndL a nm (och a (some t)) q) X' := by
  obtain ⟨ts, t1, t2, t3⟩ := hi.2.1.oc' (o := some t) (fun x hx => by cases hx; exact ht)
  have e : och a (some t) = ts := chl_eq t1 t2
  rw [e]
  obtain ⟨X', h1, h2⟩ := rh_findL ρ ma a (up2 X 31 0 (-3)) hi hp hnm (nI t) (pv q) ts (some t) q 20 t1 t3 (by omega) (fun r hr => ⟨(hob r hr).1, fun x hx => by cases hx; exact (hob r hr).2⟩)
  refine ⟨X', ?_, h2⟩
  simp only [fX8_find, q_w31, ob_some]
  exact h1
/-- what is found from a place -/
def fpl (a : aS) (x y : Int32) : Int32 × Nat × Nat := match ix x 8, ix y 8 with
  | some p, some nm => (match a.2.1 22 p with
    | none => (9, 0, 0)
    | some o => fndL a nm (tyO a o) (some o))
  | _, _ => (-1, 0, 0)
def sp_see (a : aS) (x y : Int32) : Int64 × aS := (rv a 0 (fpl a x y), aW_ a (pw 0 (fpl a x y)))
theorem rh_see (hi : Iv a) (x y : Int32) : ∃ X', fX8_see ma x y (rSt ρ ma (mkS a X)) = some ((sp_see a x y).1, rSt ρ ma (mkS (sp_see a x y).2 X')) := by
  have hq := hi.2.2.2.2.1
  have hJ : ∀ x y, fX8_see_J14 ma x y (rSt ρ ma (mkS a X)) = some (0, rSt ρ ma (mkS (aW_ a (-1)) X)) := fun x y => by
    simp only [fX8_see_J14, rf_obC, ob_some, rg_told, cb_some]
  unfold sp_see fpl
  cases hx : ix x 8 with
  | none => exact ⟨X, by simp [fX8_see, rf_isPlace, cb_some, hx, b2, hJ, rv, pw]⟩
  | some p =>
    obtain ⟨hp, rfl⟩ := ix_s hx (by decide)
    cases hy : ix y 8 with
    | none => exact ⟨X, by simp [fX8_see, rf_isPlace, rf_isName, cb_some, hx, hy, b2, hJ, rv, pw]⟩
    | some nm =>
      obtain ⟨hm, rfl⟩ := ix_s hy (by decide)
      simp only [fX8_see, rf_isPlace, rf_isName, cb_some, hx, hy, b2_0, Option.isSome_some, Bool.true_eq_false, if_false, q_r22, ob_some, q_a22 ρ ma a X hp, reduceCtorEq]
      cases ho : a.2.1 22 p with
      | none => exact ⟨X, by simp [pv_n, rf_obC, ob_some, rg_told, cb_some, rv, pw]⟩
      | some o =>
        have h1 := hq.2.2.1 p hp o ho
        have h2 := hq.2.1 o h1
        have h3 := hq.1
        obtain ⟨X', e1, -⟩ := rh_find ρ ma a X hi (p := 0) (by decide) hm h2.1 (q := some o) (fun r hr => by cases hr; exact ⟨h1, h2.2⟩)
        refine ⟨X', ?_⟩
        simp only [pv_s, if_neg (n_ne3 (show o < 100000 by omega)), q_r17, ob_some, q_a17 ρ ma a X (show o < 520 by omega), rf_obC]
        rw [pv_s] at e1
        rw [show (0 : Int32) = nI 0 from rfl, e1]
        rfl
/-- a place of the longs written -/
def putR (a : aS) (r : Int32 × Nat × Nat) (v : Int64) : aS := if pw 1 r = 0 then aL_ (aW_ a 0) r.2.1 r.2.2 v else aW_ a (pw 1 r)
def sp_put (a : aS) (x y : Int32) (v : Int64) : Int32 × aS := (pw 1 (fpl a x y), putR a (fpl a x y) v)
theorem nI_d4 {u k : Nat} (hu : u < 12) (hk : k < 4) : nI (4 * u + k) / (4 : Int32) = nI u ∧ nI (4 * u + k) - nI u * (4 : Int32) = nI k := by
  have h : ∀ u, u < 12 → ∀ k, k < 4 → nI (4 * u + k) / (4 : Int32) = nI u ∧ nI (4 * u + k) - nI u * (4 : Int32) = nI k := by decide +kernel
  exact h u hu k hk
theorem rh_put (hi : Iv a) (x y : Int32) (v : Int64) : ∃ X', fX8_put_ ma x y v (rSt ρ ma (mkS a X)) = some ((sp_put a x y v).1, rSt ρ ma (mkS (sp_put a x y v).2 X')) := by
  have hq := hi.2.2.2.2.1
  have hJ : ∀ x y, fX8_put__J14 ma x y v (rSt ρ ma (mkS a X)) = some (-1, rSt ρ ma (mkS (aW_ a (-1)) X)) := fun x y => by
    simp only [fX8_put__J14, q_w28, ob_some]
  unfold sp_put fpl putR tyO
  cases hx : ix x 8 with
  | none => exact ⟨X, by simp [fX8_put_, rf_isPlace, cb_some, hx, b2, hJ, pw]⟩
  | some p =>
    obtain ⟨hp, rfl⟩ := ix_s hx (by decide)
    cases hy : ix y 8 with
    | none => exact ⟨X, by simp [fX8_put_, rf_isPlace, rf_isName, cb_some, hx, hy, b2, hJ, pw]⟩
    | some nm =>
      obtain ⟨hm, rfl⟩ := ix_s hy (by decide)
      simp only [fX8_put_, rf_isPlace, rf_isName, cb_some, hx, hy, b2_0, Option.isSome_some, Bool.true_eq_false, if_false, q_r22, ob_some, q_a22 ρ ma a X hp, reduceCtorEq]
      cases ho : a.2.1 22 p with
      | none => exact ⟨X, by simp [pv_n, q_w28, ob_some, pw]⟩
      | some o =>
        have h1 := hq.2.2.1 p hp o ho
        have h2 := hq.2.1 o h1
        have h3 := hq.1
        obtain ⟨X', e1, e2⟩ := rh_find ρ ma a X hi (p := 1) (by decide) hm h2.1 (q := some o) (fun r hr => by cases hr; exact ⟨h1, h2.2⟩)
        refine ⟨X', ?_⟩
        simp only [pv_s, if_neg (n_ne3 (show o < 100000 by omega)), q_r17, ob_some, q_a17 ρ ma a X (show o < 520 by omega), rf_obC]
        rw [pv_s] at e1
        rw [show (1 : Int32) = nI 1 from rfl, e1]
        rw [cb_some]
        show (ob (gI (rSt ρ ma (mkS (aW_ a (pw 1 (fndL a nm (och a (some (a.1 17 o))) (some o)))) X')) ma 10 28) _) = some (pw 1 (fndL a nm (och a (some (a.1 17 o))) (some o)), rSt ρ ma (mkS (if pw 1 (fndL a nm (och a (some (a.1 17 o))) (some o)) = 0 then aL_ (aW_ a 0) (fndL a nm (och a (some (a.1 17 o))) (some o)).2.1 (fndL a nm (och a (some (a.1 17 o))) (some o)).2.2 v else aW_ a (pw 1 (fndL a nm (och a (some (a.1 17 o))) (some o)))) X'))
        clear e1
        generalize fndL a nm (och a (some (a.1 17 o))) (some o) = r at e2 ⊢
        simp only [q_g28, ob_some]
        have eW : (aW_ a (pw 1 r)).2.2.2 = pw 1 r := rfl
        rw [eW]
        by_cases h0 : pw 1 r = 0
        · have hr0 : r.1 = 0 := by
            unfold pw at h0
            split at h0
            · exact absurd h0 (by decide)
            · exact h0
          have hr21 : r.2.1 ≠ 21 := fun e => by
            unfold pw at h0
            rw [if_pos ⟨rfl, hr0, e⟩] at h0
            exact absurd h0 (by decide)
          obtain ⟨f1, f2, f3⟩ := e2 hr0
          rw [if_pos h0, if_pos h0, h0]
          rcases f3 with f3 | f3 | f3
          · obtain ⟨g1, g2, g3⟩ := f1 f3
            simp only [q_g32, ob_some, g3, if_true, q_r9, q_g31, g2, q_s9 ρ ma _ X' g1, fX8_put__J127, q_g28]
            rw [f3]
            rfl
          · obtain ⟨o', u, k, g1, g2, g3, g4, g5, g6⟩ := f2 f3
            obtain ⟨d1, d2⟩ := nI_d4 g2 g3
            simp only [q_g32, ob_some, g6, if_neg (n_ne3 (show o' < 100000 by omega)), fX8_put__J91, q_g28, q_r20, q_g31, g5, d1, d2]
            rw [if_pos (show (aW_ a 0).2.2.2 = 0 from rfl)]
            simp only [n_412, q_s20 ρ ma _ X' (show 4 * (12 * o' + u) + k < 24960 by omega), ob_some, fX8_put__J127, q_g28]
            rw [f3, g4]
            rfl
          · exact absurd f3 hr21
        · rw [if_neg h0, if_neg h0]
          simp only [fX8_put__J91, q_g28, ob_some, eW, if_neg h0, fX8_put__J127]
def flm (a : aS) (x y : Int32) : Int32 × Nat × Nat := match ix x (a.1 23 0), ix y 8 with
  | some j, some nm => (match las (fun k => a.1 13 (4 * a.1 24 j + k) == nm) (a.1 26 j) with
    | none => fndL a nm (och a (some (a.1 24 j))) (a.2.1 25 j)
    | some l => if a.1 15 (4 * a.1 24 j + l) = 0 then (0, 27, 4 * j + l) else (7, 0, 0))
  | _, _ => (-1, 0, 0)
def sp_seen (a : aS) (x y : Int32) : Int64 × aS := (rv a 0 (flm a x y), aW_ a (pw 0 (flm a x y)))
theorem rh_seen (hi : Iv a) (x y : Int32) : ∃ X', fX8_seen ma x y (rSt ρ ma (mkS a X)) = some ((sp_seen a x y).1, rSt ρ ma (mkS (sp_seen a x y).2 X')) := by
  obtain ⟨hbd, hw, hc, hO, hq, hz⟩ := id hi
  have hn := hw.n12
  have hJ : ∀ x y, fX8_seen_J21 ma x y (rSt ρ ma (mkS a X)) = some (0, rSt ρ ma (mkS (aW_ a (-1)) X)) := fun x y => by
    simp only [fX8_seen_J21, rf_obC, ob_some, rg_told, cb_some]
  unfold sp_seen flm
  have h23 := hq.2.2.2.1
  cases hx : ix x (a.1 23 0) with
  | none => exact ⟨X, by simp [fX8_seen, q_g23, ob_some, rf_in x (a.1 23 0) (by omega), cb_some, hx, b2, hJ, rv, pw]⟩
  | some j =>
    obtain ⟨hj, rfl⟩ := ix_s hx (by omega)
    cases hy : ix y 8 with
    | none => exact ⟨X, by simp [fX8_seen, q_g23, ob_some, rf_in (nI j) (a.1 23 0) (by omega), rf_isName, cb_some, hx, hy, b2, hJ, rv, pw]⟩
    | some nm =>
      obtain ⟨hm, rfl⟩ := ix_s hy (by decide)
      obtain ⟨l1, l2, l3⟩ := hq.2.2.2.2 j hj
      have hnl := hw.nl l1
      simp only [fX8_seen, q_g23, ob_some, rf_in (nI j) (a.1 23 0) (by omega), rf_isName, cb_some, hx, hy, b2_0, Option.isSome_some, Bool.true_eq_false, if_false, q_r24, q_a24 ρ ma a X (show j < 6 by omega), q_r26, q_a26 ρ ma a X (show j < 6 by omega), rf_obC, rh_localOf ρ ma a X hbd (show a.1 24 j < 12 by omega) hm (show a.1 26 j ≤ 4 by omega), reduceCtorEq]
      cases hl : las (fun k => a.1 13 (4 * a.1 24 j + k) == nm) (a.1 26 j) with
      | none =>
        obtain ⟨X', e1, -⟩ := rh_find ρ ma a X hi (p := 0) (by decide) hm l1 (q := a.2.1 25 j) (fun r hr => l3 r hr)
        refine ⟨X', ?_⟩
        simp only [pv_n, if_neg (show ¬ (0 : Int32) ≤ -3 by decide), q_r25, ob_some, q_a25 ρ ma a X (show j < 6 by omega), rf_obC]
        rw [show (0 : Int32) = nI 0 from rfl, e1]
        rfl
      | some l =>
        have hl4 := (las_lt hl).1
        have e0 : (nI (a.1 15 (4 * a.1 24 j + l)) = (0 : Int32)) = (a.1 15 (4 * a.1 24 j + l) = 0) := n_eq (y := 0) (Nat.lt_trans (hbd.1 15 _) (by decide)) (by decide)
        refine ⟨X, ?_⟩
        simp only [pv_s, if_pos (show (0 : Int32) ≤ nI l from Int32.not_lt.mp (n_nn (by omega))), q_r15, ob_some, n_i4, q_a15 ρ ma a X (show 4 * a.1 24 j + l < 48 by omega), e0, q_w28, q_r27, q_a27 ρ ma _ X (show 4 * j + l < 24 by omega), rf_obC, rg_told, cb_some]
        by_cases h0 : a.1 15 (4 * a.1 24 j + l) = 0
        · simp [h0, rv, pw, aW_]
        · simp [h0, rv, pw, rf_obC, ob_some, rg_told, cb_some]
end RH
