/-! The reference: types and their names. -/
def tyArg (a : aS) (x y z : Int32) : Option (Nat × Option Nat × Option Nat) := match ix x 6 with
  | none => none
  | some k => if k = 5 then (match ix y (a.1 0 0) with
      | none => none
      | some w => some (5, some w, none)) else (match ix z 26 with
    | none => none
    | some c => if k = 0 then some (0, none, some c) else (match ix y (a.1 0 0) with
      | none => none
      | some w => some (k, some w, some c)))
def topP (a : aS) (oc : Option Nat) (t : Nat) : Bool := a.1 1 t == 0 && a.2.1 3 t == oc
def memP (a : aS) (ow oc : Option Nat) (t : Nat) : Bool := (a.1 1 t == 1 || a.1 1 t == 2) && a.2.1 2 t == ow && a.2.1 3 t == oc
def taken (a : aS) (k : Nat) (ow oc : Option Nat) : Bool := if k = 0 then (fi (topP a oc) (a.1 0 0) 0).isSome else if k = 5 then false else (och a ow).any (fun t => a.2.1 3 t == oc) || (decide (k < 3) && (fi (memP a ow oc) (a.1 0 0) 0).isSome)
def twP (a : aS) (k : Nat) (ow oc : Option Nat) (t : Nat) : Bool := decide (3 ≤ k) && decide (3 ≤ a.1 1 t) && a.2.1 2 t == ow && a.2.1 3 t == oc
def newT (a : aS) (k : Nat) (ow oc : Option Nat) (num ah : Nat) : aS := aN_ (aP_ (aN_ (aN_ (aP_ (aP_ (aN_ a 1 (a.1 0 0) k) 2 (a.1 0 0) ow) 3 (a.1 0 0) oc) 4 (a.1 0 0) num) 5 (a.1 0 0) ah) 6 (a.1 0 0) none) 0 0 (a.1 0 0 + 1)
def ahd (a : aS) (k : Nat) (ow : Option Nat) : Nat := if 3 ≤ k then (match ow with
  | some w => a.1 12 w
  | none => 0) else 0
def sp_type (a : aS) (x y z : Int32) : Int32 × aS := match tyArg a x y z with
  | none => (-1, a)
  | some q => if a.1 0 0 = 12 then (-2, a) else if taken a q.1 q.2.1 q.2.2 then (-4, a) else (nI (a.1 0 0), newT a q.1 q.2.1 q.2.2 (1 + cnt (twP a q.1 q.2.1 q.2.2) (a.1 0 0) 0) (ahd a q.1 q.2.1))
theorem aN_aN (a : aS) (k j v v' : Nat) : aN_ (aN_ a k j v) k j v' = aN_ a k j v' := by
  refine Prod.ext (funext fun k' => funext fun j' => ?_) rfl
  show (if k' = k ∧ j' = j then v' else if k' = k ∧ j' = j then v else a.1 k' j') = if k' = k ∧ j' = j then v' else a.1 k' j'
  split <;> simp_all
theorem cnt_le (P : Nat → Bool) : ∀ f i, cnt P f i ≤ f := by
  intro f
  induction f with
  | zero => intro i; exact Nat.le_refl _
  | succ f ih => intro i; unfold cnt; have := ih (i + 1); split <;> omega
section RK
variable (ρ : hmS) (ma : Nat) (a : aS) (X : Nat → Nat → Int32)
theorem rk_top (hw : Wt a) (hbd : Wb a) {c : Nat} (hc : c < 26) (x1 x2 : Int32) : ∀ (f i : Nat) (b : Bool) (N : Nat), i + f = a.1 0 0 → f < N → fX8_isTaken_L10 ma x1 x2 (nI c) N (b2 b) (nI i) (rSt ρ ma (mkS a X)) = some (b2 (b || (fi (topP a (some c)) f i).isSome), rSt ρ ma (mkS a X)) := by
  have hn := hw.n12
  intro f
  induction f with
  | zero =>
    intro i b N hi hN
    obtain ⟨N, rfl⟩ : ∃ k, N = k + 1 := ⟨N - 1, by omega⟩
    simp only [fX8_isTaken_L10, fX8_isTaken_B10, q_g0, ob_some, n_le (show a.1 0 0 < 100000 by omega) (show i < 100000 by omega), if_pos (show a.1 0 0 ≤ i by omega), okZ_b2, fi, Option.isSome_none, Bool.or_false]
  | succ f ih =>
    intro i b N hi hN
    obtain ⟨N, rfl⟩ : ∃ k, N = k + 1 := ⟨N - 1, by omega⟩
    have hk := hw.kd (t := i) (by omega)
    have e0 : (nI (a.1 1 i) = (0 : Int32)) = (a.1 1 i = 0) := n_eq (y := 0) (by omega) (by decide)
    simp only [fX8_isTaken_L10, fX8_isTaken_B10, fX8_isTaken_J46, fX8_isTaken_J47, q_g0, ob_some, n_le (show a.1 0 0 < 100000 by omega) (show i < 100000 by omega), if_neg (show ¬ a.1 0 0 ≤ i by omega), q_r1, q_a1 ρ ma a X (show i < 12 by omega), e0, q_r3, q_a3 ρ ma a X (show i < 12 by omega), pv_nI (o := a.2.1 3 i) (fun r hr => Nat.lt_trans (hbd.2 _ _ _ hr) (by decide)) (show c < 100000 by omega), n_s, b2or1, b2or0, ih (i + 1) _ N (by omega) (by omega)]
    by_cases h1 : a.1 1 i = 0 <;> by_cases h2 : a.2.1 3 i = some c <;> simp [h1, h2, fi, topP]
theorem rk_mem (hw : Wt a) (hbd : Wb a) {k w c : Nat} (hk5 : k < 6) (hw12 : w < 12) (hc : c < 26) : ∀ (f i : Nat) (b : Bool) (N : Nat), i + f = a.1 0 0 → f < N → fX8_isTaken_L110 ma (nI k) (nI w) (nI c) N (b2 b) (nI i) (rSt ρ ma (mkS a X)) = some (b2 (b || (decide (k < 3) && (fi (memP a (some w) (some c)) f i).isSome)), rSt ρ ma (mkS a X)) := by
  have hn := hw.n12
  have e3 : ((3 : Int32) ≤ nI k) = (3 ≤ k) := n_le (x := 3) (by decide) (by omega)
  intro f
  induction f with
  | zero =>
    intro i b N hi hN
    obtain ⟨N, rfl⟩ : ∃ k, N = k + 1 := ⟨N - 1, by omega⟩
    simp only [fX8_isTaken_L110, fX8_isTaken_B110, q_g0, ob_some, n_le (show a.1 0 0 < 100000 by omega) (show i < 100000 by omega), if_pos (show a.1 0 0 ≤ i by omega), okZ_b2, fi, Option.isSome_none, Bool.and_false, Bool.or_false]
  | succ f ih =>
    intro i b N hi hN
    obtain ⟨N, rfl⟩ : ∃ k, N = k + 1 := ⟨N - 1, by omega⟩
    have hk := hw.kd (t := i) (by omega)
    have e1 : (nI (a.1 1 i) = (1 : Int32)) = (a.1 1 i = 1) := n_eq (y := 1) (by omega) (by decide)
    have e2 : (nI (a.1 1 i) = (2 : Int32)) = (a.1 1 i = 2) := n_eq (y := 2) (by omega) (by decide)
    simp only [fX8_isTaken_L110, fX8_isTaken_B110, fX8_isTaken_J148, fX8_isTaken_J174, fX8_isTaken_J175, q_g0, ob_some, n_le (show a.1 0 0 < 100000 by omega) (show i < 100000 by omega), if_neg (show ¬ a.1 0 0 ≤ i by omega), e3, okZ_b2, q_r1, q_a1 ρ ma a X (show i < 12 by omega), e1, e2, q_r3, q_a3 ρ ma a X (show i < 12 by omega), q_r2, q_a2 ρ ma a X (show i < 12 by omega), pv_nI (o := a.2.1 3 i) (fun r hr => Nat.lt_trans (hbd.2 _ _ _ hr) (by decide)) (show c < 100000 by omega), pv_nI (o := a.2.1 2 i) (fun r hr => Nat.lt_trans (hbd.2 _ _ _ hr) (by decide)) (show w < 100000 by omega), n_s, b2or1, b2or0, ih (i + 1) _ N (by omega) (by omega)]
    by_cases hk3 : 3 ≤ k
    · simp [hk3, show ¬ k < 3 by omega]
    · by_cases h1 : a.1 1 i = 1
      · by_cases h2 : a.2.1 2 i = some w <;> by_cases h3 : a.2.1 3 i = some c <;> simp [h1, h2, h3, hk3, show k < 3 by omega, fi, memP]
      · by_cases h1' : a.1 1 i = 2
        · by_cases h2 : a.2.1 2 i = some w <;> by_cases h3 : a.2.1 3 i = some c <;> simp [h1', h2, h3, hk3, show k < 3 by omega, fi, memP]
        · simp [h1, h1', hk3, show k < 3 by omega, fi, memP]
theorem rk_och (hw : Wt a) (hbd : Wb a) {k w c : Nat} (hk5 : k < 6) (hw12 : w < 12) (hc : c < 26) : ∀ (l : List Nat) (o : Option Nat) (b : Bool) (N : Nat), isCh (a.2.1 2) o l → (∀ x ∈ l, x < a.1 0 0) → l.length < N → fX8_isTaken_L69 ma (nI k) (nI w) (nI c) N (b2 b) (pv o) (rSt ρ ma (mkS a X)) = some (b2 (b || l.any (fun t => a.2.1 3 t == some c) || (decide (k < 3) && (fi (memP a (some w) (some c)) (a.1 0 0) 0).isSome)), rSt ρ ma (mkS a X)) := by
  have hn := hw.n12
  intro l
  induction l with
  | nil =>
    intro o b N h _ hN
    obtain ⟨N, rfl⟩ : ∃ k, N = k + 1 := ⟨N - 1, by omega⟩
    cases o with
    | some t => exact h.elim
    | none =>
      have := rk_mem ρ ma a X hw hbd hk5 hw12 hc (a.1 0 0) 0 b 20 (by omega) (by omega)
      show fX8_isTaken_B69 ma (nI k) (nI w) (nI c) _ (b2 b) (-3) (rSt ρ ma (mkS a X)) = _
      unfold fX8_isTaken_B69
      rw [if_pos (by decide), show (0 : Int32) = nI 0 from rfl, this]
      simp
  | cons t l ih =>
    intro o b N h hl hN
    obtain ⟨N, rfl⟩ : ∃ k, N = k + 1 := ⟨N - 1, by omega⟩
    cases o with
    | none => exact h.elim
    | some t' =>
      obtain ⟨rfl, h2⟩ := h
      have ht := hl t List.mem_cons_self
      have ih' := fun b => ih (a.2.1 2 t) b N h2 (fun x hx => hl x (List.mem_cons_of_mem _ hx)) (by simpa using hN)
      show fX8_isTaken_B69 ma (nI k) (nI w) (nI c) (fX8_isTaken_L69 ma (nI k) (nI w) (nI c) N) (b2 b) (nI t) (rSt ρ ma (mkS a X)) = _
      simp only [fX8_isTaken_B69, if_neg (n_nn (show t < 100000 by omega)), q_r3, ob_some, q_a3 ρ ma a X (show t < 12 by omega), pv_nI (o := a.2.1 3 t) (fun r hr => Nat.lt_trans (hbd.2 _ _ _ hr) (by decide)) (show c < 100000 by omega), fX8_isTaken_J92, q_r2, q_a2 ρ ma a X (show t < 12 by omega), b2or1, b2or0, ih']
      by_cases h3 : a.2.1 3 t = some c
      · simp [h3]
      · have h3' : (a.2.1 3 t == some c) = false := beq_eq_false_iff_ne.mpr h3
        simp only [if_neg h3, List.any_cons, h3', Bool.false_or]
theorem rk_tw (hw : Wt a) (hbd : Wb a) {k : Nat} {ow oc : Option Nat} (hk : k < 6) (how : 3 ≤ k → ∃ w, ow = some w ∧ w < a.1 0 0) (hoc : ∀ c, oc = some c → c < 26) (h12 : a.1 0 0 < 12) (x2 x3 : Int32) (hx2 : 3 ≤ k → x2 = pv ow) (b : aS) (hb0 : b.1 0 0 = a.1 0 0) (hb1 : ∀ t, t < a.1 0 0 → b.1 1 t = a.1 1 t) (hb2 : ∀ t, t < a.1 0 0 → b.2.1 2 t = a.2.1 2 t) (hb3 : ∀ t, t < a.1 0 0 → b.2.1 3 t = a.2.1 3 t) (hb4 : b.2.1 3 (a.1 0 0) = oc) (hb5 : ∀ w, ow = some w → b.1 12 w = a.1 12 w) : ∀ (f i c N : Nat), i + f = a.1 0 0 → f < N → fX8_type_L123 ma (nI k) x2 x3 N (nI (a.1 0 0)) (nI i) (rSt ρ ma (mkS (aN_ b 4 (a.1 0 0) c) X)) = some (nI (a.1 0 0), rSt ρ ma (mkS (aN_ (aP_ (aN_ (aN_ b 4 (a.1 0 0) (c + cnt (twP a k ow oc) f i)) 5 (a.1 0 0) (ahd a k ow)) 6 (a.1 0 0) none) 0 0 (a.1 0 0 + 1)) X)) := by
  have hn := hw.n12
  intro f
  induction f with
  | zero =>
    intro i c N hi hN
    obtain ⟨N, rfl⟩ : ∃ k, N = k + 1 := ⟨N - 1, by omega⟩
    have e0 : ∀ c, (aN_ b 4 (a.1 0 0) c).1 0 0 = a.1 0 0 := fun c => by rw [← hb0]; simp [aN_, up2]
    have hJ : ∀ ah : Nat, fX8_type_J224 ma (nI k) x2 x3 (nI (a.1 0 0)) (nI ah) (nI (a.1 0 0)) (some (ma + 5)) (rSt ρ ma (mkS (aN_ b 4 (a.1 0 0) c) X)) = some (nI (a.1 0 0), rSt ρ ma (mkS (aN_ (aP_ (aN_ (aN_ b 4 (a.1 0 0) c) 5 (a.1 0 0) ah) 6 (a.1 0 0) none) 0 0 (a.1 0 0 + 1)) X)) := by
      intro ah
      have e1 : sI (rSt ρ ma (mkS (aN_ (aN_ b 4 (a.1 0 0) c) 5 (a.1 0 0) ah) X)) 0 (ma + 6) (nI (a.1 0 0)) (-3) = some (rSt ρ ma (mkS (aP_ (aN_ (aN_ b 4 (a.1 0 0) c) 5 (a.1 0 0) ah) 6 (a.1 0 0) none) X)) := q_s6 ρ ma _ X h12 none
      have e2 : (aP_ (aN_ (aN_ b 4 (a.1 0 0) c) 5 (a.1 0 0) ah) 6 (a.1 0 0) none).1 0 0 = a.1 0 0 := by rw [← hb0]; simp [aN_, aP_, up2]
      simp only [fX8_type_J224, ob_some, q_s5 ρ ma _ X h12, q_r6, e1, q_g0, e2, n_s, q_w0]
    simp only [fX8_type_L123, fX8_type_B123, q_g0, ob_some, e0, n_le (show a.1 0 0 < 100000 by omega) (show i < 100000 by omega), if_pos (show a.1 0 0 ≤ i by omega), q_r5, rg_isInMethod k (by omega), cb_some, b2_0, cnt, Nat.add_zero]
    by_cases h3 : 3 ≤ k
    · obtain ⟨w, w1, w2⟩ := how h3
      have ex := hx2 h3
      rw [w1] at ex
      have e12 : (aN_ b 4 (a.1 0 0) c).1 12 w = a.1 12 w := by rw [← hb5 w w1]; simp [aN_, up2]
      simp only [h3, decide_true, Bool.true_eq_false, if_false, q_r12, ob_some]
      rw [ex, pv_s]
      simp only [q_a12 ρ ma _ X (show w < 12 by omega), ob_some, e12]
      have := hJ (a.1 12 w)
      rw [ex, pv_s] at this
      rw [this]
      simp [ahd, h3, w1]
    · simp only [h3, decide_false, if_true]
      rw [show (0 : Int32) = nI 0 from rfl, hJ 0]
      simp [ahd, h3]
  | succ f ih =>
    intro i c N hi hN
    obtain ⟨N, rfl⟩ : ∃ k, N = k + 1 := ⟨N - 1, by omega⟩
    have hki := hw.kd (t := i) (by omega)
    have e0 : (aN_ b 4 (a.1 0 0) c).1 0 0 = a.1 0 0 := by rw [← hb0]; simp [aN_, up2]
    have e1 : (aN_ b 4 (a.1 0 0) c).1 1 i = a.1 1 i := by rw [← hb1 i (by omega)]; simp [aN_, up2]
    have e2 : (aN_ b 4 (a.1 0 0) c).2.1 2 i = a.2.1 2 i := hb2 i (by omega)
    have e3 : (aN_ b 4 (a.1 0 0) c).2.1 3 i = a.2.1 3 i := hb3 i (by omega)
    have e3' : (aN_ b 4 (a.1 0 0) c).2.1 3 (a.1 0 0) = oc := hb4
    have e4 : (aN_ b 4 (a.1 0 0) c).1 4 (a.1 0 0) = c := by simp [aN_, up2]
    have hstep : ∀ v c', nI c + v = nI c' → fX8_type_J193 ma (nI k) x2 x3 (fX8_type_L123 ma (nI k) x2 x3 N) (nI (a.1 0 0)) (nI i) v (nI c) (nI (a.1 0 0)) (ma + 4) (rSt ρ ma (mkS (aN_ b 4 (a.1 0 0) c) X)) = some (nI (a.1 0 0), rSt ρ ma (mkS (aN_ (aP_ (aN_ (aN_ b 4 (a.1 0 0) (c' + cnt (twP a k ow oc) f (i + 1))) 5 (a.1 0 0) (ahd a k ow)) 6 (a.1 0 0) none) 0 0 (a.1 0 0 + 1)) X)) := by
      intro v c' hv
      simp only [fX8_type_J193, hv, q_s4 ρ ma _ X h12, ob_some, n_s, aN_aN]
      exact ih (i + 1) c' N (by omega) (by omega)
    have h0 := hstep 0 c (by rw [show (0 : Int32) = nI 0 from rfl, nI_add]; rfl)
    have h1 := hstep 1 (c + 1) (n_s c)
    simp only [fX8_type_L123, fX8_type_B123, fX8_type_J192, q_g0, ob_some, e0, n_le (show a.1 0 0 < 100000 by omega) (show i < 100000 by omega), if_neg (show ¬ a.1 0 0 ≤ i by omega), q_r4, q_a4 ρ ma _ X h12, e4, rg_isInMethod k (by omega), cb_some, b2_0, q_r1, q_a1 ρ ma _ X (show i < 12 by omega), e1, rg_isInMethod (a.1 1 i) (by omega), q_r2, q_a2 ρ ma _ X (show i < 12 by omega), e2, q_r3, q_a3 ρ ma _ X (show i < 12 by omega), e3, q_a3 ρ ma _ X h12, e3', h0, h1, pv_eq (o := a.2.1 3 i) (o' := oc) (fun r hr => Nat.lt_trans (hbd.2 _ _ _ hr) (by decide)) (fun r hr => by have := hoc r hr; omega)]
    by_cases h3 : 3 ≤ k
    · obtain ⟨w, w1, w2⟩ := how h3
      have ex := hx2 h3
      rw [w1] at ex
      have ep : (pv (a.2.1 2 i) = x2) = (a.2.1 2 i = some w) := by rw [ex]; exact pv_nI (fun r hr => Nat.lt_trans (hbd.2 _ _ _ hr) (by decide)) (by omega)
      simp only [ep]
      by_cases g1 : 3 ≤ a.1 1 i
      · by_cases g2 : a.2.1 2 i = some w <;> by_cases g3 : a.2.1 3 i = oc <;> simp [h3, g1, g2, g3, cnt, twP, w1, Nat.add_assoc]
      · simp [h3, g1, cnt, twP]
    · simp [h3, cnt, twP]
theorem rk_type (hi : Iv a) (x y z : Int32) : fX8_type ma x y z (rSt ρ ma (mkS a X)) = some ((sp_type a x y z).1, rSt ρ ma (mkS (sp_type a x y z).2 X)) := by
  obtain ⟨hbd, hw, hc, hO, hq, hz⟩ := id hi
  have hn := hw.n12
  have hin5 : ∀ x σ, fX8_in x (0 : Int32) (5 : Int32) σ = some (b2 (ix x 6).isSome, σ) := fun x σ => rf_in x 6 (by decide) σ
  have hin25 : ∀ x σ, fX8_in x (0 : Int32) (25 : Int32) σ = some (b2 (ix x 26).isSome, σ) := fun x σ => rf_in x 26 (by decide) σ
  -- from the arguments on
  have hM : ∀ (k : Nat) (ow oc : Option Nat) (y z : Int32), k < 6 → (k ≠ 0 → ∃ w, ow = some w ∧ w < a.1 0 0 ∧ y = nI w) → (k = 0 → ow = none) → (k ≠ 5 → ∃ c, oc = some c ∧ c < 26 ∧ z = nI c) → (k = 5 → oc = none) → fX8_type_J38 ma (nI k) y z (rSt ρ ma (mkS a X)) = (let r := (if a.1 0 0 = 12 then (-2, a) else if taken a k ow oc then (-4, a) else (nI (a.1 0 0), newT a k ow oc (1 + cnt (twP a k ow oc) (a.1 0 0) 0) (ahd a k ow)) : Int32 × aS); some (r.1, rSt ρ ma (mkS r.2 X))) := by
    intro k ow oc y z hk h1 h1' h2 h2'
    have e12 : (nI (a.1 0 0) = (12 : Int32)) = (a.1 0 0 = 12) := n_eq (y := 12) (by omega) (by decide)
    have ek0 : (nI k = (0 : Int32)) = (k = 0) := n_eq (y := 0) (by omega) (by decide)
    have ek5 : (nI k = (5 : Int32)) = (k = 5) := n_eq (y := 5) (by omega) (by decide)
    have hT : fX8_isTaken ma (nI k) y z (rSt ρ ma (mkS a X)) = some (b2 (taken a k ow oc), rSt ρ ma (mkS a X)) := by
      simp only [fX8_isTaken, ek0, ek5]
      unfold taken
      by_cases k0 : k = 0
      · obtain ⟨c, c1, c2, c3⟩ := h2 (by omega)
        have := rk_top ρ ma a X hw hbd c2 (nI k) y (a.1 0 0) 0 false 20 (by omega) (by omega)
        simp only [k0, if_true]
        rw [c3, c1]
        subst k0
        exact this
      · by_cases k5 : k = 5
        · simp [k5, b2]
        · obtain ⟨c, c1, c2, c3⟩ := h2 k5
          obtain ⟨w, w1, w2, w3⟩ := h1 k0
          obtain ⟨ts, t1, t2, t3⟩ := hw.oc' (o := some w) (fun x hx => by cases hx; exact w2)
          have e : och a (some w) = ts := chl_eq t1 t2
          have := rk_och ρ ma a X hw hbd hk (show w < 12 by omega) c2 ts (some w) false 20 t1 t3 (by omega)
          simp only [k0, k5, if_false]
          rw [c3, c1, w3, w1, e]
          rw [Bool.false_or] at this
          exact this
    simp only [fX8_type_J38, q_g0, ob_some, e12, rf_obC, hT, cb_some, b2_0]
    by_cases n12 : a.1 0 0 = 12
    · simp [n12]
    · have hn12 : a.1 0 0 < 12 := by omega
      simp only [if_neg n12]
      cases taken a k ow oc with
      | true => simp
      | false =>
        have hJ : ∀ w0, w0 = pv ow → fX8_type_J93 ma (nI k) y z (nI (a.1 0 0)) w0 (nI (a.1 0 0)) (some (ma + 2)) (rSt ρ ma (mkS (aN_ a 1 (a.1 0 0) k) X)) = some (nI (a.1 0 0), rSt ρ ma (mkS (newT a k ow oc (1 + cnt (twP a k ow oc) (a.1 0 0) 0) (ahd a k ow)) X)) := by
          intro w0 hw0
          subst hw0
          have hL : fX8_type_L123 ma (nI k) y z 20 (nI (a.1 0 0)) (nI 0) (rSt ρ ma (mkS (aN_ (aP_ (aP_ (aN_ a 1 (a.1 0 0) k) 2 (a.1 0 0) ow) 3 (a.1 0 0) oc) 4 (a.1 0 0) 1) X)) = _ := rk_tw ρ ma a X hw hbd hk (ow := ow) (oc := oc) (fun h3 => by obtain ⟨w, w1, w2, -⟩ := h1 (by omega); exact ⟨w, w1, w2⟩) (fun c hc' => by
            by_cases k5 : k = 5
            · rw [h2' k5] at hc'; cases hc'
            · obtain ⟨c', c1, c2, -⟩ := h2 k5
              rw [c1] at hc'; cases hc'; exact c2) hn12 y z (fun h3 => by obtain ⟨w, w1, w2, w3⟩ := h1 (by omega); rw [w3, w1]; rfl) (aP_ (aP_ (aN_ a 1 (a.1 0 0) k) 2 (a.1 0 0) ow) 3 (a.1 0 0) oc) (by simp [aP_, aN_, up2]) (fun t ht => by simp [aP_, aN_, up2, Nat.ne_of_lt ht]) (fun t ht => by simp [aP_, aN_, up2, Nat.ne_of_lt ht]) (fun t ht => by simp [aP_, aN_, up2, Nat.ne_of_lt ht]) (by simp [aP_, aN_, up2]) (fun w hw' => by simp [aP_, aN_, up2]) (a.1 0 0) 0 1 20 (by omega) (by omega)
          have hJ' : ∀ w0, w0 = pv oc → fX8_type_J111 ma (nI k) y z (nI (a.1 0 0)) w0 (nI (a.1 0 0)) (some (ma + 3)) (rSt ρ ma (mkS (aP_ (aN_ a 1 (a.1 0 0) k) 2 (a.1 0 0) ow) X)) = some (nI (a.1 0 0), rSt ρ ma (mkS (newT a k ow oc (1 + cnt (twP a k ow oc) (a.1 0 0) 0) (ahd a k ow)) X)) := by
            intro w0 hw0
            subst hw0
            have e4 : sI (rSt ρ ma (mkS (aP_ (aP_ (aN_ a 1 (a.1 0 0) k) 2 (a.1 0 0) ow) 3 (a.1 0 0) oc) X)) 0 (ma + 4) (nI (a.1 0 0)) (1 : Int32) = some (rSt ρ ma (mkS (aN_ (aP_ (aP_ (aN_ a 1 (a.1 0 0) k) 2 (a.1 0 0) ow) 3 (a.1 0 0) oc) 4 (a.1 0 0) 1) X)) := q_s4 ρ ma _ X hn12 1
            simp only [fX8_type_J111, ob_some, q_s3 ρ ma _ X hn12, q_r4, e4]
            exact hL
          simp only [fX8_type_J93, ob_some, q_s2 ρ ma _ X hn12, q_r3, ek5]
          by_cases k5 : k = 5
          · rw [if_pos k5]; exact hJ' _ (by rw [h2' k5]; rfl)
          · rw [if_neg k5]
            obtain ⟨c, c1, c2, c3⟩ := h2 k5
            exact hJ' _ (by rw [c3, c1]; rfl)
        simp only [if_true, q_g0, q_r1, ob_some, q_s1 ρ ma a X hn12, q_r2, ek0, Bool.false_eq_true, if_false]
        by_cases k0 : k = 0
        · rw [if_pos k0]; exact hJ _ (by rw [h1' k0]; rfl)
        · rw [if_neg k0]
          obtain ⟨w, w1, w2, w3⟩ := h1 k0
          exact hJ _ (by rw [w3, w1]; rfl)
  unfold sp_type tyArg
  cases hx : ix x 6 with
  | none => simp [fX8_type, hin5, cb_some, hx, b2]
  | some k =>
    obtain ⟨hk, rfl⟩ := ix_s hx (by decide)
    have ek0 : (nI k = (0 : Int32)) = (k = 0) := n_eq (y := 0) (by omega) (by decide)
    have ek5 : (nI k = (5 : Int32)) = (k = 5) := n_eq (y := 5) (by omega) (by decide)
    simp only [fX8_type, hin5, cb_some, hx, b2_0, Option.isSome_some, Bool.true_eq_false, if_false, ek5, reduceCtorEq]
    by_cases k5 : k = 5
    · simp only [if_pos k5, fX8_type_J24, ek0, show ¬ k = 0 by omega, if_false, rf_obC, ob_some, rf_isType ρ ma a X hbd, cb_some, b2_0]
      cases hy : ix y (a.1 0 0) with
      | none => simp
      | some w =>
        obtain ⟨hw', rfl⟩ := ix_s hy (by omega)
        subst k5
        simp only [Option.isSome_some, Bool.true_eq_false, if_false]
        exact hM 5 (some w) none (nI w) z (by decide) (fun _ => ⟨w, rfl, hw', rfl⟩) (fun h => by omega) (fun h => absurd rfl h) (fun _ => rfl)
    · simp only [if_neg k5, hin25, cb_some, b2_0]
      cases hz : ix z 26 with
      | none => simp
      | some c =>
        obtain ⟨hc', rfl⟩ := ix_s hz (by decide)
        simp only [Option.isSome_some, Bool.true_eq_false, if_false, fX8_type_J24, ek0]
        by_cases k0 : k = 0
        · subst k0
          simp only [if_true]
          exact hM 0 none (some c) y (nI c) (by decide) (fun h => absurd rfl h) (fun _ => rfl) (fun _ => ⟨c, rfl, hc', rfl⟩) (fun h => by omega)
        · simp only [if_neg k0, rf_obC, ob_some, rf_isType ρ ma a X hbd, cb_some, b2_0]
          cases hy : ix y (a.1 0 0) with
          | none => simp
          | some w =>
            obtain ⟨hw', rfl⟩ := ix_s hy (by omega)
            simp only [Option.isSome_some, Bool.true_eq_false, if_false]
            exact hM k (some w) (some c) (nI w) (nI c) hk (fun _ => ⟨w, rfl, hw', rfl⟩) (fun h => absurd h k0) (fun _ => ⟨c, rfl, hc', rfl⟩) (fun h => absurd h k5)
end RK
