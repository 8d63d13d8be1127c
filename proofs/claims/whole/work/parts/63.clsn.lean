/-! The class: letters taken, numbers of twins. -/
theorem lt_eq {o o' : Option Nat} (h : ∀ q, o = some q → q < 100000) (h' : ∀ q, o' = some q → q < 100000) : (lt o = lt o') = (o = o') := by
  cases o with
  | none =>
    cases o' with
    | none => simp
    | some j =>
      refine propext ⟨fun e => ?_, fun e => by cases e⟩
      have e' : (-1 : Int32) = nI j := e
      exact absurd (show nI j < 0 by rw [← e']; decide) (n_nn (h' j rfl))
  | some i =>
    cases o' with
    | none =>
      refine propext ⟨fun e => ?_, fun e => by cases e⟩
      have e' : nI i = (-1 : Int32) := e
      exact absurd (show nI i < 0 by rw [e']; decide) (n_nn (h i rfl))
    | some j => simp only [lt, n_eq (h i rfl) (h' j rfl), Option.some.injEq]
section DN
variable {E : hmG} {xa ma b : Nat} {a : aS} {w : cG} {σ : hmS}
theorem RC.mpE2 (h : RC E xa ma b a w σ) {o o' : Option Nat} (ho : ∀ q, o = some q → q < a.1 0 0) (ho' : ∀ q, o' = some q → q < a.1 0 0) : (mp w.1 5 o = mp w.1 5 o') = (o = o') := by
  cases o' with
  | some t => exact h.mpE ho (ho' t rfl)
  | none => cases o <;> simp [mp]
theorem dn_member {k : Nat} (hk : k < 6) (σ : hmS) : fX7_isMember (nI k) σ = some (b2 (k == 1 || k == 2), σ) := by
  have e1 : (nI k = (1 : Int32)) = (k = 1) := n_eq (y := 1) (by omega) (by decide)
  have e2 : (nI k = (2 : Int32)) = (k = 2) := n_eq (y := 2) (by omega) (by decide)
  simp only [fX7_isMember, fX7_isMember_J10, e1, e2]
  by_cases h1 : k = 1
  · simp [h1, b2]
  · by_cases h2 : k = 2 <;> simp [h1, h2, b2]
theorem RC.topL (h : RC E xa ma b a w σ) (hw : Wt a) (hbd : Wb a) {oc : Option Nat} (hoc : ∀ c, oc = some c → c < 26) : ∀ (f i N : Nat), i + f = a.1 0 0 → f < N → fX7_hasTopWith_L2 xa (lt oc) N (nI i) σ = some (b2 (fi (topP a oc) f i).isSome, σ) := by
  have hn := hw.n12
  intro f
  induction f with
  | zero =>
    intro i N hi hN
    obtain ⟨N, rfl⟩ : ∃ k, N = k + 1 := ⟨N - 1, by omega⟩
    simp only [fX7_hasTopWith_L2, fX7_hasTopWith_B2, h.m1, ob_some, n_le (show a.1 0 0 < 100000 by omega) (show i < 100000 by omega), if_pos (show a.1 0 0 ≤ i by omega)]
    rfl
  | succ f ih =>
    intro i N hi hN
    obtain ⟨N, rfl⟩ : ∃ k, N = k + 1 := ⟨N - 1, by omega⟩
    have hii : i < a.1 0 0 := by omega
    have hk := hw.kd hii
    have e0 : (nI (a.1 1 i) = (0 : Int32)) = (a.1 1 i = 0) := n_eq (y := 0) (by omega) (by decide)
    simp only [fX7_hasTopWith_L2, fX7_hasTopWith_B2, fX7_hasTopWith_J38, h.m1, ob_some, oc_some, n_le (show a.1 0 0 < 100000 by omega) (show i < 100000 by omega), if_neg (show ¬ a.1 0 0 ≤ i by omega), h.m0, h.tyA hn hii, h.t1 hii, e0, h.t3 hii, lt_eq (o := a.2.1 3 i) (o' := oc) (fun r hr => Nat.lt_trans (hbd.2 _ _ _ hr) (by decide)) (fun r hr => by have := hoc r hr; omega), n_s, ih (i + 1) N (by omega) (by omega)]
    by_cases h1 : a.1 1 i = 0 <;> by_cases h2 : a.2.1 3 i = oc <;> simp [h1, h2, fi, topP, b2]
theorem RC.memL (h : RC E xa ma b a w σ) (hw : Wt a) (hbd : Wb a) {ow oc : Option Nat} (how : ∀ q, ow = some q → q < a.1 0 0) (hoc : ∀ c, oc = some c → c < 26) : ∀ (f i N : Nat), i + f = a.1 0 0 → f < N → fX7_hasMemberWith_L2 xa (mp w.1 5 ow) (lt oc) N (nI i) σ = some (b2 (fi (memP a ow oc) f i).isSome, σ) := by
  have hn := hw.n12
  intro f
  induction f with
  | zero =>
    intro i N hi hN
    obtain ⟨N, rfl⟩ : ∃ k, N = k + 1 := ⟨N - 1, by omega⟩
    simp only [fX7_hasMemberWith_L2, fX7_hasMemberWith_B2, h.m1, ob_some, n_le (show a.1 0 0 < 100000 by omega) (show i < 100000 by omega), if_pos (show a.1 0 0 ≤ i by omega)]
    rfl
  | succ f ih =>
    intro i N hi hN
    obtain ⟨N, rfl⟩ : ∃ k, N = k + 1 := ⟨N - 1, by omega⟩
    have hii : i < a.1 0 0 := by omega
    have hk := hw.kd hii
    simp only [fX7_hasMemberWith_L2, fX7_hasMemberWith_B2, fX7_hasMemberWith_J54, h.m1, ob_some, oc_some, n_le (show a.1 0 0 < 100000 by omega) (show i < 100000 by omega), if_neg (show ¬ a.1 0 0 ≤ i by omega), h.m0, h.tyA hn hii, h.t1 hii, dn_member (show a.1 1 i < 6 by omega), cb_some, b2_0, h.t2 hii, h.mpE2 (o := a.2.1 2 i) (o' := ow) (fun q hq => by have := (hw.ou hii hq).1; omega) how, h.t3 hii, lt_eq (o := a.2.1 3 i) (o' := oc) (fun r hr => Nat.lt_trans (hbd.2 _ _ _ hr) (by decide)) (fun r hr => by have := hoc r hr; omega), n_s, ih (i + 1) N (by omega) (by omega)]
    cases hm : (a.1 1 i == 1 || a.1 1 i == 2) with
    | false => simp [fi, memP, hm]
    | true => by_cases h1 : a.2.1 2 i = ow <;> by_cases h2 : a.2.1 3 i = oc <;> simp [h1, h2, fi, memP, hm, b2]
theorem RC.twL (h : RC E xa ma b a w σ) (hw : Wt a) (hbd : Wb a) {k : Nat} (hk3 : 3 ≤ k) (x1 : Int32) {ow oc : Option Nat} (how : ∀ q, ow = some q → q < a.1 0 0) (hoc : ∀ c, oc = some c → c < 26) : ∀ (f i c N : Nat), i + f = a.1 0 0 → f < N → fX7_twinNumber_L15 xa x1 (mp w.1 5 ow) (lt oc) N (nI c) (nI i) σ = some (nI (c + cnt (twP a k ow oc) f i), σ) := by
  have hn := hw.n12
  intro f
  induction f with
  | zero =>
    intro i c N hi hN
    obtain ⟨N, rfl⟩ : ∃ k, N = k + 1 := ⟨N - 1, by omega⟩
    simp only [fX7_twinNumber_L15, fX7_twinNumber_B15, h.m1, ob_some, n_le (show a.1 0 0 < 100000 by omega) (show i < 100000 by omega), if_pos (show a.1 0 0 ≤ i by omega), cnt, Nat.add_zero]
  | succ f ih =>
    intro i c N hi hN
    obtain ⟨N, rfl⟩ : ∃ k, N = k + 1 := ⟨N - 1, by omega⟩
    have hii : i < a.1 0 0 := by omega
    have hk := hw.kd hii
    simp only [fX7_twinNumber_L15, fX7_twinNumber_B15, fX7_twinNumber_J70, h.m1, ob_some, oc_some, n_le (show a.1 0 0 < 100000 by omega) (show i < 100000 by omega), if_neg (show ¬ a.1 0 0 ≤ i by omega), h.m0, h.tyA hn hii, h.t1 hii, RC.standsIn (show a.1 1 i < 6 by omega), cb_some, b2_0, h.t2 hii, h.mpE2 (o := a.2.1 2 i) (o' := ow) (fun q hq => by have := (hw.ou hii hq).1; omega) how, h.t3 hii, lt_eq (o := a.2.1 3 i) (o' := oc) (fun r hr => Nat.lt_trans (hbd.2 _ _ _ hr) (by decide)) (fun r hr => by have := hoc r hr; omega), n_s, ih (i + 1) _ N (by omega) (by omega)]
    by_cases g1 : 3 ≤ a.1 1 i
    · by_cases g2 : a.2.1 2 i = ow <;> by_cases g3 : a.2.1 3 i = oc <;> simp [hk3, g1, g2, g3, cnt, twP, Nat.add_assoc]
    · simp [g1, cnt, twP]
theorem RC.anyL (h : RC E xa ma b a w σ) (hw : Wt a) (hbd : Wb a) {oc : Option Nat} (hoc : ∀ c, oc = some c → c < 26) (x1 : Int32) (x2 : Option Nat) : ∀ (l : List Nat) (o : Option Nat) (s N : Nat), isCh (a.2.1 2) o l → (∀ x ∈ l, x < a.1 0 0) → s + l.length ≤ 12 → l.length < N → fX7_isLetterTaken_L41 xa x1 x2 (lt oc) N (mp w.1 5 o) (nI s) σ = some (b2 (l.any (fun t => a.2.1 3 t == oc)), σ) := by
  intro l
  induction l with
  | nil =>
    intro o s N hch _ _ hN
    obtain ⟨N, rfl⟩ : ∃ k, N = k + 1 := ⟨N - 1, by omega⟩
    cases o with
    | some t => exact hch.elim
    | none => simp only [fX7_isLetterTaken_L41, fX7_isLetterTaken_B41, mp_n, oc_none]; rfl
  | cons y l ih =>
    intro o s N hch hl hs hN
    obtain ⟨N, rfl⟩ : ∃ k, N = k + 1 := ⟨N - 1, by omega⟩
    cases o with
    | none => exact hch.elim
    | some t' =>
      obtain ⟨rfl, h2⟩ := hch
      have hy := hl y List.mem_cons_self
      simp only [List.length_cons] at hs hN
      have h12 : ((12 : Int32) ≤ nI s) = (12 ≤ s) := n_le (x := 12) (by decide) (by omega)
      simp only [fX7_isLetterTaken_L41, fX7_isLetterTaken_B41, mp_s, oc_some, h12, if_neg (show ¬ 12 ≤ s by omega), h.t3 hy, ob_some, lt_eq (o := a.2.1 3 y) (o' := oc) (fun r hr => Nat.lt_trans (hbd.2 _ _ _ hr) (by decide)) (fun r hr => by have := hoc r hr; omega), h.t2 hy, n_s, ih (a.2.1 2 y) (s + 1) N h2 (fun x hx => hl x (List.mem_cons_of_mem _ hx)) (by omega) (by omega)]
      by_cases e : a.2.1 3 y = oc
      · simp [e, b2]
      · have e' : (a.2.1 3 y == oc) = false := beq_eq_false_iff_ne.mpr e
        simp only [if_neg e, List.any_cons, e', Bool.false_or]
theorem RC.htaken (h : RC E xa ma b a w σ) (hw : Wt a) (hbd : Wb a) {k : Nat} (hk : k < 6) {ow oc : Option Nat} (how : ∀ q, ow = some q → q < a.1 0 0) (hoc : ∀ c, oc = some c → c < 26) : fX7_isLetterTaken xa (nI k) (mp w.1 5 ow) (lt oc) σ = some (b2 (taken a k ow oc), σ) := by
  have hn := hw.n12
  have e0 : (nI k = (0 : Int32)) = (k = 0) := n_eq (y := 0) (by omega) (by decide)
  have e5 : (nI k = (5 : Int32)) = (k = 5) := n_eq (y := 5) (by omega) (by decide)
  have hT : fX7_hasTopWith xa (lt oc) σ = _ := h.topL hw hbd hoc (a.1 0 0) 0 20 (by omega) (by omega)
  have hM : fX7_hasMemberWith xa (mp w.1 5 ow) (lt oc) σ = _ := h.memL hw hbd how hoc (a.1 0 0) 0 20 (by omega) (by omega)
  obtain ⟨ts, t1, t2, t3⟩ := hw.oc' (o := ow) how
  have e : och a ow = ts := chl_eq t1 t2
  have hA : fX7_isLetterTaken_J35 xa (nI k) (mp w.1 5 ow) (lt oc) σ = _ := h.anyL hw hbd hoc (nI k) (mp w.1 5 ow) ts ow 0 20 t1 t3 (by omega) (by omega)
  simp only [fX7_isLetterTaken, e0, e5, h.mC, ob_some, hT, cb_some, okZ_b2, dn_member hk, b2_0, hM, hA]
  unfold taken
  rw [e]
  by_cases k5 : k = 5
  · simp [k5, b2]
  · by_cases k0 : k = 0
    · simp [k0]
    · simp only [k0, k5, if_false]
      by_cases k3 : k < 3
      · have km : (k == 1 || k == 2) = true := by
          rcases (show k = 1 ∨ k = 2 by omega) with rfl | rfl <;> rfl
        simp only [km, k3, decide_true, Bool.true_and, Bool.true_eq_false, if_false]
        cases (fi (memP a ow oc) (a.1 0 0) 0).isSome <;> simp [b2]
      · have km : (k == 1 || k == 2) = false := by
          rw [Bool.or_eq_false_iff]; exact ⟨beq_eq_false_iff_ne.mpr (by omega), beq_eq_false_iff_ne.mpr (by omega)⟩
        simp [km, k3]
theorem RC.twin (h : RC E xa ma b a w σ) (hw : Wt a) (hbd : Wb a) {k : Nat} (hk : k < 6) {ow oc : Option Nat} (how : ∀ q, ow = some q → q < a.1 0 0) (hoc : ∀ c, oc = some c → c < 26) : fX7_twinNumber xa (nI k) (mp w.1 5 ow) (lt oc) σ = some (nI (if 3 ≤ k then 1 + cnt (twP a k ow oc) (a.1 0 0) 0 else 0), σ) := by
  have hn := hw.n12
  simp only [fX7_twinNumber, RC.standsIn hk, cb_some, b2_0]
  by_cases k3 : 3 ≤ k
  · have := h.twL hw hbd k3 (nI k) how hoc (a.1 0 0) 0 1 20 (by omega) (by omega)
    simp only [k3, decide_true, Bool.true_eq_false, if_false, if_true]
    exact this
  · simp only [k3, decide_false, if_true, if_false]
    rfl
end DN
