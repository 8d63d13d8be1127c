/-! The class: what only reads. -/
theorem fi_none {P : Nat → Bool} : ∀ {f i : Nat}, fi P f i = none → ∀ j, i ≤ j → j < i + f → P j = false := by
  intro f
  induction f with
  | zero => intro i _ j h1 h2; omega
  | succ f ih =>
    intro i h j h1 h2
    unfold fi at h
    split at h
    · cases h
    · rename_i hp
      by_cases e : j = i
      · subst e; simpa using hp
      · exact ih h j (by omega) (by omega)
theorem fi_iff {P : Nat → Bool} {f : Nat} : (fi P f 0).isSome = true ↔ ∃ j, j < f ∧ P j = true := by
  cases h : fi P f 0 with
  | none =>
    simp only [Option.isSome_none, Bool.false_eq_true, false_iff]
    rintro ⟨j, h1, h2⟩
    rw [fi_none h j (by omega) (by omega)] at h2
    cases h2
  | some j =>
    have := fi_lt h
    exact ⟨fun _ => ⟨j, by omega, this.2.2⟩, fun _ => rfl⟩
theorem cnt_snoc (P : Nat → Bool) : ∀ f i, cnt P (f + 1) i = cnt P f i + (if P (i + f) then 1 else 0) := by
  intro f
  induction f with
  | zero => intro i; simp [cnt]
  | succ f ih =>
    intro i
    rw [show cnt P (f + 1 + 1) i = (if P i then 1 else 0) + cnt P (f + 1) (i + 1) from rfl, ih (i + 1), show cnt P (f + 1) i = (if P i then 1 else 0) + cnt P f (i + 1) from rfl, show i + 1 + f = i + (f + 1) by omega]
    omega
theorem nd_cnt (P : Nat → Bool) : ∀ (m : Nat) (l : List Nat), l.Nodup → (∀ u, u ∈ l ↔ u < m ∧ P u = true) → l.length = cnt P m 0 := by
  intro m
  induction m with
  | zero =>
    intro l _ h
    cases l with
    | nil => rfl
    | cons x l => exact absurd ((h x).mp List.mem_cons_self).1 (by omega)
  | succ m ih =>
    intro l hn h
    rw [cnt_snoc, Nat.zero_add]
    by_cases hm : P m = true
    · have hmem : m ∈ l := (h m).mpr ⟨by omega, hm⟩
      have := ih (l.erase m) (hn.erase m) (fun u => by
        rw [List.Nodup.mem_erase_iff hn, h u]
        constructor
        · rintro ⟨h1, h2, h3⟩; exact ⟨by omega, h3⟩
        · rintro ⟨h1, h2⟩; exact ⟨by omega, by omega, h2⟩)
      rw [List.length_erase_of_mem hmem] at this
      have hpos := List.length_pos_of_mem hmem
      simp [hm]
      omega
    · have := ih l hn (fun u => by
        rw [h u]
        constructor
        · rintro ⟨h1, h2⟩; exact ⟨by have : u ≠ m := fun e => hm (e ▸ h2); omega, h2⟩
        · rintro ⟨h1, h2⟩; exact ⟨by omega, h2⟩)
      simp [hm, this]
theorem n_m1 (m : Nat) : nI m + (-1 : Int32) = nI m - (1 : Int32) := by rw [Int32.sub_eq_add_neg]
theorem lt_m1 {o : Option Nat} (h : ∀ q, o = some q → q < 100000) : (lt o = (-1 : Int32)) = (o = none) := by
  cases o with
  | none => simp [lt]
  | some j =>
    refine propext ⟨fun e => ?_, fun e => by cases e⟩
    have e' : nI j = (-1 : Int32) := e
    exact absurd (show nI j < 0 by rw [e']; decide) (n_nn (h j rfl))
theorem mp_n (g : Nat → Nat → Nat → Nat) (k : Nat) : mp g k none = none := rfl
theorem mp_s (g : Nat → Nat → Nat → Nat) (k x : Nat) : mp g k (some x) = some (g k x 0) := rfl
theorem ltr_n : lt none = -1 := rfl
theorem ltr_s (j : Nat) : lt (some j) = nI j := rfl
theorem cm_isPlace (x : Int32) (σ : hmS) : fX7_isPlace x σ = some (b2 (ix x 8).isSome, σ) := by
  unfold fX7_isPlace
  cases hx : ix x 8 with
  | none =>
    rcases ix_n hx (by decide) with h1 | h1
    · rw [if_pos h1]; rfl
    · split
      · rfl
      · rw [if_pos (show (8 : Int32) ≤ x from h1)]; rfl
  | some p =>
    obtain ⟨hp, rfl⟩ := ix_s hx (by decide)
    have h8 : ((8 : Int32) ≤ nI p) = (8 ≤ p) := n_le (x := 8) (by decide) (by omega)
    rw [if_neg (n_nn (show p < 100000 by omega))]
    simp only [h8, if_neg (show ¬ 8 ≤ p by omega)]
    rfl
theorem cm_isName (x : Int32) (σ : hmS) : fX7_isName x σ = some (b2 (ix x 8).isSome, σ) := cm_isPlace x σ
section CM
variable {E : hmG} {xa ma b : Nat} {a : aS} {w : cG} {σ : hmS}
theorem RC.typeAt (h : RC E xa ma b a w σ) (hn : a.1 0 0 ≤ 12) (x : Int32) : fX7_typeAt xa x σ = some (mp w.1 5 (ix x (a.1 0 0)), σ) := by
  unfold fX7_typeAt
  cases hx : ix x (a.1 0 0) with
  | none =>
    rcases ix_n hx (by omega) with h1 | h1
    · rw [if_pos h1]; rfl
    · split
      · rfl
      · rw [h.m1, ob_some, if_pos h1]; rfl
  | some t =>
    obtain ⟨ht, rfl⟩ := ix_s hx (by omega)
    rw [if_neg (n_nn (show t < 100000 by omega))]
    simp only [h.m1, ob_some, n_le (show a.1 0 0 < 100000 by omega) (show t < 100000 by omega), if_neg (show ¬ a.1 0 0 ≤ t by omega), h.m0, h.tyA hn ht, mp_s]
theorem RC.indexOfL (h : RC E xa ma b a w σ) (hw : Wt a) (hbd : Wb a) {t nm : Nat} (ht : t < a.1 0 0) (hnm : nm < 8) : ∀ (f i N : Nat), i + f = a.1 7 t → f < N → fX1_indexOf_L2 (w.1 6 t 0) (nI nm) N (nI i) σ = some (lt (fi (fun k => a.1 8 (4 * t + k) == nm) f i), σ) := by
  have h7 := hw.nf ht
  intro f
  induction f with
  | zero =>
    intro i N hi hN
    obtain ⟨N, rfl⟩ : ∃ k, N = k + 1 := ⟨N - 1, by omega⟩
    simp only [fX1_indexOf_L2, fX1_indexOf_B2, h.f3 ht, ob_some, n_le (show a.1 7 t < 100000 by omega) (show i < 100000 by omega), if_pos (show a.1 7 t ≤ i by omega)]
    rfl
  | succ f ih =>
    intro i N hi hN
    obtain ⟨N, rfl⟩ : ∃ k, N = k + 1 := ⟨N - 1, by omega⟩
    simp only [fX1_indexOf_L2, fX1_indexOf_B2, h.f3 ht, ob_some, n_le (show a.1 7 t < 100000 by omega) (show i < 100000 by omega), if_neg (show ¬ a.1 7 t ≤ i by omega), h.f0 ht, h.fn ht (show i < 4 by omega), n_eq (Nat.lt_trans (hbd.1 8 (4 * t + i)) (by decide)) (show nm < 100000 by omega), n_s]
    rw [ih (i + 1) N (by omega) (by omega)]
    by_cases h : a.1 8 (4 * t + i) = nm <;> simp [fi, h, lt]
theorem RC.indexOf (h : RC E xa ma b a w σ) (hw : Wt a) (hbd : Wb a) {t nm : Nat} (ht : t < a.1 0 0) (hnm : nm < 8) : fX1_indexOf (w.1 6 t 0) (nI nm) σ = some (lt (fi (fun k => a.1 8 (4 * t + k) == nm) (a.1 7 t) 0), σ) := by
  have h7 := hw.nf ht
  exact h.indexOfL hw hbd ht hnm (a.1 7 t) 0 20 (by omega) (by omega)
theorem RC.has1 (h : RC E xa ma b a w σ) (hw : Wt a) {t : Nat} (ht : t < a.1 0 0) (x : Int32) : fX1_has (w.1 6 t 0) x σ = some (b2 (ix x (a.1 7 t)).isSome, σ) := by
  have h7 := hw.nf ht
  unfold fX1_has
  cases hx : ix x (a.1 7 t) with
  | none =>
    rcases ix_n hx (by omega) with h1 | h1
    · rw [if_pos h1]; rfl
    · split
      · rfl
      · rw [h.f3 ht, ob_some, if_pos h1]; rfl
  | some k =>
    obtain ⟨hk, rfl⟩ := ix_s hx (by omega)
    rw [if_neg (n_nn (show k < 100000 by omega)), h.f3 ht, ob_some, if_neg (by rw [n_le (by omega) (by omega)]; omega)]
    rfl
theorem RC.has4 (h : RC E xa ma b a w σ) (hw : Wt a) {t : Nat} (ht : t < a.1 0 0) (x : Int32) : fX4_has (w.1 10 t 0) x σ = some (b2 (ix x (a.1 12 t)).isSome, σ) := by
  have h7 := hw.nl ht
  unfold fX4_has
  cases hx : ix x (a.1 12 t) with
  | none =>
    rcases ix_n hx (by omega) with h1 | h1
    · rw [if_pos h1]; rfl
    · split
      · rfl
      · rw [h.l3 ht, ob_some, if_pos h1]; rfl
  | some k =>
    obtain ⟨hk, rfl⟩ := ix_s hx (by omega)
    rw [if_neg (n_nn (show k < 100000 by omega)), h.l3 ht, ob_some, if_neg (by rw [n_le (by omega) (by omega)]; omega)]
    rfl
theorem RC.isStatic (h : RC E xa ma b a w σ) (hw : Wt a) (hbd : Wb a) {t k : Nat} (ht : t < a.1 0 0) (hk : k < a.1 7 t) : fX1_isStatic (w.1 6 t 0) (nI k) σ = some (b2 (a.1 10 (4 * t + k) != 0), σ) := by
  have h7 := hw.nf ht
  have e0 : (nI (a.1 10 (4 * t + k)) = (0 : Int32)) = (a.1 10 (4 * t + k) = 0) := n_eq (y := 0) (Nat.lt_trans (hbd.1 10 _) (by decide)) (by decide)
  simp only [fX1_isStatic, h.fC ht, ob_some, h.has1 hw ht, cb_some, ix_nI hk (show a.1 7 t < 2 ^ 31 by omega), b2_0, Option.isSome_some, Bool.true_eq_false, if_false, h.f2 ht, h.fs ht (show k < 4 by omega), e0]
  by_cases h0 : a.1 10 (4 * t + k) = 0 <;> simp [h0, b2]
theorem RC.isStaticN (h : RC E xa ma b a w σ) (hw : Wt a) {t : Nat} (ht : t < a.1 0 0) {x : Int32} (hx : ix x (a.1 7 t) = none) : fX1_isStatic (w.1 6 t 0) x σ = some (0, σ) := by
  simp only [fX1_isStatic, h.fC ht, ob_some, h.has1 hw ht, cb_some, hx, b2_0, Option.isSome_none, if_true]
theorem RC.isAssigned (h : RC E xa ma b a w σ) (hw : Wt a) (hbd : Wb a) {t k : Nat} (ht : t < a.1 0 0) (hk : k < a.1 12 t) : fX4_isAssigned (w.1 10 t 0) (nI k) σ = some (b2 (a.1 15 (4 * t + k) != 0), σ) := by
  have h7 := hw.nl ht
  have e0 : (nI (a.1 15 (4 * t + k)) = (0 : Int32)) = (a.1 15 (4 * t + k) = 0) := n_eq (y := 0) (Nat.lt_trans (hbd.1 15 _) (by decide)) (by decide)
  simp only [fX4_isAssigned, h.lC ht, ob_some, h.has4 hw ht, cb_some, ix_nI hk (show a.1 12 t < 2 ^ 31 by omega), b2_0, Option.isSome_some, Bool.true_eq_false, if_false, h.l2 ht, h.la ht (show k < 4 by omega), e0]
  by_cases h0 : a.1 15 (4 * t + k) = 0 <;> simp [h0, b2]
theorem RC.latestL (h : RC E xa ma b a w σ) (hw : Wt a) (hbd : Wb a) {t nm : Nat} (ht : t < a.1 0 0) (hnm : nm < 8) (x2 : Int32) : ∀ (m N : Nat), m ≤ 4 → m < N → fX4_latest_L11 (w.1 10 t 0) (nI nm) x2 N (nI m - (1 : Int32)) σ = some (lt (las (fun k => a.1 13 (4 * t + k) == nm) m), σ) := by
  intro m
  induction m with
  | zero =>
    intro N _ hN
    obtain ⟨N, rfl⟩ : ∃ k, N = k + 1 := ⟨N - 1, by omega⟩
    rw [show fX4_latest_L11 (w.1 10 t 0) (nI nm) x2 (N + 1) (nI 0 - (1 : Int32)) σ = fX4_latest_B11 (w.1 10 t 0) (nI nm) x2 (fX4_latest_L11 (w.1 10 t 0) (nI nm) x2 N) (nI 0 - (1 : Int32)) σ from rfl]
    unfold fX4_latest_B11
    rw [if_pos (by decide)]
    rfl
  | succ m ih =>
    intro N hm hN
    obtain ⟨N, rfl⟩ : ∃ k, N = k + 1 := ⟨N - 1, by omega⟩
    rw [nI_pred, show fX4_latest_L11 (w.1 10 t 0) (nI nm) x2 (N + 1) (nI m) σ = fX4_latest_B11 (w.1 10 t 0) (nI nm) x2 (fX4_latest_L11 (w.1 10 t 0) (nI nm) x2 N) (nI m) σ from rfl]
    unfold fX4_latest_B11
    rw [if_neg (n_nn (show m < 100000 by omega))]
    simp only [h.l0 ht, ob_some, h.ln ht (show m < 4 by omega), n_eq (Nat.lt_trans (hbd.1 13 (4 * t + m)) (by decide)) (show nm < 100000 by omega), n_m1]
    rw [ih N (by omega) (by omega)]
    by_cases h : a.1 13 (4 * t + m) = nm <;> simp [las, h, lt]
theorem RC.latest (h : RC E xa ma b a w σ) (hw : Wt a) (hbd : Wb a) {t nm m : Nat} (ht : t < a.1 0 0) (hnm : nm < 8) (hm : m ≤ a.1 12 t) : fX4_latest (w.1 10 t 0) (nI nm) (nI m) σ = some (lt (las (fun k => a.1 13 (4 * t + k) == nm) m), σ) := by
  have h7 := hw.nl ht
  have hmin : fJ9_min_7cf53 (nI m) (nI (a.1 12 t)) σ = some (nI m, σ) := by
    unfold fJ9_min_7cf53
    split
    · rename_i hlt
      rw [n_lt (by omega) (by omega)] at hlt
      omega
    · rfl
  simp only [fX4_latest, h.l3 ht, ob_some, hmin, cb_some]
  exact h.latestL hw hbd ht hnm (nI m) m 20 (by omega) (by omega)
/-- the levels of an object -/
theorem RC.levs (h : RC E xa ma b a w σ) {o : Nat} (ho : o < a.1 16 0) : ∃ l : List Nat, l.Nodup ∧ (∀ u, u ∈ l ↔ u < 12 ∧ isO a o u = true) ∧ l.length ≤ 12 ∧ aN σ (w.1 17 o 0) = some (nI l.length) ∧ ∀ i, i < l.length → aR σ (w.1 17 o 0) (nI i) = some (some (w.1 18 o (l.getD i 0))) := by
  obtain ⟨c, g1, l, ⟨f, rfl, g2⟩, nd, g3⟩ := h.cell (vld_o (k := 17) (Or.inr rfl) ho)
  have hl := nd_le 12 l nd (fun x hx => ((g3 x).mp hx).1)
  refine ⟨l, nd, g3, hl, aN_of g1, fun i hi => ?_⟩
  rw [aR_of g1 (by decide) (by decide) hi (by omega), g2 i hi]
theorem RC.levelOf (h : RC E xa ma b a w σ) (hw : Wt a) (hO : Wo a (a.1 16 0)) (hb : a.1 16 0 ≤ b) {o u : Nat} (ho : o < a.1 16 0) (hu : u < a.1 0 0) : fX5_levelOf (w.1 16 o 0) (some (w.1 5 u 0)) σ = some (if isO a o u then some (w.1 18 o u) else none, σ) := by
  have hn := hw.n12
  obtain ⟨l, nd, g3, hl, gN, gR'⟩ := h.levs ho
  have hmem : ∀ i, i < l.length → l.getD i 0 ∈ l := fun i hi => by
    rw [List.getD_eq_getElem?_getD, List.getElem?_eq_getElem hi]
    exact List.getElem_mem hi
  have loop : ∀ (f i N : Nat), i + f = l.length → f < N → fX5_levelOf_L2 (w.1 16 o 0) (some (w.1 5 u 0)) N (nI i) σ = some (if (fi (fun i => l.getD i 0 == u) f i).isSome then some (w.1 18 o u) else none, σ) := by
    intro f
    induction f with
    | zero =>
      intro i N hi hN
      obtain ⟨N, rfl⟩ : ∃ k, N = k + 1 := ⟨N - 1, by omega⟩
      simp only [fX5_levelOf_L2, fX5_levelOf_B2, h.o1 ho, ob_some, gN, n_le (show l.length < 100000 by omega) (show i < 100000 by omega), if_pos (show l.length ≤ i by omega)]
      rfl
    | succ f ih =>
      intro i N hi hN
      obtain ⟨N, rfl⟩ : ∃ k, N = k + 1 := ⟨N - 1, by omega⟩
      have hm := (g3 _).mp (hmem i (by omega))
      have hlt := (hO o ho _ hm.1 hm.2).1
      have hv := h.v0 (Nat.lt_of_lt_of_le ho hb) hm.1 hm.2
      have ee : (some (w.1 5 (l.getD i 0) 0) = some (w.1 5 u 0)) = (l.getD i 0 = u) := by
        rw [Option.some.injEq, h.tyE hlt hu]
      simp only [fX5_levelOf_L2, fX5_levelOf_B2, fX5_levelOf_J40, h.o1 ho, ob_some, gN, n_le (show l.length < 100000 by omega) (show i < 100000 by omega), if_neg (show ¬ l.length ≤ i by omega), gR' i (by omega), oc_some, hv, ee, n_s, ih (i + 1) N (by omega) (by omega)]
      by_cases e : l.getD i 0 = u
      · simp only [if_pos e, fi, e, beq_self_eq_true, if_true, Option.isSome_some]
      · have e' : (l.getD i 0 == u) = false := beq_eq_false_iff_ne.mpr e
        simp only [if_neg e, fi, e', Bool.false_eq_true, if_false]
  have hL := loop l.length 0 20 (by omega) (by omega)
  have hiff : (fi (fun i => l.getD i 0 == u) l.length 0).isSome = isO a o u := by
    rw [Bool.eq_iff_iff, fi_iff]
    constructor
    · rintro ⟨j, h1, h2⟩
      have h3 := (g3 _).mp (hmem j h1)
      rw [beq_iff_eq.mp h2] at h3
      exact h3.2
    · intro hi
      have := (g3 u).mpr ⟨by omega, hi⟩
      obtain ⟨j, h1, h2⟩ := List.getElem_of_mem this
      exact ⟨j, h1, by rw [List.getD_eq_getElem?_getD, List.getElem?_eq_getElem h1, h2]; simp⟩
  rw [hiff] at hL
  exact hL
theorem RC.aroundAt (h : RC E xa ma b a w σ) (hw : Wt a) (hO : Wo a (a.1 16 0)) (hb : a.1 16 0 ≤ b) {o u : Nat} (ho : o < a.1 16 0) (hu : u < a.1 0 0) : fX5_aroundAt (w.1 16 o 0) (some (w.1 5 u 0)) σ = some (if isO a o u then mp w.1 16 (a.2.1 19 (12 * o + u)) else none, σ) := by
  have hn := hw.n12
  simp only [fX5_aroundAt, h.oC ho, ob_some, h.levelOf hw hO hb ho hu, cb_some]
  by_cases hi : isO a o u = true
  · simp only [hi, if_true, oc_some, h.v1 (Nat.lt_of_lt_of_le ho hb) (show u < 12 by omega) hi, ob_some]
  · simp [hi, oc_none]
theorem RC.standsIn {k : Nat} (hk : k < 6) (σ : hmS) : fX7_standsInMethod (nI k) σ = some (b2 (decide (3 ≤ k)), σ) := by
  have h : ∀ k, k < 6 → (nI k = 3 ∨ nI k = 4 ∨ nI k = 5) = (3 ≤ k) := by decide
  have := h k hk
  simp only [fX7_standsInMethod, fX7_standsInMethod_J15]
  by_cases h3 : 3 ≤ k
  · rcases (this ▸ h3 : nI k = 3 ∨ nI k = 4 ∨ nI k = 5) with e | e | e
    · rw [if_pos e]; simp [h3, b2]
    · rw [e]; simp [h3, b2]
    · rw [e]; simp [h3, b2]
  · have hn : ¬ (nI k = 3 ∨ nI k = 4 ∨ nI k = 5) := by rw [this]; exact h3
    rw [if_neg (fun e => hn (Or.inl e)), if_neg (fun e => hn (Or.inr (Or.inl e))), if_neg (fun e => hn (Or.inr (Or.inr e)))]
    simp [h3, b2]
end CM
