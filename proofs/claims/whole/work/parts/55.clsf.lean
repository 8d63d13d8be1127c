/-! The class: what is found. -/
section CN
variable {E : hmG} {xa ma b : Nat} {a : aS} {w : cG} {σ : hmS}
def owA (w : cG) (r : Option (Nat × Nat)) : Option Nat := match r with
  | some uk => some (w.1 5 uk.1 0)
  | none => none
theorem RC.ownL (h : RC E xa ma b a w σ) (hw : Wt a) (hbd : Wb a) {nm : Nat} (hnm : nm < 8) (x0 : Option Nat) : ∀ (l : List Nat) (o : Option Nat) (s N : Nat), isCh (a.2.1 6) o l → (∀ x ∈ l, x < a.1 0 0) → s + l.length ≤ 12 → l.length < N → fX7_ownerOfField_L4 x0 (nI nm) N (mp w.1 5 o) (nI s) σ = some (owA w (own a nm l), σ) := by
  intro l
  induction l with
  | nil =>
    intro o s N hch _ _ hN
    obtain ⟨N, rfl⟩ : ∃ k, N = k + 1 := ⟨N - 1, by omega⟩
    cases o with
    | some t => exact hch.elim
    | none => simp only [fX7_ownerOfField_L4, fX7_ownerOfField_B4, mp_n, oc_none]; rfl
  | cons u l ih =>
    intro o s N hch hl hs hN
    obtain ⟨N, rfl⟩ : ∃ k, N = k + 1 := ⟨N - 1, by omega⟩
    cases o with
    | none => exact hch.elim
    | some t' =>
      obtain ⟨rfl, h2⟩ := hch
      have hu := hl u List.mem_cons_self
      simp only [List.length_cons] at hs hN
      have h12 : ((12 : Int32) ≤ nI s) = (12 ≤ s) := n_le (x := 12) (by decide) (by omega)
      simp only [fX7_ownerOfField_L4, fX7_ownerOfField_B4, mp_s, oc_some, h12, if_neg (show ¬ 12 ≤ s by omega), h.t7 hu, ob_some, h.fC hu, h.indexOf hw hbd hu hnm, cb_some, lt_m1 (o := fi (fun k => a.1 8 (4 * u + k) == nm) (a.1 7 u) 0) (fun q hq => by have := fi_lt hq; have := hw.nf hu; omega), h.t10 hu, n_s, ih (a.2.1 6 u) (s + 1) N h2 (fun x hx => hl x (List.mem_cons_of_mem _ hx)) (by omega) (by omega)]
      rw [show own a nm (u :: l) = (match fi (fun k => a.1 8 (4 * u + k) == nm) (a.1 7 u) 0 with
        | some k => some (u, k)
        | none => own a nm l) from rfl]
      cases fi (fun k => a.1 8 (4 * u + k) == nm) (a.1 7 u) 0 with
      | none => simp
      | some k => simp [owA]
theorem RC.latestAhead (h : RC E xa ma b a w σ) (hw : Wt a) (hbd : Wb a) {t nm : Nat} (ht : t < a.1 0 0) (hnm : nm < 8) : fX6_latestLocalAhead (w.1 5 t 0) (nI nm) σ = some (lt (lcl a nm t), σ) := by
  unfold lcl
  cases ho : a.2.1 2 t with
  | none => simp only [fX6_latestLocalAhead, h.t2 ht, ho, mp_n, ob_some, oc_none]; rfl
  | some v =>
    have hv := (hw.ou ht ho).1
    have hv' : v < a.1 0 0 := by omega
    simp only [fX6_latestLocalAhead, h.t2 ht, ho, mp_s, ob_some, oc_some, h.t8 hv', h.t4 ht, h.lC hv', h.latest hw hbd hv' hnm (hw.ah ht ho), cb_some]
/-- where a found value lies -/
def ptr (a : aS) (w : cG) (r : Int32 × Nat × Nat) (p i : Nat) (z : Bool) : Prop :=
  (r.2.1 = 9 ∧ z = false ∧ ∃ t, t < a.1 0 0 ∧ i < 4 ∧ p = w.1 8 t 0 ∧ r.2.2 = 4 * t + i) ∨
  (r.2.1 = 20 ∧ z = false ∧ ∃ o u, o < a.1 16 0 ∧ u < 12 ∧ isO a o u = true ∧ i < hs a o u ∧ p = w.1 19 o u ∧ r.2.2 = 4 * (12 * o + u) + i) ∨
  (r.2.1 = 21 ∧ z = true ∧ ∃ o u, o < a.1 16 0 ∧ u < 12 ∧ isO a o u = true ∧ i < cpl a u ∧ p = w.1 20 o u ∧ r.2.2 = 4 * (12 * o + u) + i)
def ptr4 (a : aS) (w : cG) (r : Int32 × Nat × Nat) (p i : Nat) (z : Bool) : Prop := ptr a w r p i z ∨ (r.2.1 = 27 ∧ z = true ∧ ∃ j, j < a.1 23 0 ∧ i < a.1 26 j ∧ p = w.1 22 j 0 ∧ r.2.2 = 4 * j + i)
def FD (E : hmG) (xa ma b : Nat) (a : aS) (w : cG) (σ : hmS) (P : Int32 × Nat × Nat → Nat → Nat → Bool → Prop) (r : Int32 × Nat × Nat) (f : Option (Int32 × hmS)) : Prop := ∃ σ', f = some (r.1, σ') ∧ RC E xa ma b a w σ' ∧ Fr E ma σ σ' ∧ (r.1 = 0 → ∃ p i z, i < 4 ∧ σ'.1 (w.1 4 0 0) = some (.inr (2, [.ref p, .int (nI i), .int (b2 z)])) ∧ P r p i z)
theorem FD.here {P : Int32 × Nat × Nat → Nat → Nat → Bool → Prop} {r : Int32 × Nat × Nat} {f : Option (Int32 × hmS)} (h : RC E xa ma b a w σ) (e : f = some (r.1, σ)) (h0 : r.1 ≠ 0) : FD E xa ma b a w σ P r f := ⟨σ, e, h, Fr.refl _ _ _, fun q => absurd q h0⟩
theorem hs_le (hw : Wt a) (hO : Wo a b) {o u : Nat} (ho : o < b) (hu : u < 12) (hi : isO a o u = true) : hs a o u ≤ 4 := by
  obtain ⟨h1, h2, -⟩ := hO o ho u hu hi
  unfold hs
  unfold isO at hi
  cases hh : a.2.1 18 (12 * o + u) with
  | none => rw [hh] at hi; cases hi
  | some q => exact Nat.le_trans (h2 q hh) (hw.nf h1)
theorem cpl_le (hw : Wt a) {u : Nat} (hu : u < a.1 0 0) : cpl a u ≤ 4 := by
  unfold cpl
  split
  · omega
  · exact hw.a4 hu
/-- the length of a row that may be the empty one -/
theorem RC.zrN (h : RC E xa ma b a w σ) {n q : Nat} {s : Nat → Int64} (hq : n ≠ 0 → ∃ c, σ.1 q = some c ∧ rowL n s c) : aN σ (zr E n q) = some (nI n) := by
  unfold zr
  split
  · rename_i h0
    rw [aN_of h.2.2.2.1.1, h0]
  · rename_i h0
    obtain ⟨c, h1, f, rfl, -⟩ := hq h0
    rw [aN_of h1]
theorem RC.findField (h : RC E xa ma b a w σ) (hw : Wt a) (hbd : Wb a) (hO : Wo a (a.1 16 0)) (hb : a.1 16 0 ≤ b) {u nm k : Nat} (hu : u < a.1 0 0) (hnm : nm < 8) (hf : fi (fun k => a.1 8 (4 * u + k) == nm) (a.1 7 u) 0 = some k) {q : Option Nat} (hq : ∀ r, q = some r → r < a.1 16 0) : FD E xa ma b a w σ (ptr a w) (sp_ofField a u k q) (fX7_findField xa (some (w.1 5 u 0)) (mp w.1 16 q) (nI nm) σ) := by
  have hn := hw.n12
  have h7 := hw.nf hu
  have hk : k < a.1 7 u := by have := fi_lt hf; omega
  have hk4 : k < 4 := by omega
  unfold sp_ofField
  have eF : ∀ X Y : Option (Int32 × hmS), (if b2 (a.1 10 (4 * u + k) != 0) = 0 then X else Y) = if a.1 10 (4 * u + k) = 0 then X else Y := by
    intro X Y
    by_cases h0 : a.1 10 (4 * u + k) = 0 <;> simp [h0, b2]
  simp only [fX7_findField, ob_some, h.t7 hu, h.fC hu, h.indexOf hw hbd hu hnm, cb_some, hf, show lt (some k) = nI k from rfl, h.isStatic hw hbd hu hk, eF]
  by_cases h0 : a.1 10 (4 * u + k) = 0
  · simp only [if_pos h0]
    cases q with
    | none => exact FD.here h (by simp only [mp_n, oc_none]) (by show (4 : Int32) ≠ 0; decide)
    | some o =>
      have ho := hq o rfl
      simp only [mp_s, oc_some, h.oC ho, ob_some, h.levelOf hw hO hb ho hu, cb_some]
      by_cases hi : isO a o u = true
      · have hu12 : u < 12 := by omega
        have hob : o < b := Nat.lt_of_lt_of_le ho hb
        obtain ⟨g, hg⟩ : ∃ g, a.2.1 18 (12 * o + u) = some g := by
          unfold isO at hi
          cases hh : a.2.1 18 (12 * o + u) with
          | none => rw [hh] at hi; cases hi
          | some g => exact ⟨g, rfl⟩
        have ehs : hs a o u = g := by simp [hs, hg]
        have hg4 : g ≤ 4 := by rw [← ehs]; exact hs_le hw hO ho hu12 hi
        have hN : aN σ (zr E (hs a o u) (w.1 19 o u)) = some (nI g) := by
          rw [h.zrN (s := fun i => a.2.2.1 20 (4 * (12 * o + u) + i)) (fun hne => h.cell (vld_19 hob hu12 hi hne)), ehs]
        simp only [hi, if_true, oc_some, h.v2 hob hu12 hi, ob_some, hN, n_lt (show k < 100000 by omega) (show g < 100000 by omega), hg]
        by_cases hkg : k < g
        · obtain ⟨σ', e1, g1, f1, c1⟩ := h.w_fd (some (w.1 19 o u)) (nI k) false
          have ez : zr E (hs a o u) (w.1 19 o u) = w.1 19 o u := by unfold zr; rw [if_neg (by omega)]
          have e1' : fX0_pointAt (w.1 4 0 0) (some (w.1 19 o u)) (nI k) 0 σ = some ((), σ') := e1
          refine ⟨σ', ?_, g1, f1, fun _ => ⟨w.1 19 o u, k, false, hk4, c1, ?_⟩⟩
          · obtain ⟨c, hc1, r0, i0, z0, rfl⟩ := h.cell (vld_0 (k := 4) (by decide))
            simp only [if_pos hkg, h.m6, ob_some, ez, obC_of hc1, e1', cb_some]
          · simp only [if_pos hkg]
            exact Or.inr (Or.inl ⟨rfl, rfl, o, u, ho, hu12, hi, by omega, rfl, rfl⟩)
        · refine FD.here h ?_ ?_
          · simp only [if_neg hkg]
          · simp only [if_neg hkg]; decide
      · have hnn : a.2.1 18 (12 * o + u) = none := by
          unfold isO at hi
          cases hh : a.2.1 18 (12 * o + u) with
          | none => rfl
          | some g => rw [hh] at hi; exact absurd rfl hi
        refine FD.here h ?_ ?_
        · simp [hi, oc_none, hnn]
        · rw [hnn]; show (5 : Int32) ≠ 0; decide
  · simp only [if_neg h0]
    obtain ⟨σ', e1, g1, f1, c1⟩ := h.w_fd (some (w.1 8 u 0)) (nI k) false
    have e1' : fX0_pointAt (w.1 4 0 0) (some (w.1 8 u 0)) (nI k) 0 σ = some ((), σ') := e1
    refine ⟨σ', ?_, g1, f1, fun _ => ⟨w.1 8 u 0, k, false, hk4, c1, Or.inl ⟨rfl, rfl, u, hu, hk4, rfl, rfl⟩⟩⟩
    obtain ⟨c, hc1, r0, i0, z0, rfl⟩ := h.cell (vld_0 (k := 4) (by decide))
    simp only [h.m6, ob_some, h.f1 hu, obC_of hc1, e1', cb_some]
theorem RC.findCopy (h : RC E xa ma b a w σ) (hw : Wt a) (hbd : Wb a) (hO : Wo a (a.1 16 0)) (hb : a.1 16 0 ≤ b) {t nm l : Nat} (ht : t < a.1 0 0) (hl : lcl a nm t = some l) {q : Option Nat} (hq : ∀ r, q = some r → r < a.1 16 0) : FD E xa ma b a w σ (ptr a w) (sp_ofLocal a t l q) (fX7_findCopy xa (some (w.1 5 t 0)) (mp w.1 16 q) (nI l) σ) := by
  have hn := hw.n12
  obtain ⟨v, hv, hl5, -⟩ := lcl_s a hl
  have hvt := (hw.ou ht hv).1
  have hv' : v < a.1 0 0 := by omega
  have hkd := hw.kd ht
  have h5 := hw.a4 ht
  have hl12 : l < a.1 12 v := Nat.lt_of_lt_of_le hl5 (hw.ah ht hv)
  have ew : wo a t = v := by simp [wo, hv]
  have e4 : (nI (a.1 1 t) = (4 : Int32)) = (a.1 1 t = 4) := n_eq (y := 4) (by omega) (by decide)
  unfold sp_ofLocal
  rw [ew]
  have eF : ∀ X Y : Option (Int32 × hmS), (if b2 (a.1 15 (4 * v + l) != 0) = 0 then X else Y) = if a.1 15 (4 * v + l) = 0 then X else Y := by
    intro X Y
    by_cases h0 : a.1 15 (4 * v + l) = 0 <;> simp [h0, b2]
  simp only [fX7_findCopy, ob_some, h.t1 ht, e4, h.t2 ht, hv, mp_s, oc_some, h.t8 hv', h.lC hv', h.isAssigned hw hbd hv' hl12, cb_some, eF]
  by_cases k4 : a.1 1 t = 4
  · simp only [if_pos k4]; exact FD.here h rfl (by decide)
  · simp only [if_neg k4]
    by_cases h0 : a.1 15 (4 * v + l) = 0
    · simp only [if_pos h0, fX7_findCopy_J35]
      cases q with
      | none => exact FD.here h (by simp only [mp_n, oc_none]) (by show (4 : Int32) ≠ 0; decide)
      | some o =>
        have ho := hq o rfl
        simp only [mp_s, oc_some, h.oC ho, ob_some, h.levelOf hw hO hb ho ht, cb_some]
        by_cases hi : isO a o t = true
        · have hu12 : t < 12 := by omega
          have hob : o < b := Nat.lt_of_lt_of_le ho hb
          have ec : cpl a t = a.1 5 t := by unfold cpl; rw [if_neg k4]
          have hN : aN σ (zr E (cpl a t) (w.1 20 o t)) = some (nI (a.1 5 t)) := by
            rw [h.zrN (s := fun i => a.2.2.1 21 (4 * (12 * o + t) + i)) (fun hne => h.cell (vld_20 hob hu12 hi hne)), ec]
          have ez : zr E (cpl a t) (w.1 20 o t) = w.1 20 o t := by unfold zr; rw [if_neg (by omega)]
          obtain ⟨σ', e1, g1, f1, c1⟩ := h.w_fd (some (w.1 20 o t)) (nI l) true
          have e1' : fX0_pointAt (w.1 4 0 0) (some (w.1 20 o t)) (nI l) 1 σ = some ((), σ') := e1
          simp only [hi, if_true]
          refine ⟨σ', ?_, g1, f1, fun _ => ⟨w.1 20 o t, l, true, by omega, c1, Or.inr (Or.inr ⟨rfl, rfl, o, t, ho, hu12, hi, by omega, rfl, rfl⟩)⟩⟩
          obtain ⟨c, hc1, r0, i0, z0, rfl⟩ := h.cell (vld_0 (k := 4) (by decide))
          rw [ez] at hN
          simp only [oc_some, h.v3 hob hu12 hi, ob_some, ez, hN, n_lt (show l < 100000 by omega) (show a.1 5 t < 100000 by omega), if_pos hl5, h.m6, obC_of hc1, e1', cb_some]
        · refine FD.here h ?_ ?_
          · simp [hi, oc_none]
          · simp only [hi]; show (5 : Int32) ≠ 0; decide
    · simp only [if_neg h0]; exact FD.here h rfl (by decide)
theorem RC.nxtA (h : RC E xa ma b a w σ) (hw : Wt a) (hO : Wo a (a.1 16 0)) (hb : a.1 16 0 ≤ b) {t o : Nat} (ht : t < a.1 0 0) (ho : o < a.1 16 0) (hi : isO a o t = true) : fX5_aroundAt (w.1 16 o 0) (some (w.1 5 t 0)) σ = some (mp w.1 16 (nxt a t (some o)), σ) := by
  have hn := hw.n12
  rw [h.aroundAt hw hO hb ho ht, if_pos hi]
  have e : nxt a t (some o) = a.2.1 19 (12 * o + t) := by
    rw [show nxt a t (some o) = if bd a t then a.2.1 19 (12 * o + t) else none from rfl]
    cases hbd : bd a t with
    | true => simp
    | false =>
      cases hr : a.2.1 19 (12 * o + t) with
      | none => simp
      | some r =>
        have := ((hO o ho t (by omega) hi).2.2 r hr).1
        rw [hbd] at this; cases this
  rw [e]
theorem nxt_ok (hw : Wt a) (hO : Wo a (a.1 16 0)) {t : Nat} (ht : t < a.1 0 0) {q : Option Nat} (hob : ∀ r, q = some r → r < a.1 16 0 ∧ isO a r t = true) : ∀ r, nxt a t q = some r → r < a.1 16 0 ∧ ∀ t', a.2.1 2 t = some t' → isO a r t' = true := by
  have hn := hw.n12
  intro r hr
  cases q with
  | none => cases hr
  | some qo =>
    obtain ⟨c1, c2⟩ := hob qo rfl
    rw [show nxt a t (some qo) = if bd a t then a.2.1 19 (12 * qo + t) else none from rfl] at hr
    split at hr
    · have := (hO qo c1 t (by omega) c2).2.2 r hr
      exact ⟨this.2.1, fun w hw' => this.2.2 w hw'⟩
    · cases hr
theorem RC.findL (h : RC E xa ma b a w σ) (hi : Iv a) (hb : a.1 16 0 ≤ b) {nm : Nat} (hnm : nm < 8) (x1 x2 : Option Nat) : ∀ (ts : List Nat) (o q : Option Nat) (s N : Nat), isCh (a.2.1 2) o ts → (∀ x ∈ ts, x < a.1 0 0) → s + ts.length ≤ 12 → ts.length < N → (∀ r, q = some r → r < a.1 16 0 ∧ ∀ t, o = some t → isO a r t = true) → FD E xa ma b a w σ (ptr a w) (fndL a nm ts q) (fX7_findFromType_L9 xa x1 x2 (nI nm) N (mp w.1 5 o) (mp w.1 16 q) (nI s) σ) := by
  obtain ⟨hbd, hw, hc, hO, hq, hz⟩ := hi
  have hn := hw.n12
  intro ts
  induction ts with
  | nil =>
    intro o q s N hch _ _ hN _
    obtain ⟨N, rfl⟩ : ∃ k, N = k + 1 := ⟨N - 1, by omega⟩
    cases o with
    | some t => exact hch.elim
    | none => exact FD.here h (by simp only [fX7_findFromType_L9, fX7_findFromType_B9, mp_n, oc_none]; rfl) (by show (8 : Int32) ≠ 0; decide)
  | cons t ts ih =>
    intro o q s N hch hl hs hN hob
    obtain ⟨N, rfl⟩ : ∃ k, N = k + 1 := ⟨N - 1, by omega⟩
    cases o with
    | none => exact hch.elim
    | some t' =>
      obtain ⟨rfl, h2⟩ := hch
      have ht := hl t List.mem_cons_self
      simp only [List.length_cons] at hs hN
      have h12 : ((12 : Int32) ≤ nI s) = (12 ≤ s) := n_le (x := 12) (by decide) (by omega)
      have hq' : ∀ r, q = some r → r < a.1 16 0 := fun r hr => (hob r hr).1
      obtain ⟨pl, p1, p2, p3⟩ := hc.ch hw (o := some t) (fun x hx => by cases hx; exact ht)
      have epl : pch a t = pl := chl_eq p1 p2
      have hOw : fX7_ownerOfField (some (w.1 5 t 0)) (nI nm) σ = some (owA w (own a nm pl), σ) := h.ownL hw hbd hnm (some (w.1 5 t 0)) pl (some t) 0 20 p1 p3 (by omega) (by omega)
      unfold fndL
      rw [epl]
      have hnx := nxt_ok hw hO ht (q := q) (fun r hr => ⟨(hob r hr).1, (hob r hr).2 t rfl⟩)
      have ih' := ih (a.2.1 2 t) (nxt a t q) (s + 1) N h2 (fun x hx => hl x (List.mem_cons_of_mem _ hx)) (by omega) (by omega) hnx
      have eL : fX7_findFromType_L9 xa x1 x2 (nI nm) (N + 1) (mp w.1 5 (some t)) (mp w.1 16 q) (nI s) σ = match own a nm pl with
          | some uk => fX7_findField xa (some (w.1 5 uk.1 0)) (mp w.1 16 q) (nI nm) σ
          | none => match lcl a nm t with
            | some l => fX7_findCopy xa (some (w.1 5 t 0)) (mp w.1 16 q) (nI l) σ
            | none => fX7_findFromType_L9 xa x1 x2 (nI nm) N (mp w.1 5 (a.2.1 2 t)) (mp w.1 16 (nxt a t q)) (nI (s + 1)) σ := by
        simp only [fX7_findFromType_L9, fX7_findFromType_B9, mp_s, oc_some, h12, if_neg (show ¬ 12 ≤ s by omega), hOw, cb_some]
        cases hown : own a nm pl with
        | some uk =>
          simp only [owA, oc_some, h.mC, ob_some]
          cases fX7_findField xa (some (w.1 5 uk.1 0)) (mp w.1 16 q) (nI nm) σ with
          | none => rfl
          | some z => rfl
        | none =>
          simp only [owA, oc_none, h.tC ht, ob_some, h.latestAhead hw hbd ht hnm, cb_some, lt_m1 (o := lcl a nm t) (fun l hl => by obtain ⟨v, -, q1, -⟩ := lcl_s a hl; have := hw.a4 ht; omega)]
          cases hlc : lcl a nm t with
          | some l =>
            simp only [reduceCtorEq, if_false, h.mC, ob_some, show lt (some l) = nI l from rfl]
            cases fX7_findCopy xa (some (w.1 5 t 0)) (mp w.1 16 q) (nI l) σ with
            | none => rfl
            | some z => rfl
          | none =>
            simp only [if_true]
            cases q with
            | none => simp only [mp_n, oc_none, fX7_findFromType_J85, h.t2 ht, ob_some, n_s, nxt]
            | some qo =>
              obtain ⟨c1, c2⟩ := hob qo rfl
              simp only [mp_s, oc_some, h.oC c1, ob_some, h.nxtA hw hO hb ht c1 (c2 t rfl), cb_some, fX7_findFromType_J85, h.t2 ht, n_s]
      rw [eL]
      cases hown : own a nm pl with
      | some uk =>
        obtain ⟨u1, u2, u3⟩ := own_s a hown
        exact h.findField hw hbd hO hb (p3 _ u1) hnm u3 hq'
      | none =>
        cases hlc : lcl a nm t with
        | some l => exact h.findCopy hw hbd hO hb ht hlc hq'
        | none => exact ih'
theorem RC.findT (h : RC E xa ma b a w σ) (hi : Iv a) (hb : a.1 16 0 ≤ b) {nm : Nat} (hnm : nm < 8) {t : Nat} (ht : t < a.1 0 0) {q : Option Nat} (hob : ∀ r, q = some r → r < a.1 16 0 ∧ isO a r t = true) : FD E xa ma b a w σ (ptr a w) (fndL a nm (och a (some t)) q) (fX7_findFromType xa (some (w.1 5 t 0)) (mp w.1 16 q) (nI nm) σ) := by
  obtain ⟨ts, t1, t2, t3⟩ := hi.2.1.oc' (o := some t) (fun x hx => by cases hx; exact ht)
  have e : och a (some t) = ts := chl_eq t1 t2
  rw [e]
  exact h.findL hi hb hnm (some (w.1 5 t 0)) (mp w.1 16 q) ts (some t) q 0 20 t1 t3 (by omega) (by omega) (fun r hr => ⟨(hob r hr).1, fun x hx => by cases hx; exact (hob r hr).2⟩)
theorem RC.findP (h : RC E xa ma b a w σ) (hi : Iv a) (hb : a.1 16 0 ≤ b) (x y : Int32) : FD E xa ma b a w σ (ptr a w) (fpl a x y) (fX7_findFromPlace xa x y σ) := by
  have hq := hi.2.2.2.2.1
  unfold fpl
  cases hx : ix x 8 with
  | none => exact FD.here h (by simp [fX7_findFromPlace, cm_isPlace, cb_some, hx, b2]) (by show (-1 : Int32) ≠ 0; decide)
  | some p =>
    obtain ⟨hp, rfl⟩ := ix_s hx (by decide)
    cases hy : ix y 8 with
    | none => exact FD.here h (by simp [fX7_findFromPlace, cm_isPlace, cm_isName, cb_some, hx, hy, b2]) (by show (-1 : Int32) ≠ 0; decide)
    | some nm =>
      obtain ⟨hm, rfl⟩ := ix_s hy (by decide)
      simp only [fX7_findFromPlace, cm_isPlace, cm_isName, cb_some, hx, hy, b2_0, Option.isSome_some, Bool.true_eq_false, if_false, h.m2, ob_some, h.plA hp, reduceCtorEq]
      cases ho : a.2.1 22 p with
      | none => exact FD.here h (by simp [mp_n, oc_none]) (by show (9 : Int32) ≠ 0; decide)
      | some o =>
        have h1 := hq.2.2.1 p hp o ho
        have h2 := hq.2.1 o h1
        obtain ⟨σ', e1, e2⟩ := h.findT hi hb hm h2.1 (q := some o) (fun r hr => by cases hr; exact ⟨h1, h2.2⟩)
        refine ⟨σ', ?_, e2⟩
        rw [mp_s] at e1
        simp only [mp_s, oc_some, h.o0 h1, ob_some, h.mC, e1, cb_some]
        rfl
theorem RC.lambdaAt (h : RC E xa ma b a w σ) (hn : a.1 23 0 ≤ 6) (x : Int32) : fX7_lambdaAt xa x σ = some (mp w.1 21 (ix x (a.1 23 0)), σ) := by
  unfold fX7_lambdaAt
  cases hx : ix x (a.1 23 0) with
  | none =>
    rcases ix_n hx (by omega) with h1 | h1
    · rw [if_pos h1]; rfl
    · split
      · rfl
      · rw [h.m5, ob_some, if_pos h1]; rfl
  | some j =>
    obtain ⟨hj, rfl⟩ := ix_s hx (by omega)
    rw [if_neg (n_nn (show j < 100000 by omega))]
    simp only [h.m5, ob_some, n_le (show a.1 23 0 < 100000 by omega) (show j < 100000 by omega), if_neg (show ¬ a.1 23 0 ≤ j by omega), h.m4, h.laA hn hj, mp_s]
theorem RC.findM (h : RC E xa ma b a w σ) (hi : Iv a) (hb : a.1 16 0 ≤ b) (x y : Int32) : FD E xa ma b a w σ (ptr4 a w) (flm a x y) (fX7_findFromLambda xa x y σ) := by
  obtain ⟨hbd, hw, hc, hO, hq, hz⟩ := id hi
  have h23 := hq.2.2.2.1
  have eL := h.lambdaAt h23 x
  unfold flm
  unfold fX7_findFromLambda
  rw [h.mC, ob_some, eL, cb_some]
  cases hx : ix x (a.1 23 0) with
  | none => exact FD.here h rfl (by show (-1 : Int32) ≠ 0; decide)
  | some j =>
    obtain ⟨hj, rfl⟩ := ix_s hx (by omega)
    rw [mp_s, oc_some, cm_isName, cb_some]
    cases hy : ix y 8 with
    | none => exact FD.here h (by simp [b2]) (by show (-1 : Int32) ≠ 0; decide)
    | some nm =>
      obtain ⟨hm, rfl⟩ := ix_s hy (by decide)
      obtain ⟨l1, l2, l3⟩ := hq.2.2.2.2 j hj
      have hnl := hw.nl l1
      have hN : aN σ (zr E (a.1 26 j) (w.1 22 j 0)) = some (nI (a.1 26 j)) := h.zrN (s := fun i => a.2.2.1 27 (4 * j + i)) (fun hne => h.cell (vld_22 hj hne))
      simp only [b2_0, Option.isSome_some, Bool.true_eq_false, if_false, ob_some, h.k0 hj, h.t8 l1, h.k2 hj, hN, h.lC l1, h.latest hw hbd l1 hm l2, cb_some, lt_m1 (o := las (fun k => a.1 13 (4 * a.1 24 j + k) == nm) (a.1 26 j)) (fun q hq => by have := (las_lt hq).1; omega)]
      cases hl : las (fun k => a.1 13 (4 * a.1 24 j + k) == nm) (a.1 26 j) with
      | none =>
        obtain ⟨σ', e1, e2, e3, e4⟩ := h.findT hi hb hm l1 (q := a.2.1 25 j) (fun r hr => l3 r hr)
        refine ⟨σ', ?_, e2, e3, fun h0 => ?_⟩
        · simp only [if_true, h.k1 hj, ob_some, h.mC, e1, cb_some]
        · obtain ⟨p, i, z, q1, q2, q3⟩ := e4 h0
          exact ⟨p, i, z, q1, q2, Or.inl q3⟩
      | some l =>
        have hl4 := (las_lt hl).1
        have hll : l < a.1 12 (a.1 24 j) := by omega
        simp only [reduceCtorEq, if_false, show lt (some l) = nI l from rfl, h.isAssigned hw hbd l1 hll, cb_some]
        by_cases h0 : a.1 15 (4 * a.1 24 j + l) = 0
        · obtain ⟨σ', e1, g1, f1, c1⟩ := h.w_fd (some (w.1 22 j 0)) (nI l) true
          have ez : zr E (a.1 26 j) (w.1 22 j 0) = w.1 22 j 0 := by unfold zr; rw [if_neg (by omega)]
          have e1' : fX0_pointAt (w.1 4 0 0) (some (w.1 22 j 0)) (nI l) 1 σ = some ((), σ') := e1
          simp only [if_pos h0]
          refine ⟨σ', ?_, g1, f1, fun _ => ⟨w.1 22 j 0, l, true, by omega, c1, Or.inr ⟨rfl, rfl, j, hj, hl4, rfl, rfl⟩⟩⟩
          obtain ⟨c, hc1, r0, i0, z0, rfl⟩ := h.cell (vld_0 (k := 4) (by decide))
          simp [h0, b2, h.m6, ob_some, h.k2 hj, ez, obC_of hc1, e1', cb_some]
        · refine FD.here h ?_ ?_
          · simp [h0, b2]
          · simp only [if_neg h0]; decide
end CN
