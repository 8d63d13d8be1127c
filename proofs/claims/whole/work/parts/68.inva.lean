/-! What holds of every state goes on to hold. -/
theorem wb_N {a : aS} (h : Wb a) (k j : Nat) {v : Nat} (hv : v < 10000) : Wb (aN_ a k j v) := by
  refine ⟨fun k' j' => ?_, h.2⟩
  show (if k' = k ∧ j' = j then v else a.1 k' j') < 10000
  split
  · exact hv
  · exact h.1 _ _
theorem wb_P {a : aS} (h : Wb a) (k j : Nat) {v : Option Nat} (hv : ∀ q, v = some q → q < 10000) : Wb (aP_ a k j v) := by
  refine ⟨h.1, fun k' j' q hq => ?_⟩
  have hq' : (if k' = k ∧ j' = j then v else a.2.1 k' j') = some q := hq
  split at hq'
  · exact hv q hq'
  · exact h.2 _ _ _ hq'
theorem iv_W {a : aS} (h : Iv a) (v : Int32) : Iv (aW_ a v) := h
theorem iv_L {a : aS} (h : Iv a) {k j : Nat} (v : Int64) (hj : (k = 9 ∨ k = 14) → j < 4 * a.1 0 0) : Iv (aL_ a k j v) := by
  obtain ⟨h1, h2, h3, h4, h5, h6⟩ := h
  refine ⟨h1, h2, h3, h4, h5, h6.1, fun i hi => ?_⟩
  have hi' : 4 * a.1 0 0 ≤ i := hi
  have z := h6.2 i hi'
  refine ⟨z.1, ?_, z.2.2.1, z.2.2.2.1, ?_, z.2.2.2.2.2⟩
  · show (if 9 = k ∧ i = j then v else a.2.2.1 9 i) = 0
    rw [if_neg (fun q => by have := hj (Or.inl q.1.symm); omega)]
    exact z.2.1
  · show (if 14 = k ∧ i = j then v else a.2.2.1 14 i) = 0
    rw [if_neg (fun q => by have := hj (Or.inr q.1.symm); omega)]
    exact z.2.2.2.2.1
theorem iv_22 {a : aS} (h : Iv a) (p : Nat) {o : Option Nat} (ho : ∀ q, o = some q → q < a.1 16 0) : Iv (aP_ a 22 p o) := by
  obtain ⟨h1, h2, h3, h4, h5, h6⟩ := h
  refine ⟨wb_P h1 22 p (fun q hq => by have := ho q hq; have := h5.1; omega), h2, h3, h4, ⟨h5.1, h5.2.1, fun i hi q hq => ?_, h5.2.2.2⟩, h6⟩
  have hq' : (if 22 = 22 ∧ i = p then o else a.2.1 22 i) = some q := hq
  split at hq'
  · exact ho q hq'
  · exact h5.2.2.1 i hi q hq'
theorem iv_8 {a : aS} (h : Iv a) {j v : Nat} (hv : v < 10000) (hj : j < 4 * a.1 0 0) : Iv (aN_ a 8 j v) := by
  obtain ⟨h1, h2, h3, h4, h5, h6⟩ := h
  refine ⟨wb_N h1 8 j hv, h2, h3, h4, h5, h6.1, fun i hi => ?_⟩
  have hi' : 4 * a.1 0 0 ≤ i := hi
  have z := h6.2 i hi'
  refine ⟨?_, z.2⟩
  show (if 8 = 8 ∧ i = j then v else a.1 8 i) = 0
  rw [if_neg (by omega)]
  exact z.1
theorem iv_13 {a : aS} (h : Iv a) {j v : Nat} (hv : v < 10000) (hj : j < 4 * a.1 0 0) : Iv (aN_ a 13 j v) := by
  obtain ⟨h1, h2, h3, h4, h5, h6⟩ := h
  refine ⟨wb_N h1 13 j hv, h2, h3, h4, h5, h6.1, fun i hi => ?_⟩
  have hi' : 4 * a.1 0 0 ≤ i := hi
  have z := h6.2 i hi'
  refine ⟨z.1, z.2.1, z.2.2.1, ?_, z.2.2.2.2⟩
  show (if 13 = 13 ∧ i = j then v else a.1 13 i) = 0
  rw [if_neg (by omega)]
  exact z.2.2.2.1
theorem iv_10 {a : aS} (h : Iv a) {j v : Nat} (hv : v ≤ 1) (hj : j < 4 * a.1 0 0) : Iv (aN_ a 10 j v) := by
  obtain ⟨h1, h2, h3, h4, h5, h6⟩ := h
  refine ⟨wb_N h1 10 j (by omega), ⟨h2.1, fun i => ⟨?_, (h2.2.1 i).2⟩, h2.2.2⟩, h3, h4, h5, h6.1, fun i hi => ?_⟩
  · show (if 10 = 10 ∧ i = j then v else a.1 10 i) ≤ 1
    split
    · exact hv
    · exact (h2.2.1 i).1
  · have hi' : 4 * a.1 0 0 ≤ i := hi
    have z := h6.2 i hi'
    refine ⟨z.1, z.2.1, ?_, z.2.2.2⟩
    show (if 10 = 10 ∧ i = j then v else a.1 10 i) = 0
    rw [if_neg (by omega)]
    exact z.2.2.1
theorem iv_15 {a : aS} (h : Iv a) {j v : Nat} (hv : v ≤ 1) (hj : j < 4 * a.1 0 0) : Iv (aN_ a 15 j v) := by
  obtain ⟨h1, h2, h3, h4, h5, h6⟩ := h
  refine ⟨wb_N h1 15 j (by omega), ⟨h2.1, fun i => ⟨(h2.2.1 i).1, (h2.2.1 i).2.1, ?_⟩, h2.2.2⟩, h3, h4, h5, h6.1, fun i hi => ?_⟩
  · show (if 15 = 15 ∧ i = j then v else a.1 15 i) ≤ 1
    split
    · exact hv
    · exact (h2.2.1 i).2.2
  · have hi' : 4 * a.1 0 0 ≤ i := hi
    have z := h6.2 i hi'
    refine ⟨z.1, z.2.1, z.2.2.1, z.2.2.2.1, z.2.2.2.2.1, ?_⟩
    show (if 15 = 15 ∧ i = j then v else a.1 15 i) = 0
    rw [if_neg (by omega)]
    exact z.2.2.2.2.2
theorem iv_7 {a : aS} (h : Iv a) {t v : Nat} (ht : t < a.1 0 0) (hv : a.1 7 t ≤ v) (hv4 : v ≤ 4) : Iv (aN_ a 7 t v) := by
  obtain ⟨h1, h2, h3, h4, h5, h6⟩ := h
  have e7 : ∀ u, (aN_ a 7 t v).1 7 u = if u = t then v else a.1 7 u := fun u => by simp [aN_, up2]
  refine ⟨wb_N h1 7 t (by omega), ⟨h2.1, h2.2.1, fun u hu => ?_⟩, h3, fun o ho u hu hi => ?_, h5, fun u hu => ?_, h6.2⟩
  · have z := h2.2.2 u hu
    refine ⟨z.1, z.2.1, z.2.2.1, z.2.2.2.1, z.2.2.2.2.1, ?_, z.2.2.2.2.2.2⟩
    rw [e7]
    split
    · exact hv4
    · exact z.2.2.2.2.2.1
  · have z := h4 o ho u hu hi
    refine ⟨z.1, fun q hq => ?_, z.2.2⟩
    have := z.2.1 q hq
    rw [e7]
    split
    · rename_i e; subst e; omega
    · exact this
  · have hu' : a.1 0 0 ≤ u := hu
    have z := h6.1 u hu'
    refine ⟨?_, z.2⟩
    rw [e7, if_neg (by omega)]
    exact z.1
theorem iv_12 {a : aS} (h : Iv a) {t v : Nat} (ht : t < a.1 0 0) (hv : a.1 12 t ≤ v) (hv4 : v ≤ 4) : Iv (aN_ a 12 t v) := by
  obtain ⟨h1, h2, h3, h4, h5, h6⟩ := h
  have e12 : ∀ u, (aN_ a 12 t v).1 12 u = if u = t then v else a.1 12 u := fun u => by simp [aN_, up2]
  have e12' : ∀ u, a.1 12 u ≤ (aN_ a 12 t v).1 12 u := fun u => by
    rw [e12]
    split
    · rename_i e; subst e; exact hv
    · exact Nat.le_refl _
  refine ⟨wb_N h1 12 t (by omega), ⟨h2.1, h2.2.1, fun u hu => ?_⟩, h3, h4, ⟨h5.1, h5.2.1, h5.2.2.1, h5.2.2.2.1, fun j hj => ?_⟩, fun u hu => ?_, h6.2⟩
  · have z := h2.2.2 u hu
    refine ⟨z.1, z.2.1, z.2.2.1, z.2.2.2.1, z.2.2.2.2.1, z.2.2.2.2.2.1, ?_, z.2.2.2.2.2.2.2.1, fun o k3 ho => ?_, z.2.2.2.2.2.2.2.2.2⟩
    · rw [e12]
      split
      · exact hv4
      · exact z.2.2.2.2.2.2.1
    · exact Nat.le_trans (z.2.2.2.2.2.2.2.2.1 o k3 ho) (e12' o)
  · have z := h5.2.2.2.2 j hj
    exact ⟨z.1, Nat.le_trans z.2.1 (e12' _), z.2.2⟩
  · have hu' : a.1 0 0 ≤ u := hu
    have z := h6.1 u hu'
    refine ⟨z.1, z.2.1, ?_⟩
    rw [e12, if_neg (by omega)]
    exact z.2.2
theorem iv_11 {a : aS} (h : Iv a) {t v : Nat} (ht : t < a.1 0 0) (hv : v ≤ 1) (hno : ∀ u, u < a.1 0 0 → inM a t u = false) : Iv (aN_ a 11 t v) := by
  obtain ⟨h1, h2, h3, h4, h5, h6⟩ := h
  have e11 : ∀ u, (aN_ a 11 t v).1 11 u = if u = t then v else a.1 11 u := fun u => by simp [aN_, up2]
  refine ⟨wb_N h1 11 t (by omega), ⟨h2.1, fun i => ⟨(h2.2.1 i).1, ?_, (h2.2.1 i).2.2⟩, h2.2.2⟩, h3, fun o ho u hu hi => ?_, h5, fun u hu => ?_, h6.2⟩
  · rw [e11]
    split
    · exact hv
    · exact (h2.2.1 i).2.1
  · have z := h4 o ho u hu hi
    refine ⟨z.1, z.2.1, fun o' ho' => ?_⟩
    rw [bd_ms hno z.1]
    exact z.2.2 o' ho'
  · have hu' : a.1 0 0 ≤ u := hu
    have z := h6.1 u hu'
    refine ⟨z.1, ?_, z.2.2⟩
    rw [e11, if_neg (by omega)]
    exact z.2.1
theorem ch_par {f : Nat → Option Nat} {t u : Nat} {pu : List Nat} (hpu : isCh (fun j => if j = t then some u else f j) (some u) pu) : ∀ {l : List Nat} {o : Option Nat}, isCh f o l → ∃ l', isCh (fun j => if j = t then some u else f j) o l' := by
  intro l
  induction l with
  | nil =>
    intro o h
    cases o with
    | none => exact ⟨[], trivial⟩
    | some x => exact h.elim
  | cons x l ih =>
    intro o h
    cases o with
    | none => exact h.elim
    | some y =>
      obtain ⟨rfl, h2⟩ := h
      by_cases e : x = t
      · exact ⟨x :: pu, rfl, by dsimp only; rw [if_pos e]; exact hpu⟩
      · obtain ⟨l', hl'⟩ := ih h2
        exact ⟨x :: l', rfl, by dsimp only; rw [if_neg e]; exact hl'⟩
theorem iv_6 {a : aS} (h : Iv a) {t u : Nat} (ht : t < a.1 0 0) (hu : u < a.1 0 0) (hno : (pch a u).contains t = false) : Iv (aP_ a 6 t (some u)) := by
  obtain ⟨h1, h2, h3, h4, h5, h6⟩ := h
  have hn := h2.n12
  have e6 : (aP_ a 6 t (some u)).2.1 6 = fun j => if j = t then some u else a.2.1 6 j := funext fun j => by simp [aP_, up2]
  refine ⟨wb_P h1 6 t (fun q hq => by cases hq; omega), ⟨h2.1, h2.2.1, fun x hx => ?_⟩, fun x hx => ?_, h4, h5, h6⟩
  · have z := h2.2.2 x hx
    refine ⟨z.1, z.2.1, z.2.2.1, z.2.2.2.1, z.2.2.2.2.1, z.2.2.2.2.2.1, z.2.2.2.2.2.2.1, z.2.2.2.2.2.2.2.1, z.2.2.2.2.2.2.2.2.1, fun p hp => ?_, z.2.2.2.2.2.2.2.2.2.2⟩
    rw [e6] at hp
    dsimp only at hp
    by_cases e : x = t
    · rw [if_pos e] at hp; cases hp; exact hu
    · rw [if_neg e] at hp; exact z.2.2.2.2.2.2.2.2.2.1 p hp
  · rw [e6]
    obtain ⟨pu, p1, p2, p3⟩ := h3.ch h2 (o := some u) (fun x hx => by cases hx; exact hu)
    have ep : pch a u = pu := chl_eq p1 p2
    rw [ep] at hno
    have hmem : t ∉ pu := fun q => by
      have : pu.contains t = true := List.contains_iff_mem.mpr q
      rw [hno] at this; cases this
    have hpu : isCh (fun j => if j = t then some u else a.2.1 6 j) (some u) pu := isCh_cg (fun x hx => by
      rw [if_neg (show ¬ x = t from fun e => hmem (e ▸ hx))]) p1
    obtain ⟨l, hl⟩ := h3 x hx
    exact ch_par hpu hl
/-- what one call does: what holds goes on to hold, and one object more at most -/
def Go (a a' : aS) : Prop := Iv a' ∧ a'.1 16 0 ≤ a.1 16 0 + 1
theorem Go.here {a : aS} (h : Iv a) : Go a a := ⟨h, Nat.le_succ _⟩
theorem Go.w {a : aS} (h : Iv a) (v : Int32) : Go a (aW_ a v) := ⟨h, Nat.le_succ _⟩
section IV
variable {a : aS}
theorem iv_share (hi : Iv a) (x y : Int32) : Go a (sp_share a x y).2 := by
  unfold sp_share
  cases hx : ix x 8 with
  | none => exact Go.here hi
  | some p =>
    cases hy : ix y 8 with
    | none => exact Go.here hi
    | some q => exact ⟨iv_22 hi q (fun r hr => hi.2.2.2.2.1.2.2.1 p (ix_s hx (by decide)).1 r hr), Nat.le_succ _⟩
theorem iv_free (hi : Iv a) (x : Int32) : Go a (sp_free a x).2 := by
  unfold sp_free
  cases hx : ix x 8 with
  | none => exact Go.here hi
  | some p => exact ⟨iv_22 hi p (fun r hr => by cases hr), Nat.le_succ _⟩
theorem iv_same (hi : Iv a) (x y : Int32) : Go a (sp_same a x y).2 := by
  unfold sp_same
  cases hx : ix x 8 with
  | none => exact Go.here hi
  | some p => cases hy : ix y 8 <;> exact Go.here hi
theorem iv_field (hi : Iv a) (x y : Int32) (v : Int64) {s : Nat} (hs : s ≤ 1) : Go a (sp_field a x y v s).2 := by
  have hn := hi.2.1.n12
  unfold sp_field
  cases hx : ix x (a.1 0 0) with
  | none => exact Go.here hi
  | some t =>
    have ht := (ix_s hx (by omega)).1
    have h7 := hi.2.1.nf ht
    cases hy : ix y 8 with
    | none => exact Go.here hi
    | some nm =>
      have hnm := (ix_s hy (by decide)).1
      dsimp only
      split
      · exact Go.here hi
      · split
        · exact Go.here hi
        · rename_i n4 _
          have hj : 4 * t + a.1 7 t < 4 * a.1 0 0 := by omega
          refine ⟨iv_7 (iv_10 (iv_L (iv_8 hi (by omega) hj) v (fun _ => hj)) hs hj) ht (Nat.le_succ _) (by omega), Nat.le_succ _⟩
theorem iv_local (hi : Iv a) (x y : Int32) (v : Int64) : Go a (sp_local a x y v).2 := by
  have hn := hi.2.1.n12
  unfold sp_local
  cases hx : ix x (a.1 0 0) with
  | none => exact Go.here hi
  | some t =>
    have ht := (ix_s hx (by omega)).1
    have h7 := hi.2.1.nl ht
    cases hy : ix y 8 with
    | none => exact Go.here hi
    | some nm =>
      have hnm := (ix_s hy (by decide)).1
      dsimp only
      split
      · exact Go.here hi
      · rename_i n4
        have hj : 4 * t + a.1 12 t < 4 * a.1 0 0 := by omega
        refine ⟨iv_12 (iv_L (iv_13 hi (by omega) hj) v (fun _ => hj)) ht (Nat.le_succ _) (by omega), Nat.le_succ _⟩
theorem iv_assign (hi : Iv a) (x y : Int32) (v : Int64) : Go a (sp_assign a x y v).2 := by
  have hn := hi.2.1.n12
  unfold sp_assign
  cases hx : ix x (a.1 0 0) with
  | none => exact Go.here hi
  | some t =>
    have ht := (ix_s hx (by omega)).1
    have h7 := hi.2.1.nl ht
    dsimp only
    cases hy : ix y (a.1 12 t) with
    | none => exact Go.here hi
    | some k =>
      have hk := (ix_s hy (by omega)).1
      have hj : 4 * t + k < 4 * a.1 0 0 := by omega
      exact ⟨iv_L (iv_15 hi (Nat.le_refl _) hj) v (fun _ => hj), Nat.le_succ _⟩
theorem iv_constant (hi : Iv a) (x y : Int32) : Go a (sp_constant a x y).2 := by
  unfold sp_constant
  cases hx : ix x (a.1 0 0) with
  | none => exact Go.w hi _
  | some t =>
    dsimp only
    cases hy : ix y (a.1 7 t) with
    | none => exact Go.w hi _
    | some k =>
      dsimp only
      split <;> exact Go.w hi _
theorem iv_method (hi : Iv a) (x : Int32) {s : Nat} (hs : s ≤ 1) : Go a (sp_method a x s).2 := by
  have hn := hi.2.1.n12
  unfold sp_method
  cases hx : ix x (a.1 0 0) with
  | none => exact Go.here hi
  | some t =>
    have ht := (ix_s hx (by omega)).1
    dsimp only
    split
    · exact Go.here hi
    · rename_i hf
      have hf' : fi (inM a t) (a.1 0 0) 0 = none := by
        cases h : fi (inM a t) (a.1 0 0) 0 with
        | none => rfl
        | some q => rw [h] at hf; exact absurd rfl hf
      exact ⟨iv_11 hi ht hs (fun u hu => fi_none hf' u (Nat.zero_le _) (by omega)), Nat.le_succ _⟩
theorem iv_parent (hi : Iv a) (x y : Int32) : Go a (sp_parent a x y).2 := by
  have hn := hi.2.1.n12
  unfold sp_parent
  cases hx : ix x (a.1 0 0) with
  | none => exact Go.here hi
  | some t =>
    have ht := (ix_s hx (by omega)).1
    cases hy : ix y (a.1 0 0) with
    | none => exact Go.here hi
    | some u =>
      have hu := (ix_s hy (by omega)).1
      dsimp only
      split
      · exact Go.here hi
      · split
        · exact Go.here hi
        · rename_i hc
          have hno : (pch a u).contains t = false := by
            cases h : (pch a u).contains t with
            | false => rfl
            | true => rw [h, Bool.or_true] at hc; exact absurd rfl hc
          exact ⟨iv_6 hi ht hu hno, Nat.le_succ _⟩
theorem iv_see (hi : Iv a) (x y : Int32) : Go a (sp_see a x y).2 := Go.w hi _
theorem iv_seen (hi : Iv a) (x y : Int32) : Go a (sp_seen a x y).2 := Go.w hi _
theorem iv_name (hi : Iv a) (x y : Int32) : Go a (sp_name a x y).2 := by
  unfold sp_name
  cases hx : ix x (a.1 0 0) <;> exact Go.here hi
theorem iv_about (hi : Iv a) (x y : Int32) : Go a (sp_about a x y).2 := by
  unfold sp_about
  cases hx : ix x 8 with
  | none => exact Go.here hi
  | some p => cases hy : ix y 4 <;> exact Go.here hi
theorem iv_count (hi : Iv a) (x : Int32) : Go a (sp_count a x).2 := Go.here hi
/-- a static field that is found is there -/
theorem fnd_9 (hi : Iv a) {nm : Nat} : ∀ (ts : List Nat) (o : Option Nat), (∀ x ∈ ts, x < a.1 0 0) → (fndL a nm ts o).1 = 0 → (fndL a nm ts o).2.1 = 14 ∨ ((fndL a nm ts o).2.1 = 9 ∧ ¬ (fndL a nm ts o).2.2 < 4 * a.1 0 0) → False := by
  obtain ⟨hbd, hw, hc, hO, hq, hz⟩ := id hi
  intro ts
  induction ts with
  | nil => intro o _ h0; exact absurd h0 (by simp [fndL])
  | cons t ts ih =>
    intro o hl
    have ht := hl t List.mem_cons_self
    unfold fndL
    cases ho : own a nm (pch a t) with
    | some uk =>
      dsimp only
      obtain ⟨u1, u2, u3⟩ := own_s a ho
      obtain ⟨pl, p1, p2, p3⟩ := hc.ch hw (o := some t) (fun x hx => by cases hx; exact ht)
      have ep : pch a t = pl := chl_eq p1 p2
      rw [ep] at u1
      have hu := p3 _ u1
      have h7 := hw.nf hu
      unfold sp_ofField
      split
      · cases o with
        | none => intro h0; exact absurd h0 (show ¬ (4 : Int32) = 0 by decide)
        | some o =>
          dsimp only
          cases a.2.1 18 (12 * o + uk.1) with
          | none => intro h0; exact absurd h0 (show ¬ (5 : Int32) = 0 by decide)
          | some h =>
            dsimp only
            split
            · intro _ h9
              rcases h9 with h9 | h9
              · exact absurd h9 (show ¬ (20 : Nat) = 14 by decide)
              · exact absurd h9.1 (show ¬ (20 : Nat) = 9 by decide)
            · intro h0; exact absurd h0 (show ¬ (5 : Int32) = 0 by decide)
      · intro _ h9
        rcases h9 with h9 | h9
        · exact absurd h9 (show ¬ (9 : Nat) = 14 by decide)
        · exact h9.2 (show 4 * uk.1 + uk.2 < 4 * a.1 0 0 by omega)
    | none =>
      dsimp only
      cases lcl a nm t with
      | some l =>
        dsimp only
        unfold sp_ofLocal
        split
        · intro h0; exact absurd h0 (show ¬ (6 : Int32) = 0 by decide)
        · split
          · cases o with
            | none => intro h0; exact absurd h0 (show ¬ (4 : Int32) = 0 by decide)
            | some o =>
              dsimp only
              split
              · intro _ h9
                rcases h9 with h9 | h9
                · exact absurd h9 (show ¬ (21 : Nat) = 14 by decide)
                · exact absurd h9.1 (show ¬ (21 : Nat) = 9 by decide)
              · intro h0; exact absurd h0 (show ¬ (5 : Int32) = 0 by decide)
          · intro h0; exact absurd h0 (show ¬ (7 : Int32) = 0 by decide)
      | none => exact ih _ (fun x hx => hl x (List.mem_cons_of_mem _ hx))
theorem pw_0 {p : Nat} {r : Int32 × Nat × Nat} (h : pw p r = 0) : r.1 = 0 := by
  unfold pw at h
  split at h
  · exact absurd h (by decide)
  · exact h
theorem iv_put (hi : Iv a) (x y : Int32) (v : Int64) : Go a (sp_put a x y v).2 := by
  obtain ⟨hbd, hw, hc, hO, hq, hz⟩ := id hi
  show Go a (putR a (fpl a x y) v)
  unfold putR
  split
  · rename_i hp
    refine ⟨iv_L (iv_W hi 0) v ?_, Nat.le_succ _⟩
    have h0 := pw_0 hp
    revert h0
    unfold fpl
    cases hx : ix x 8 with
    | none => intro h0; exact absurd h0 (show ¬ (-1 : Int32) = 0 by decide)
    | some p =>
      have hp8 := (ix_s hx (by decide)).1
      cases hy : ix y 8 with
      | none => intro h0; exact absurd h0 (show ¬ (-1 : Int32) = 0 by decide)
      | some nm =>
        dsimp only
        cases ho : a.2.1 22 p with
        | none => intro h0; exact absurd h0 (show ¬ (9 : Int32) = 0 by decide)
        | some o =>
          dsimp only
          have h1 := hq.2.2.1 p hp8 o ho
          have h2 := (hq.2.1 o h1).1
          obtain ⟨ts, t1, t2, t3⟩ := hw.oc' (o := some (a.1 17 o)) (fun x hx => by cases hx; exact h2)
          have e : tyO a o = ts := chl_eq t1 t2
          rw [e]
          intro h0 hk
          by_cases hlt : (fndL a nm ts (some o)).2.2 < 4 * a.1 0 0
          · exact hlt
          · exact (fnd_9 hi ts (some o) t3 h0 (hk.elim (fun h => Or.inr ⟨h, hlt⟩) Or.inl)).elim
  · exact Go.w hi _
theorem th_lt (hi : Iv a) {v : Nat} : ∀ (ts : List Nat) (o q : Option Nat), isCh (a.2.1 2) o ts → (∀ x ∈ ts, x < a.1 0 0) → (∀ r, q = some r → r < a.1 16 0 ∧ ∀ t, o = some t → isO a r t = true) → ∀ r, (thL a v ts q).2 = some r → r < a.1 16 0 := by
  obtain ⟨hbd, hw, hc, hO, hq, hz⟩ := id hi
  intro ts
  induction ts with
  | nil => intro o q _ _ _ r hr; cases hr
  | cons t ts ih =>
    intro o q hch hl hob r hr
    cases o with
    | none => exact hch.elim
    | some t' =>
      obtain ⟨rfl, h2⟩ := hch
      have ht := hl t List.mem_cons_self
      unfold thL at hr
      split at hr
      · cases q with
        | none => cases hr
        | some q' => cases hr; exact (hob _ rfl).1
      · exact ih (a.2.1 2 t) (nxt a t q) h2 (fun x hx => hl x (List.mem_cons_of_mem _ hx)) (nxt_ok hw hO ht (fun r hr => ⟨(hob r hr).1, (hob r hr).2 t rfl⟩)) r hr
theorem iv_that (hi : Iv a) (x y z : Int32) : Go a (sp_that a x y z).2 := by
  obtain ⟨hbd, hw, hc, hO, hq, hz⟩ := id hi
  have hn := hw.n12
  unfold sp_that
  cases hx : ix x 8 with
  | none => exact Go.w hi _
  | some p =>
    have hp8 := (ix_s hx (by decide)).1
    cases hy : ix y (a.1 0 0) with
    | none => exact Go.w hi _
    | some v =>
      cases hz' : ix z 8 with
      | none => exact Go.w hi _
      | some d =>
        dsimp only
        cases ho : a.2.1 22 p with
        | none => exact Go.w hi _
        | some o =>
          dsimp only
          have h1 := hq.2.2.1 p hp8 o ho
          obtain ⟨h2, h2'⟩ := hq.2.1 o h1
          obtain ⟨ts, t1, t2, t3⟩ := hw.oc' (o := some (a.1 17 o)) (fun x hx => by cases hx; exact h2)
          have e : tyO a o = ts := chl_eq t1 t2
          rw [e]
          have hlt := th_lt hi (v := v) ts (some (a.1 17 o)) (some o) t1 t3 (fun r hr => by cases hr; exact ⟨h1, fun t ht => by cases ht; exact h2'⟩)
          cases hr : (thL a v ts (some o)).2 with
          | none => exact Go.w hi _
          | some q =>
            refine ⟨iv_22 (iv_W hi _) d (fun r hr' => ?_), Nat.le_succ _⟩
            cases hr'
            exact hlt q hr
theorem iv_lambda (hi : Iv a) (x y : Int32) : Go a (sp_lambda a x y).2 := by
  obtain ⟨hbd, hw, hc, hO, hq, hz⟩ := id hi
  have hn := hw.n12
  unfold sp_lambda
  cases hx : ix x 8 with
  | none => exact Go.here hi
  | some p =>
    have hp8 := (ix_s hx (by decide)).1
    dsimp only
    cases ho : a.2.1 22 p with
    | none => exact Go.here hi
    | some o =>
      have h1 := hq.2.2.1 p hp8 o ho
      obtain ⟨h2, h2'⟩ := hq.2.1 o h1
      have hnl := hw.nl h2
      dsimp only
      cases hy : ix y (a.1 12 (a.1 17 o) + 1) with
      | none => exact Go.here hi
      | some n =>
        have hm := (ix_s hy (by omega)).1
        dsimp only
        split
        · exact Go.here hi
        · rename_i h6
          have h23 := hq.2.2.2.1
          obtain ⟨ob, hob⟩ : ∃ ob, ob = (if a.1 11 (a.1 17 o) = 0 then some o else none) := ⟨_, rfl⟩
          rw [← hob]
          have hob' : ∀ r, ob = some r → r = o := fun r hr => by
            rw [hob] at hr
            split at hr
            · cases hr; rfl
            · cases hr
          have e23 : (lamA a (a.1 17 o) ob n).1 23 0 = a.1 23 0 + 1 := by simp [lamA, aN_, aP_, blk, up2]
          have e24 : ∀ j, (lamA a (a.1 17 o) ob n).1 24 j = if j = a.1 23 0 then a.1 17 o else a.1 24 j := fun j => by simp [lamA, aN_, aP_, blk, up2]
          have e25 : ∀ j, (lamA a (a.1 17 o) ob n).2.1 25 j = if j = a.1 23 0 then ob else a.2.1 25 j := fun j => by simp [lamA, aN_, aP_, blk, up2]
          have e26 : ∀ j, (lamA a (a.1 17 o) ob n).1 26 j = if j = a.1 23 0 then n else a.1 26 j := fun j => by simp [lamA, aN_, aP_, blk, up2]
          have hb1 : Wb (aN_ a 24 (a.1 23 0) (a.1 17 o)) := wb_N hbd _ _ (by omega)
          have hb2 : Wb (aP_ (aN_ a 24 (a.1 23 0) (a.1 17 o)) 25 (a.1 23 0) ob) := wb_P hb1 _ _ (fun q hq' => by have := hob' q hq'; have := hq.1; omega)
          have hb3 : Wb (aN_ (aP_ (aN_ a 24 (a.1 23 0) (a.1 17 o)) 25 (a.1 23 0) ob) 26 (a.1 23 0) n) := wb_N hb2 _ _ (by omega)
          have hb4 : Wb (lamA a (a.1 17 o) ob n) := wb_N (blk_b hb3) 23 0 (by omega)
          refine ⟨⟨hb4, hw, hc, hO, ⟨hq.1, hq.2.1, hq.2.2.1, ?_, fun j hj => ?_⟩, hz⟩, Nat.le_succ _⟩
          · rw [e23]; omega
          · rw [e23] at hj
            rw [e24, e25, e26]
            by_cases e : j = a.1 23 0
            · rw [if_pos e, if_pos e, if_pos e]
              refine ⟨h2, ?_, fun r hr => ?_⟩
              · show n ≤ a.1 12 (a.1 17 o)
                omega
              · rw [hob' r hr]
                exact ⟨h1, h2'⟩
            · rw [if_neg e, if_neg e, if_neg e]
              exact hq.2.2.2.2 j (by omega)
end IV
