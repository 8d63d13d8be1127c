/-! Chains of outer types and of parents; what holds of every state. -/
def isCh (f : Nat → Option Nat) : Option Nat → List Nat → Prop
  | none, [] => True
  | none, _ :: _ => False
  | some _, [] => False
  | some t, x :: l => x = t ∧ isCh f (f t) l
theorem isCh_n {f : Nat → Option Nat} {l : List Nat} (h : isCh f none l) : l = [] := by
  cases l with
  | nil => rfl
  | cons x l => exact h.elim
theorem isCh_s {f : Nat → Option Nat} {t : Nat} {l : List Nat} (h : isCh f (some t) l) : ∃ l', l = t :: l' ∧ isCh f (f t) l' := by
  cases l with
  | nil => exact h.elim
  | cons x l => obtain ⟨rfl, h2⟩ := h; exact ⟨l, rfl, h2⟩
theorem isCh_u {f : Nat → Option Nat} : ∀ {l l' : List Nat} {o : Option Nat}, isCh f o l → isCh f o l' → l = l' := by
  intro l
  induction l with
  | nil =>
    intro l' o h h'
    cases o with
    | none => exact (isCh_n h').symm
    | some t => exact h.elim
  | cons x l ih =>
    intro l' o h h'
    cases o with
    | none => exact h.elim
    | some t =>
      obtain ⟨rfl, h2⟩ := h
      obtain ⟨l2, rfl, h3⟩ := isCh_s h'
      rw [ih h2 h3]
theorem isCh_mem {f : Nat → Option Nat} : ∀ {l : List Nat} {o : Option Nat} {y : Nat}, isCh f o l → y ∈ l → ∃ l', isCh f (some y) l' ∧ l'.length ≤ l.length ∧ (some y ≠ o → l'.length < l.length) ∧ ∀ z ∈ l', z ∈ l := by
  intro l
  induction l with
  | nil => intro o y _ h; cases h
  | cons x l ih =>
    intro o y h hy
    cases o with
    | none => exact h.elim
    | some t =>
      obtain ⟨rfl, h2⟩ := h
      rcases List.mem_cons.mp hy with rfl | hy
      · exact ⟨y :: l, ⟨rfl, h2⟩, Nat.le_refl _, fun q => absurd rfl q, fun z hz => hz⟩
      · obtain ⟨l', a1, a2, _, a4⟩ := ih h2 hy
        exact ⟨l', a1, Nat.le_succ_of_le a2, fun _ => Nat.lt_succ_of_le a2, fun z hz => List.mem_cons_of_mem _ (a4 z hz)⟩
theorem isCh_nd {f : Nat → Option Nat} : ∀ {l : List Nat} {o : Option Nat}, isCh f o l → l.Nodup := by
  intro l
  induction l with
  | nil => intro o _; exact List.nodup_nil
  | cons x l ih =>
    intro o h
    cases o with
    | none => exact h.elim
    | some t =>
      obtain ⟨rfl, h2⟩ := h
      refine List.nodup_cons.mpr ⟨fun hx => ?_, ih h2⟩
      obtain ⟨l', a1, a2, -, -⟩ := isCh_mem h2 hx
      have := isCh_u a1 (show isCh f (some x) (x :: l) from ⟨rfl, h2⟩)
      rw [this] at a2
      exact absurd a2 (by simp)
theorem nd_le : ∀ (m : Nat) (l : List Nat), l.Nodup → (∀ x ∈ l, x < m) → l.length ≤ m := by
  intro m
  induction m with
  | zero =>
    intro l _ h
    cases l with
    | nil => exact Nat.le_refl _
    | cons x l => exact absurd (h x List.mem_cons_self) (by omega)
  | succ m ih =>
    intro l hn h
    by_cases hm : m ∈ l
    · have h1 := ih (l.erase m) (hn.erase m) (fun x hx => by
        have h2 := (List.Nodup.mem_erase_iff hn).mp hx
        have := h x h2.2
        have := h2.1
        omega)
      rw [List.length_erase_of_mem hm] at h1
      omega
    · have := ih l hn (fun x hx => by
        have h2 := h x hx
        have : x ≠ m := fun e => hm (e ▸ hx)
        omega)
      omega
/-- the chain, by fuel -/
def chl (f : Nat → Option Nat) : Nat → Option Nat → List Nat
  | 0, _ => []
  | _ + 1, none => []
  | k + 1, some t => t :: chl f k (f t)
theorem chl_eq {f : Nat → Option Nat} : ∀ {l : List Nat} {o : Option Nat} {k : Nat}, isCh f o l → l.length ≤ k → chl f k o = l := by
  intro l
  induction l with
  | nil =>
    intro o k h _
    cases o with
    | none => cases k <;> rfl
    | some t => exact h.elim
  | cons x l ih =>
    intro o k h hk
    cases o with
    | none => exact h.elim
    | some t =>
      obtain ⟨rfl, h2⟩ := h
      cases k with
      | zero => simp at hk
      | succ k => show x :: chl f k (f x) = x :: l; rw [ih h2 (by simpa using hk)]
/-- chains that stay below n -/
def chO (n : Nat) (f : Nat → Option Nat) (o : Option Nat) : Prop := ∃ l, isCh f o l ∧ l.length ≤ 12 ∧ ∀ x ∈ l, x < n
theorem ch_lt {n : Nat} {f : Nat → Option Nat} (hc : ∀ t, t < n → ∀ p, f t = some p → p < n) : ∀ {l : List Nat} {o : Option Nat}, (∀ t, o = some t → t < n) → isCh f o l → ∀ x ∈ l, x < n := by
  intro l
  induction l with
  | nil => intro o _ _ x hx; cases hx
  | cons y l ih =>
    intro o ho h x hx
    cases o with
    | none => exact h.elim
    | some t =>
      obtain ⟨rfl, h2⟩ := h
      rcases List.mem_cons.mp hx with rfl | hx
      · exact ho x rfl
      · exact ih (fun q hq => hc y (ho y rfl) q hq) h2 x hx
theorem chO_of {n : Nat} {f : Nat → Option Nat} (hn : n ≤ 12) (hc : ∀ t, t < n → ∀ p, f t = some p → p < n) {o : Option Nat} (ho : ∀ t, o = some t → t < n) {l : List Nat} (h : isCh f o l) : l.length ≤ 12 ∧ ∀ x ∈ l, x < n := by
  have h1 := ch_lt hc ho h
  exact ⟨Nat.le_trans (nd_le n l (isCh_nd h) h1) hn, h1⟩
theorem Wt.n12 {a : aS} (h : Wt a) : a.1 0 0 ≤ 12 := h.1
theorem Wt.b10 {a : aS} (h : Wt a) (j : Nat) : a.1 10 j ≤ 1 := (h.2.1 j).1
theorem Wt.b11 {a : aS} (h : Wt a) (j : Nat) : a.1 11 j ≤ 1 := (h.2.1 j).2.1
theorem Wt.b15 {a : aS} (h : Wt a) (j : Nat) : a.1 15 j ≤ 1 := (h.2.1 j).2.2
section WT
variable {a : aS} (h : Wt a) {t : Nat} (ht : t < a.1 0 0)
theorem Wt.kd (h : Wt a) (ht : t < a.1 0 0) : a.1 1 t ≤ 5 := (h.2.2 t ht).1
theorem Wt.o0 (h : Wt a) (ht : t < a.1 0 0) : a.1 1 t = 0 → a.2.1 2 t = none := (h.2.2 t ht).2.1
theorem Wt.o1 (h : Wt a) (ht : t < a.1 0 0) : a.1 1 t ≠ 0 → ∃ o, o < t ∧ a.2.1 2 t = some o := (h.2.2 t ht).2.2.1
theorem Wt.l5 (h : Wt a) (ht : t < a.1 0 0) : a.1 1 t = 5 → a.2.1 3 t = none := (h.2.2 t ht).2.2.2.1
theorem Wt.l1 (h : Wt a) (ht : t < a.1 0 0) : a.1 1 t ≠ 5 → ∃ c, c < 26 ∧ a.2.1 3 t = some c := (h.2.2 t ht).2.2.2.2.1
theorem Wt.nf (h : Wt a) (ht : t < a.1 0 0) : a.1 7 t ≤ 4 := (h.2.2 t ht).2.2.2.2.2.1
theorem Wt.nl (h : Wt a) (ht : t < a.1 0 0) : a.1 12 t ≤ 4 := (h.2.2 t ht).2.2.2.2.2.2.1
theorem Wt.a0 (h : Wt a) (ht : t < a.1 0 0) : a.1 1 t < 3 → a.1 5 t = 0 := (h.2.2 t ht).2.2.2.2.2.2.2.1
theorem Wt.a1 (h : Wt a) (ht : t < a.1 0 0) : ∀ o, 3 ≤ a.1 1 t → a.2.1 2 t = some o → a.1 5 t ≤ a.1 12 o := (h.2.2 t ht).2.2.2.2.2.2.2.2.1
theorem Wt.pa (h : Wt a) (ht : t < a.1 0 0) : ∀ p, a.2.1 6 t = some p → p < a.1 0 0 := (h.2.2 t ht).2.2.2.2.2.2.2.2.2.1
theorem Wt.nu (h : Wt a) (ht : t < a.1 0 0) : 1 ≤ a.1 4 t ∧ a.1 4 t ≤ 12 := (h.2.2 t ht).2.2.2.2.2.2.2.2.2.2
theorem Wt.ou (h : Wt a) (ht : t < a.1 0 0) {o : Nat} (ho : a.2.1 2 t = some o) : o < t ∧ a.1 1 t ≠ 0 := by
  by_cases hk : a.1 1 t = 0
  · rw [h.o0 ht hk] at ho; cases ho
  · obtain ⟨w, h1, h2⟩ := h.o1 ht hk
    rw [h2] at ho; cases ho
    exact ⟨h1, hk⟩
theorem Wt.ah (h : Wt a) (ht : t < a.1 0 0) {o : Nat} (ho : a.2.1 2 t = some o) : a.1 5 t ≤ a.1 12 o := by
  by_cases hk : a.1 1 t < 3
  · rw [h.a0 ht hk]; omega
  · exact h.a1 ht o (by omega) ho
theorem Wt.a4 (h : Wt a) (ht : t < a.1 0 0) : a.1 5 t ≤ 4 := by
  by_cases hk : a.1 1 t < 3
  · rw [h.a0 ht hk]; omega
  · obtain ⟨o, h1, h2⟩ := h.o1 ht (by omega)
    have := h.ah ht h2
    have := h.nl (t := o) (by omega)
    omega
end WT
theorem Wt.oc {a : aS} (h : Wt a) : ∀ t, t < a.1 0 0 → ∃ l, isCh (a.2.1 2) (some t) l := by
  intro t
  induction t using Nat.strongRecOn with
  | _ t ih =>
    intro ht
    cases ho : a.2.1 2 t with
    | none => exact ⟨[t], rfl, by rw [ho]; trivial⟩
    | some o =>
      obtain ⟨h1, -⟩ := h.ou ht ho
      obtain ⟨l, hl⟩ := ih o h1 (by omega)
      exact ⟨t :: l, rfl, by rw [ho]; exact hl⟩
theorem Wt.oc' {a : aS} (h : Wt a) {o : Option Nat} (ho : ∀ t, o = some t → t < a.1 0 0) : ∃ l, isCh (a.2.1 2) o l ∧ l.length ≤ 12 ∧ ∀ x ∈ l, x < a.1 0 0 := by
  obtain ⟨l, hl⟩ : ∃ l, isCh (a.2.1 2) o l := by
    cases o with
    | none => exact ⟨[], trivial⟩
    | some t => exact h.oc t (ho t rfl)
  exact ⟨l, hl, chO_of h.n12 (fun t ht p hp => by have := (h.ou ht hp).1; omega) ho hl⟩
/-- parents go up to an end -/
def Wc (a : aS) : Prop := ∀ t, t < a.1 0 0 → ∃ l, isCh (a.2.1 6) (some t) l
theorem Wc.ch {a : aS} (hc : Wc a) (h : Wt a) {o : Option Nat} (ho : ∀ t, o = some t → t < a.1 0 0) : ∃ l, isCh (a.2.1 6) o l ∧ l.length ≤ 12 ∧ ∀ x ∈ l, x < a.1 0 0 := by
  obtain ⟨l, hl⟩ : ∃ l, isCh (a.2.1 6) o l := by
    cases o with
    | none => exact ⟨[], trivial⟩
    | some t => exact hc t (ho t rfl)
  exact ⟨l, hl, chO_of h.n12 (fun t ht p hp => h.pa ht p hp) ho hl⟩
/-- bound to an object of the outer type -/
def bd (a : aS) (t : Nat) : Bool := a.1 1 t == 2 || ((a.1 1 t == 3 || a.1 1 t == 5) && (match a.2.1 2 t with | some o => a.1 11 o == 0 | none => false))
/-- the object has a level of the type -/
def isO (a : aS) (o t : Nat) : Bool := (a.2.1 18 (12 * o + t)).isSome
/-- what holds of objects: b of them (or b levels in the making) -/
def Wo (a : aS) (b : Nat) : Prop := ∀ o, o < b → ∀ u, u < 12 → isO a o u = true → u < a.1 0 0 ∧ (∀ q, a.2.1 18 (12 * o + u) = some q → q ≤ a.1 7 u) ∧ ∀ o', a.2.1 19 (12 * o + u) = some o' → bd a u = true ∧ o' < a.1 16 0 ∧ ∀ w, a.2.1 2 u = some w → isO a o' w = true
def Wq (a : aS) : Prop := a.1 16 0 < 520 ∧ (∀ o, o < a.1 16 0 → a.1 17 o < a.1 0 0 ∧ isO a o (a.1 17 o) = true) ∧ (∀ p, p < 8 → ∀ o, a.2.1 22 p = some o → o < a.1 16 0) ∧ a.1 23 0 ≤ 6 ∧ ∀ j, j < a.1 23 0 → a.1 24 j < a.1 0 0 ∧ a.1 26 j ≤ a.1 12 (a.1 24 j) ∧ ∀ o, a.2.1 25 j = some o → o < a.1 16 0 ∧ isO a o (a.1 24 j) = true
/-- nothing is written beyond what there is -/
def Wz (a : aS) : Prop := (∀ t, a.1 0 0 ≤ t → a.1 7 t = 0 ∧ a.1 11 t = 0 ∧ a.1 12 t = 0) ∧ (∀ j, 4 * a.1 0 0 ≤ j → a.1 8 j = 0 ∧ a.2.2.1 9 j = 0 ∧ a.1 10 j = 0 ∧ a.1 13 j = 0 ∧ a.2.2.1 14 j = 0 ∧ a.1 15 j = 0)
def Iv (a : aS) : Prop := Wb a ∧ Wt a ∧ Wc a ∧ Wo a (a.1 16 0) ∧ Wq a ∧ Wz a
