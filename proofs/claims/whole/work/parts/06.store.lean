/-! The store: what the machine's heap holds, as a function of the address, and the next free address. A method's contract speaks of the whole store; every row below turns the machine's step into a step of the store. -/
abbrev hmS : Type := (Nat → Option va_E) × Nat
/-- what never changes in a run of the law: the classes' numbers and slots, the array kinds' classes, the first address that is ours, the heap at the start, the addresses of static arrays -/
abbrev hmG : Type := va_G × (Nat → ClassId) × Nat × Heap × (Nat → Nat)
abbrev hmD (E : hmG) : va_G := E.1
abbrev hmA (E : hmG) : Nat → ClassId := E.2.1
abbrev hmL (E : hmG) : Nat := E.2.2.1
abbrev hmH (E : hmG) : Heap := E.2.2.2.1
abbrev hmZ (E : hmG) : Nat → Nat := E.2.2.2.2
/-- the library's formatter of messages, which is never used: null or not -/
def hmq (E : hmG) : Option Nat := match hmZ E 3 with
  | 0 => none
  | t + 1 => some t
/-- the kinds of arrays: 0 int, 1 long, 2 boolean, 3 byte, 4 to 7 of the class's own objects; read only: 8 the empty row, 9 the script, 10 and 11 the digits -/
def hmT (k : Nat) : FieldType := match k with
  | 0 => .int
  | 1 => .long
  | 2 => .boolean
  | 3 => .byte
  | 4 => .object "InnerCaptures$Type"
  | 5 => .object "InnerCaptures$Thing"
  | 6 => .object "InnerCaptures$Lambda"
  | 7 => .object "InnerCaptures$Level"
  | 8 => .long
  | 9 => .int
  | _ => .byte
abbrev hmX : Type := (Nat → Int32) ⊕ (Nat → Int64) ⊕ (Nat → UInt32) ⊕ (Nat → UInt64) ⊕ (Nat → Option Nat)
def hmV (x : hmX) (j : Nat) : Value := match x with
  | .inl f => .int (f j)
  | .inr (.inl f) => .long (f j)
  | .inr (.inr (.inl f)) => .float (f j)
  | .inr (.inr (.inr (.inl f))) => .double (f j)
  | .inr (.inr (.inr (.inr f))) => va_rf (f j)
def hmAt (E : hmG) (a : Nat) (e : va_E) (H : Heap) : Prop := match e with
  | .inl x => ∃ cell : Cell, H[a]? = some cell ∧ cell.cls = hmA E x.1 ∧ (∀ z, cell.vm ≠ .statics z) ∧ cell.vm ≠ .unknown ∧ x.2.1 ≤ cell.slots.size ∧ cell.slots.size.toInt32 = Int32.ofNat x.2.1 ∧ (∀ j, j < x.2.1 → cell.slots[j]? = some (hmV x.2.2 j)) ∧ x.1 < 12 ∧ (x.1 < 8 → hmL E ≤ a ∧ cell = arrV (hmA E x.1) x.2.1 (hmV x.2.2))
  | .inr o => hmL E ≤ a ∧ ∃ r : vw_C, vwCl[o.1]? = some r ∧ t_OB a ((hmD E).1 o.1) r.2.2 ((hmD E).2 o.1) H (vp_V o.2)
theorem hmAt.kept {E : hmG} {a : Nat} {e : va_E} {H H1 : Heap} (h : hmAt E a e H) (hq : H1[a]? = H[a]?) : hmAt E a e H1 := by
  cases e with
  | inl x => obtain ⟨cell, h1, h2⟩ := h; exact ⟨cell, by rw [hq]; exact h1, h2⟩
  | inr o => obtain ⟨h0, r, h1, h2⟩ := h; exact ⟨h0, r, h1, h2.kept hq⟩
theorem hmAt.lt {E : hmG} {a : Nat} {e : va_E} {H : Heap} (h : hmAt E a e H) : a < H.size := by
  cases e with
  | inl x => obtain ⟨cell, h1, -⟩ := h; exact (Array.getElem?_eq_some_iff.mp h1).1
  | inr o => obtain ⟨h0, r, h1, cell, h2, -⟩ := h; exact (Array.getElem?_eq_some_iff.mp h2).1
def hmI (E : hmG) (σ : hmS) (H : Heap) : Prop := H.size = σ.2 ∧ hmL E ≤ σ.2 ∧ (∀ q, q < hmL E → H[q]? = (hmH E)[q]?) ∧ ∀ (a : Nat) (e : va_E), σ.1 a = some e → hmAt E a e H
/-- the store with another cell at an address -/
def hmU (σ : hmS) (a : Nat) (e : va_E) : hmS := (va_up σ.1 a (some e), σ.2)
/-- the store with a new cell, at the next address -/
def hmN (σ : hmS) (e : va_E) : hmS := (va_up σ.1 σ.2 (some e), σ.2 + 1)
theorem hmI.set {E : hmG} {σ : hmS} {H H1 : Heap} {a : Nat} {e : va_E} (h : hmI E σ H) (hz : H1.size = H.size) (ho : ∀ q, q ≠ a → H1[q]? = H[q]?) (ha : hmL E ≤ a) (he : hmAt E a e H1) : hmI E (hmU σ a e) H1 := by
  obtain ⟨h1, h2, h3, h4⟩ := h
  refine ⟨by rw [hz]; exact h1, h2, fun q hq => by rw [ho q (by omega)]; exact h3 q hq, fun b eb hb => ?_⟩
  by_cases hba : b = a
  · subst hba
    have : some e = some eb := by rw [← hb]; exact (va_up_self _ _ _).symm
    cases this
    exact he
  · have hb' : σ.1 b = some eb := by rw [← hb]; exact (va_up_ne _ _ hba).symm
    exact (h4 b eb hb').kept (ho b hba)
theorem hmI.push {E : hmG} {σ : hmS} {H H1 : Heap} {e : va_E} (h : hmI E σ H) (hz : H1.size = σ.2 + 1) (ho : ∀ q, q < σ.2 → H1[q]? = H[q]?) (he : hmAt E σ.2 e H1) : hmI E (hmN σ e) H1 := by
  obtain ⟨h1, h2, h3, h4⟩ := h
  refine ⟨hz, Nat.le_succ_of_le h2, fun q hq => by rw [ho q (Nat.lt_of_lt_of_le hq h2)]; exact h3 q hq, fun b eb hb => ?_⟩
  by_cases hba : b = σ.2
  · subst hba
    have : some e = some eb := by rw [← hb]; exact (va_up_self _ _ _).symm
    cases this
    exact he
  · have hb' : σ.1 b = some eb := by rw [← hb]; exact (va_up_ne _ _ hba).symm
    have hl : b < σ.2 := by rw [← h1]; exact (h4 b eb hb').lt
    exact (h4 b eb hb').kept (ho b hl)
/-- that the private methods of StringBuilder's superclass are selected on a StringBuilder -/
def hmPv : List Cond := [(⟨"java/lang/AbstractStringBuilder", "ensureCapacityInternal", "(I)V"⟩ : MethodName), ⟨"java/lang/AbstractStringBuilder", "newCapacity", "(I)I"⟩, ⟨"java/lang/AbstractStringBuilder", "putStringAt", "(ILjava/lang/String;)V"⟩, ⟨"java/lang/AbstractStringBuilder", "inflateIfNeededFor", "(Ljava/lang/String;)V"⟩, ⟨"java/lang/AbstractStringBuilder", "inflate", "()V"⟩, ⟨"java/lang/AbstractStringBuilder", "appendNull", "()Ljava/lang/AbstractStringBuilder;"⟩].map fun y => Cond.selects "java/lang/StringBuilder" y y
theorem hm_tb {i : Nat} {w : Cond} (h : tables_1[i]? = some w) : w ∈ hmPv ++ lw_tbl := List.mem_append_right _ (List.mem_append_right _ (List.mem_of_getElem? h))
/-- the words of the tables that stay true as classes are linked -/
def hmWd (s : State) : Prop := ∀ w ∈ hmPv ++ lw_tbl, goodWord w = true → ∀ A : Array Value, w.before A s = true
/-- what the state of the machine is at every entry of a method of ours -/
def hmK (E : hmG) (s : State) : Prop :=
  (∀ (c : Nat) (q : vw_C), vwCl[c]? = some q → u_Kn s q.1 q.2.1 q.2.2 ((hmD E).1 c) ((hmD E).2 c)) ∧
  (∀ (c : Nat) (q : vw_C), vwCl[c]? = some q → ∀ x y, x < q.2.2 → y < q.2.2 → x ≠ y → (hmD E).2 c x ≠ (hmD E).2 c y) ∧
  hmWd s ∧
  (∀ k, k < 12 → ∃ (kA : Class) (comp : ClassId), s.vm.classes[hmA E k]? = some kA ∧ kA.kind = .array comp (hmT k)) ∧
  (∀ k, k < 8 → va_RA s (hmA E k) (hmT k)) ∧
  (va_Nw (.methodLinkNest "InnerCaptures" 39 ⟨"InnerCaptures$Cell", "<init>", "()V"⟩ "InnerCaptures") s ∧ va_Nw (.methodLinkNest "InnerCaptures$Type" 11 ⟨"InnerCaptures$Fields", "<init>", "()V"⟩ "InnerCaptures") s ∧ va_Nw (.methodLinkNest "InnerCaptures$Type" 20 ⟨"InnerCaptures$Locals", "<init>", "()V"⟩ "InnerCaptures") s ∧ va_Nw (.methodLinkNest "InnerCaptures$Type" 46 ⟨"InnerCaptures", "standsInMethod", "(I)Z"⟩ "InnerCaptures") s) ∧
  (va_Nw (.fieldLinkNest "InnerCaptures$Cell" 7 "InnerCaptures" "NO_CELLS" "[J" "InnerCaptures") s ∧ va_Nw (.fieldLinkNest "InnerCaptures$Fields" 31 "InnerCaptures" "NO_CELLS" "[J" "InnerCaptures") s ∧ va_Nw (.fieldLinkNest "InnerCaptures$Locals" 37 "InnerCaptures" "NO_CELLS" "[J" "InnerCaptures") s ∧ va_Nw (.fieldLinkNest "InnerCaptures$Type" 88 "InnerCaptures" "NO_CELLS" "[J" "InnerCaptures") s) ∧
  (va_Nw (.castable "[B" "java/lang/Cloneable") s ∧ va_Nw (.castable "[J" "java/lang/Cloneable") s) ∧
  (∀ k, 4 ≤ k → k < 8 → ∀ C, hmT k = .object C → va_AO C s) ∧
  va_Z "InnerCaptures" "NO_CELLS" "[J" (.ref (hmZ E 0)) (fun q => hmL E ≤ q) s (hmH E) ∧
  va_Z "java/lang/Integer" "DigitOnes" "[B" (.ref (hmZ E 1)) (fun q => hmL E ≤ q) s (hmH E) ∧
  va_Z "java/lang/Integer" "DigitTens" "[B" (.ref (hmZ E 2)) (fun q => hmL E ≤ q) s (hmH E) ∧
  va_Z "java/lang/String" "COMPACT_STRINGS" "Z" (.int 1) (fun q => hmL E ≤ q) s (hmH E) ∧
  va_Z "jdk/internal/util/Preconditions" "SIOOBE_FORMATTER" "Ljava/util/function/BiFunction;" (va_rf (hmq E)) (fun q => hmL E ≤ q) s (hmH E)
theorem hmWd.warm {s U : State} (hW : s.WarmedH U.vm) (h : hmWd s) : hmWd U := fun w hw hg A => word_at (args := #[]) hW (good_of_word hg) (h w hw hg #[])
theorem hm_arrK {s U : State} (hvm : s.vm.Alike U.vm) {c : ClassId} {ty : FieldType} (h : ∃ (kA : Class) (comp : ClassId), s.vm.classes[c]? = some kA ∧ kA.kind = .array comp ty) : ∃ (kA : Class) (comp : ClassId), U.vm.classes[c]? = some kA ∧ kA.kind = .array comp ty := by
  obtain ⟨kA, comp, h1, h2⟩ := h
  obtain ⟨k', hk', he⟩ := hvm.2.2 _ _ h1
  exact ⟨k', comp, hk', by rw [he]; exact h2⟩
theorem hmK.warm {E : hmG} {s U : State} (hW : s.WarmedH U.vm) (h : hmK E s) : hmK E U := by
  obtain ⟨h1, h2, h3, h4, h5, ⟨m1, m2, m3, m4⟩, ⟨f1, f2, f3, f4⟩, ⟨c1, c2⟩, ao, z1, z2, z3, z4, z5⟩ := h
  have hvm := hW.alike
  exact ⟨fun c q hq => u_Kn_moved hvm (h1 c q hq), h2, h3.warm hW, fun k hk => hm_arrK hvm (h4 k hk), fun k hk => (h5 k hk).moved hvm, ⟨m1.warmM hW, m2.warmM hW, m3.warmM hW, m4.warmM hW⟩, ⟨f1.warmF hW, f2.warmF hW, f3.warmF hW, f4.warmF hW⟩, ⟨c1.warmC hW, c2.warmC hW⟩, fun k h1 h2 C hC => va_AO.moved hvm (ao k h1 h2 C hC), z1.moved hvm, z2.moved hvm, z3.moved hvm, z4.moved hvm, z5.moved hvm⟩
theorem hm_tblOn : lw_tbl.all (fun w => !goodWord w || w.onTables || (match w with | .arrayClass _ => true | _ => false)) = true := by decide +kernel
def hmPc (E : hmG) (av : List Value) (σ : hmS) : Array Value → State → Prop := fun v U => v = av.toArray ∧ hmK E U ∧ hmI E σ U.heap
def hmQc (E : hmG) (rv : Option Value) (σ : hmS) : Array Value → State → Outcome → State → Prop := fun _ _ o t => o = .returned rv ∧ hmI E σ t.heap
def hmLo (E : hmG) (locs : List Loc) : Prop := ∀ q ∈ locs, hmL E ≤ q.base
theorem hmLo.nil {E : hmG} : hmLo E [] := fun _ h => by cases h
theorem hmLo.put {E : hmG} {locs : List Loc} {a i : Nat} (h : hmLo E locs) (ha : hmL E ≤ a) : hmLo E (locs ++ [⟨a, i⟩]) := fun q hq => by
  rcases List.mem_append.mp hq with h1 | h1
  · exact h q h1
  · rw [List.mem_singleton.mp h1]; exact ha
theorem hmLo.app {E : hmG} {locs L : List Loc} (h : hmLo E locs) (hL : ∀ q ∈ L, hmL E ≤ q.base) : hmLo E (locs ++ L) := fun q hq => by
  rcases List.mem_append.mp hq with h1 | h1
  · exact h q h1
  · exact hL q h1
