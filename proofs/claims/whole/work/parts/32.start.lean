/-! The law's entry gives the environment and the first store. -/
def dgO (j : Nat) : Int32 := nI (48 + j % 10)
def dgT (j : Nat) : Int32 := nI (48 + j / 10 % 10)
theorem st_flO : (List.range 100).map (fun j => Cond.eq (.elem (.static "java/lang/Integer" "DigitOnes" "[B") (.int (Int32.ofNat j))) (.int (dgO j))) = ((flatC (Jvm.Cond.and given_1 narrow_1)).drop 15).take 100 := by decide +kernel
theorem st_flT : (List.range 100).map (fun j => Cond.eq (.elem (.static "java/lang/Integer" "DigitTens" "[B") (.int (Int32.ofNat j))) (.int (dgT j))) = ((flatC (Jvm.Cond.and given_1 narrow_1)).drop 118).take 100 := by decide +kernel
theorem st_fl {args : Array Value} {s : State} (h : (Jvm.Cond.and given_1 narrow_1).before args s = true) (i : Nat) {w : Cond} (hw : (flatC (Jvm.Cond.and given_1 narrow_1))[i]? = some w) : w.before args s = true := flat_of_before _ h _ (List.mem_of_getElem? hw)
theorem st_ty {s : State} {cell : Cell} {t u : FieldType} (h1 : s.isArrayOf cell t) (h2 : s.isArrayOf cell u) : t = u := by
  obtain ⟨-, k, hk, c, hkk⟩ := h1
  obtain ⟨-, k', hk', c', hkk'⟩ := h2
  cases hk.symm.trans hk'
  rw [hkk] at hkk'
  cases hkk'
  rfl
/-- the first store: the script, the empty row, the digits -/
def st_M (x0 z0 z1 z2 L : Nat) (xs : Nat → Int32) : Nat → Option va_E := fun a => if a = x0 then some (.inl (9, L, .inl xs)) else if a = z0 then some (.inl (8, 0, .inr (.inl (fun _ => 0)))) else if a = z1 then some (.inl (10, 100, .inl dgO)) else if a = z2 then some (.inl (11, 100, .inl dgT)) else none
def st_ok (E : hmG) (x0 L : Nat) (xs : Nat → Int32) (σ : hmS) : Prop := σ.2 = hmL E ∧ σ.1 x0 = some (.inl (9, L, .inl xs)) ∧ σ.1 (hmZ E 0) = some (.inl (8, 0, .inr (.inl (fun _ => 0)))) ∧ σ.1 (hmZ E 1) = some (.inl (10, 100, .inl dgO)) ∧ σ.1 (hmZ E 2) = some (.inl (11, 100, .inl dgT)) ∧ (x0 < hmL E ∧ hmZ E 0 < hmL E ∧ hmZ E 1 < hmL E ∧ hmZ E 2 < hmL E)
set_option maxHeartbeats 4000000 in
set_option maxRecDepth 100000 in
theorem law_env {p : Program} {s : State} {m : MethodId} {meth : Method} {c : Code} {x0 L : Nat} {xs : Nat → Int32} (hLn : L ≤ 3072) (C0 : lw_At p s m meth c x0 L xs) : ∃ (E : hmG) (σ : hmS), hmL E = s.heap.size ∧ hmK E s ∧ hmI E σ s.heap ∧ st_ok E x0 L xs σ := by
  obtain ⟨hx, hb, hr, hml, hown, hts, hX, hbl, hlocks, hgv⟩ := C0
  have tb : ∀ (i : Nat) {w : Cond}, tables_1[i]? = some w → w.before #[Value.ref x0] s = true := fun i w h => hts w (List.mem_append_right _ (List.mem_of_getElem? h))
  have hA : ∀ a : Nat, a < s.heap.size → ¬ (fun q : Nat => s.heap.size ≤ q) a := fun a h => Nat.not_le.mpr h
  -- classes
  have hcl : ∀ (k : Nat) (q : vw_C), vwCl[k]? = some q → ∃ (cC : ClassId) (iS : Nat → Nat), u_Kn s q.1 q.2.1 q.2.2 cC iS ∧ ∀ x y, x < q.2.2 → y < q.2.2 → x ≠ y → iS x ≠ iS y := by
    have one : ∀ (C : String) (T : u_T) (N : Nat) (ty : Nat → FieldType) (i : Nat), (∀ w ∈ u_ws C T N, w ∈ lw_tbl ∧ goodWord w = true) → tables_1[i]? = some (Cond.instantiable C N) → (∀ k, k < N → parseFieldDescriptor (T k).2.2.1 = some (ty k)) → (∀ a, a < N → ∀ b, b < N → a ≠ b → (T a).2.1 ≠ (T b).2.1) → ∃ (cC : ClassId) (iS : Nat → Nat), u_Kn s C T N cC iS ∧ ∀ x y, x < N → y < N → x ≠ y → iS x ≠ iS y := by
      intro C T N ty i hin hi hty hnm
      obtain ⟨cC, iS, hKn⟩ := u_known (C := C) (T := T) (N := N) (n := N) hts (fun w hw => (hin w hw).1) (tb i hi)
      refine ⟨cC, iS, hKn, ?_⟩
      intro x y hx hy hne
      obtain ⟨hS, -⟩ := hKn
      obtain ⟨_, _, _, fa, hia, ea⟩ := hS x hx
      obtain ⟨_, _, _, fb, hib, eb⟩ := hS y hy
      rw [← ea, ← eb]
      refine u_apart (u_lays hts (fun w hw => (hin w hw).1) hx) (u_lays hts (fun w hw => (hin w hw).1) hy) hia hib ?_
      rw [(State.fieldFound?_type hia (hty x hx)).1, (State.fieldFound?_type hib (hty y hy)).1]
      exact hnm x hx y hy hne
    intro k q hq
    match k, hq with
    | 0, hq => cases hq; exact one _ _ _ tyJ0 367 in_J0 (by decide +kernel) tyJ0_ok nmJ0
    | 1, hq => cases hq; exact one _ _ _ tyJ4 164 in_J4 (by decide +kernel) tyJ4_ok nmJ4
    | 2, hq => cases hq; exact one _ _ _ tyX0 36 in_X0 (by decide +kernel) tyX0_ok nmX0
    | 3, hq => cases hq; exact one _ _ _ tyX1 115 in_X1 (by decide +kernel) tyX1_ok nmX1
    | 4, hq => cases hq; exact one _ _ _ tyX2 725 in_X2 (by decide +kernel) tyX2_ok nmX2
    | 5, hq => cases hq; exact one _ _ _ tyX3 573 in_X3 (by decide +kernel) tyX3_ok nmX3
    | 6, hq => cases hq; exact one _ _ _ tyX4 139 in_X4 (by decide +kernel) tyX4_ok nmX4
    | 7, hq => cases hq; exact one _ _ _ tyX5 620 in_X5 (by decide +kernel) tyX5_ok nmX5
    | 8, hq => cases hq; exact one _ _ _ tyX6 109 in_X6 (by decide +kernel) tyX6_ok nmX6
    | 9, hq => cases hq; exact one _ _ _ tyX7 22 in_X7 (by decide +kernel) tyX7_ok nmX7
    | 10, hq => cases hq; exact one _ _ _ tyX8 770 in_X8 (by decide +kernel) tyX8_ok nmX8
    | k + 11, hq => simp [vwCl] at hq
  obtain ⟨dC, dI, hD⟩ : ∃ (dC : Nat → ClassId) (dI : Nat → Nat → Nat), ∀ (k : Nat) (q : vw_C), vwCl[k]? = some q → u_Kn s q.1 q.2.1 q.2.2 (dC k) (dI k) ∧ ∀ x y, x < q.2.2 → y < q.2.2 → x ≠ y → dI k x ≠ dI k y := by
    have h : ∀ k : Nat, ∃ (z : ClassId × (Nat → Nat)), ∀ (q : vw_C), vwCl[k]? = some q → u_Kn s q.1 q.2.1 q.2.2 z.1 z.2 ∧ ∀ x y, x < q.2.2 → y < q.2.2 → x ≠ y → z.2 x ≠ z.2 y := by
      intro k
      cases hq : vwCl[k]? with
      | none => exact ⟨(0, fun _ => 0), fun q h => by cases h⟩
      | some q =>
        obtain ⟨cC, iS, h1, h2⟩ := hcl k q hq
        exact ⟨(cC, iS), fun q' h => by cases h; exact ⟨h1, h2⟩⟩
    exact ⟨fun k => (Classical.choose (h k)).1, fun k => (Classical.choose (h k)).2, fun k q hq => Classical.choose_spec (h k) q hq⟩
  -- statics
  obtain ⟨z0, hz0, hT0⟩ := va_Tof (args := #[Value.ref x0]) (s := s) (tm := .static "InnerCaptures" "NO_CELLS" "[J") (ty := .long) (N := 0) (f := fun _ => .long 0) (A := fun q : Nat => s.heap.size ≤ q) (by decide) (st_fl hgv 5 (by decide +kernel)) (va_eqt (st_fl hgv 6 (by decide +kernel))) (fun j hj => by omega) hA
  obtain ⟨z1, hz1, hT1⟩ := va_Tof (args := #[Value.ref x0]) (s := s) (tm := .static "java/lang/Integer" "DigitOnes" "[B") (ty := .byte) (N := 100) (f := fun j => .int (dgO j)) (A := fun q : Nat => s.heap.size ≤ q) (by decide) (st_fl hgv 13 (by decide +kernel)) (va_eqt (st_fl hgv 14 (by decide +kernel))) (fun j hj => va_eqt (flat_of_before _ hgv _ (va_run st_flO j hj))) hA
  obtain ⟨z2, hz2, hT2⟩ := va_Tof (args := #[Value.ref x0]) (s := s) (tm := .static "java/lang/Integer" "DigitTens" "[B") (ty := .byte) (N := 100) (f := fun j => .int (dgT j)) (A := fun q : Nat => s.heap.size ≤ q) (by decide) (st_fl hgv 116 (by decide +kernel)) (va_eqt (st_fl hgv 117 (by decide +kernel))) (fun j hj => va_eqt (flat_of_before _ hgv _ (va_run st_flT j hj))) hA
  have Z0 := va_Zref (A := fun q : Nat => s.heap.size ≤ q) (tb 42 (by decide +kernel)) (tb 1 (by decide +kernel)) hz0 hA
  have Z1 := va_Zref (A := fun q : Nat => s.heap.size ≤ q) (tb 351 (by decide +kernel)) (tb 17 (by decide +kernel)) hz1 hA
  have Z2 := va_Zref (A := fun q : Nat => s.heap.size ≤ q) (tb 353 (by decide +kernel)) (tb 17 (by decide +kernel)) hz2 hA
  have Z3 := va_Zof (A := fun q : Nat => s.heap.size ≤ q) (tb 173 (by decide +kernel)) (tb 9 (by decide +kernel)) (va_eqi (C := "java/lang/String") (n := "COMPACT_STRINGS") (d := "Z") (z := 1) (st_fl hgv 7 (by decide +kernel))) hA
  obtain ⟨z3, Z4⟩ : ∃ z3 : Nat, va_Z "jdk/internal/util/Preconditions" "SIOOBE_FORMATTER" "Ljava/util/function/BiFunction;" (va_rf (match z3 with | 0 => none | t + 1 => some t)) (fun q : Nat => s.heap.size ≤ q) s s.heap := by
    rcases va_Zqof (A := fun q : Nat => s.heap.size ≤ q) (C := "jdk/internal/util/Preconditions") (n := "SIOOBE_FORMATTER") (d := "Ljava/util/function/BiFunction;") (tb 259 (by decide +kernel)) (tb 15 (by decide +kernel)) (st_fl hgv 8 (by decide +kernel)) hA with h | ⟨t, h⟩
    · exact ⟨0, h⟩
    · exact ⟨t + 1, h⟩
  -- arrays
  obtain ⟨cell0, a1, a2, a3, a4, a5, a6, a7⟩ := hT0
  obtain ⟨cell1, b1, b2, b3, b4, b5, b6, b7⟩ := hT1
  obtain ⟨cell2, c1, c2, c3, c4, c5, c6, c7⟩ := hT2
  obtain ⟨scr, d1, d2, d3, d4, d5⟩ := hX
  have hpr : ∀ (ty : FieldType) (i : Nat), tables_1[i]? = some (Cond.arrayClass ty) → ∃ cA : ClassId, s.vm.findClass ("[" ++ ty.toString) = some cA ∧ ∃ (kA : Class) (comp : ClassId), s.vm.classes[cA]? = some kA ∧ kA.kind = .array comp ty := by
    intro ty i h
    obtain ⟨cA, k, comp, h1, h2, h3⟩ := Cond.arrayClass_spec (tb i h)
    exact ⟨cA, h1, k, comp, h2, h3⟩
  have hob : ∀ (C : String) (i : Nat), tables_1[i]? = some (Cond.arrayOver (.object C)) → ∃ cA : ClassId, va_AO C s ∧ ∃ (kA : Class) (comp : ClassId), s.vm.classes[cA]? = some kA ∧ kA.kind = .array comp (.object C) ∧ s.vm.findClass C = some comp ∧ s.vm.findClass ("[" ++ (FieldType.object C).toString) = some cA := by
    intro C i h
    obtain ⟨comp, cA, k, h1, h2, h3, h4, h5⟩ := Cond.arrayOver_spec (tb i h)
    exact ⟨cA, va_AO.of (tb i h), k, comp, h3, h4, h1, h5⟩
  obtain ⟨e0, f0, g0⟩ := hpr .int 135 (by decide +kernel)
  obtain ⟨e1, f1, g1⟩ := hpr .long 136 (by decide +kernel)
  obtain ⟨e2, f2, g2⟩ := hpr .boolean 137 (by decide +kernel)
  obtain ⟨e3, f3, g3⟩ := hpr .byte 194 (by decide +kernel)
  obtain ⟨e4, o4, k4, m4, p4, q4, r4, t4⟩ := hob "InnerCaptures$Type" 30 (by decide +kernel)
  obtain ⟨e5, o5, k5, m5, p5, q5, r5, t5⟩ := hob "InnerCaptures$Thing" 32 (by decide +kernel)
  obtain ⟨e6, o6, k6, m6, p6, q6, r6, t6⟩ := hob "InnerCaptures$Lambda" 34 (by decide +kernel)
  obtain ⟨e7, o7, k7, m7, p7, q7, r7, t7⟩ := hob "InnerCaptures$Level" 564 (by decide +kernel)
  have hk : ∀ {cell : Cell} {ty : FieldType}, s.isArrayOf cell ty → ∃ (kA : Class) (comp : ClassId), s.vm.classes[cell.cls]? = some kA ∧ kA.kind = .array comp ty := by
    intro cell ty h
    obtain ⟨-, k, hk, comp, hkk⟩ := h
    exact ⟨k, comp, hk, hkk⟩
  obtain ⟨dA, hdA⟩ : ∃ dA : Nat → ClassId, dA = fun k => match k with | 0 => e0 | 1 => e1 | 2 => e2 | 3 => e3 | 4 => e4 | 5 => e5 | 6 => e6 | 7 => e7 | 8 => cell0.cls | 9 => scr.cls | 10 => cell1.cls | _ => cell2.cls := ⟨_, rfl⟩
  obtain ⟨dZ, hdZ⟩ : ∃ dZ : Nat → Nat, dZ = fun k => match k with | 0 => z0 | 1 => z1 | 2 => z2 | _ => z3 := ⟨_, rfl⟩
  have n01 : x0 ≠ z0 := fun h => by
    subst h
    cases d1.symm.trans a1
    exact absurd (st_ty d2 a2) (by decide)
  have n02 : x0 ≠ z1 := fun h => by
    subst h
    cases d1.symm.trans b1
    exact absurd (st_ty d2 b2) (by decide)
  have n03 : x0 ≠ z2 := fun h => by
    subst h
    cases d1.symm.trans c1
    exact absurd (st_ty d2 c2) (by decide)
  have n12 : z0 ≠ z1 := fun h => by
    subst h
    cases a1.symm.trans b1
    exact absurd (st_ty a2 b2) (by decide)
  have n13 : z0 ≠ z2 := fun h => by
    subst h
    cases a1.symm.trans c1
    exact absurd (st_ty a2 c2) (by decide)
  have n23 : z1 ≠ z2 := fun h => by
    subst h
    cases b1.symm.trans c1
    have h1 := b6 1 (by decide)
    have h2 := c6 1 (by decide)
    rw [h1] at h2
    exact absurd (Value.int.inj (Option.some.inj h2)) (by decide +kernel)
  refine ⟨((dC, dI), dA, s.heap.size, s.heap, dZ), (st_M x0 z0 z1 z2 L xs, s.heap.size), rfl, ?_, ?_, ?_⟩
  · refine ⟨fun k q hq => (hD k q hq).1, fun k q hq => (hD k q hq).2, ?_, ?_, ?_, ⟨va_Nw.of rfl (tb 37 (by decide +kernel)), va_Nw.of rfl (tb 116 (by decide +kernel)), va_Nw.of rfl (tb 140 (by decide +kernel)), va_Nw.of rfl (tb 159 (by decide +kernel))⟩, ⟨va_Nw.of rfl (tb 41 (by decide +kernel)), va_Nw.of rfl (tb 582 (by decide +kernel)), va_Nw.of rfl (tb 601 (by decide +kernel)), va_Nw.of rfl (tb 595 (by decide +kernel))⟩, ⟨va_Nw.of rfl (tb 233 (by decide +kernel)), va_Nw.of rfl (tb 589 (by decide +kernel))⟩, ?_, ?_, ?_, ?_, Z3, ?_⟩
    · -- words
      intro w hw hg A
      have h0 : w.before #[Value.ref x0] s = true := by
        rcases List.mem_append.mp hw with h | h
        · obtain ⟨y, hy, rfl⟩ := List.mem_map.mp h
          have hsb : ∀ y : MethodName, y.cls = "java/lang/AbstractStringBuilder" → (Cond.privateMethod y).before #[Value.ref x0] s = true → (Cond.instanceMethod y).before #[Value.ref x0] s = true → (Cond.selects "java/lang/StringBuilder" y y).before #[Value.ref x0] s = true := fun y h1 h2 h3 => hm_selp h1 (N := 4) (tb 164 (by decide +kernel)) h2 h3 (tb 244 (by decide +kernel))
          simp only [List.mem_cons, List.not_mem_nil, or_false] at hy
          rcases hy with rfl | rfl | rfl | rfl | rfl | rfl
          · exact hsb _ rfl (tb 207 (by decide +kernel)) (tb 208 (by decide +kernel))
          · exact hsb _ rfl (tb 211 (by decide +kernel)) (tb 212 (by decide +kernel))
          · exact hsb _ rfl (tb 282 (by decide +kernel)) (tb 283 (by decide +kernel))
          · exact hsb _ rfl (tb 286 (by decide +kernel)) (tb 287 (by decide +kernel))
          · exact hsb _ rfl (tb 291 (by decide +kernel)) (tb 292 (by decide +kernel))
          · exact hsb _ rfl (tb 203 (by decide +kernel)) (tb 204 (by decide +kernel))
        · exact hts w h
      exact word_at (args := #[Value.ref x0]) (State.WarmedH.refl s) (good_of_word hg) h0
    · intro k hk12
      show ∃ (kA : Class) (comp : ClassId), s.vm.classes[dA k]? = some kA ∧ kA.kind = .array comp (hmT k)
      rw [hdA]
      match k, hk12 with
      | 0, _ => exact g0
      | 1, _ => exact g1
      | 2, _ => exact g2
      | 3, _ => exact g3
      | 4, _ => exact ⟨k4, m4, p4, q4⟩
      | 5, _ => exact ⟨k5, m5, p5, q5⟩
      | 6, _ => exact ⟨k6, m6, p6, q6⟩
      | 7, _ => exact ⟨k7, m7, p7, q7⟩
      | 8, _ => exact hk a2
      | 9, _ => exact hk d2
      | 10, _ => exact hk b2
      | 11, _ => exact hk c2
      | k + 12, h => omega
    · intro k hk8
      show va_RA s (dA k) (hmT k)
      rw [hdA]
      match k, hk8 with
      | 0, _ => exact f0
      | 1, _ => exact f1
      | 2, _ => exact f2
      | 3, _ => exact f3
      | 4, _ => exact ⟨k4, m4, p4, q4, r4, t4⟩
      | 5, _ => exact ⟨k5, m5, p5, q5, r5, t5⟩
      | 6, _ => exact ⟨k6, m6, p6, q6, r6, t6⟩
      | 7, _ => exact ⟨k7, m7, p7, q7, r7, t7⟩
      | k + 8, h => omega
    · intro k h4 h8 C hC
      rcases (show k = 4 ∨ k = 5 ∨ k = 6 ∨ k = 7 by omega) with rfl | rfl | rfl | rfl
      · cases hC; exact o4
      · cases hC; exact o5
      · cases hC; exact o6
      · cases hC; exact o7
    · show va_Z _ _ _ (.ref (dZ 0)) _ _ _
      rw [hdZ]; exact Z0
    · show va_Z _ _ _ (.ref (dZ 1)) _ _ _
      rw [hdZ]; exact Z1
    · show va_Z _ _ _ (.ref (dZ 2)) _ _ _
      rw [hdZ]; exact Z2
    · show va_Z _ _ _ (va_rf (match dZ 3 with | 0 => none | t + 1 => some t)) _ _ _
      rw [hdZ]; exact Z4
  · refine ⟨rfl, Nat.le_refl _, fun q _ => rfl, ?_⟩
    intro a e he
    replace he : st_M x0 z0 z1 z2 L xs a = some e := he
    unfold st_M at he
    split at he
    · rename_i h; subst h; cases he
      refine ⟨scr, d1, ?_, d2.1, d3, Nat.le_of_eq d4.symm, by rw [d4], d5, (by decide : 9 < 12), fun h => absurd (show 9 < 8 from h) (by decide)⟩
      exact (congrFun hdA 9).symm
    · split at he
      · rename_i h; subst h; cases he
        refine ⟨cell0, a1, ?_, a2.1, a3, a4, a5, fun j hj => absurd hj (Nat.not_lt_zero j), (by decide : 8 < 12), fun h => absurd h (by decide)⟩
        exact (congrFun hdA 8).symm
      · split at he
        · rename_i h; subst h; cases he
          refine ⟨cell1, b1, ?_, b2.1, b3, b4, b5, b6, (by decide : 10 < 12), fun h => absurd h (by decide)⟩
          exact (congrFun hdA 10).symm
        · split at he
          · rename_i h; subst h; cases he
            refine ⟨cell2, c1, ?_, c2.1, c3, c4, c5, c6, (by decide : 11 < 12), fun h => absurd h (by decide)⟩
            exact (congrFun hdA 11).symm
          · cases he
  · have hl0 : z0 < s.heap.size := (Array.getElem?_eq_some_iff.mp a1).1
    have hl1 : z1 < s.heap.size := (Array.getElem?_eq_some_iff.mp b1).1
    have hl2 : z2 < s.heap.size := (Array.getElem?_eq_some_iff.mp c1).1
    have w0 : dZ 0 = z0 := congrFun hdZ 0
    have w1 : dZ 1 = z1 := congrFun hdZ 1
    have w2 : dZ 2 = z2 := congrFun hdZ 2
    refine ⟨rfl, ?_, ?_, ?_, ?_, hbl, ?_, ?_, ?_⟩
    · show st_M x0 z0 z1 z2 L xs x0 = _; simp [st_M]
    · show st_M x0 z0 z1 z2 L xs (dZ 0) = _; rw [w0]; simp [st_M, Ne.symm n01]
    · show st_M x0 z0 z1 z2 L xs (dZ 1) = _; rw [w1]; simp [st_M, Ne.symm n02, Ne.symm n12]
    · show st_M x0 z0 z1 z2 L xs (dZ 2) = _; rw [w2]; simp [st_M, Ne.symm n03, Ne.symm n13, Ne.symm n23]
    · show dZ 0 < _; rw [w0]; exact hl0
    · show dZ 1 < _; rw [w1]; exact hl1
    · show dZ 2 < _; rw [w2]; exact hl2
